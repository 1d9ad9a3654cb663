section
-- ===== PART A: goes FIRST, ahead of the names: the tables' words, and 'selects' of the private methods out of them =====
/-- a private method of a class that the tables say can be made, by its rows of tables_1 -/
def lw_okq (q : MethodName × Nat) : Prop := (q.1.cls ≠ "java/lang/invoke/MethodHandle" ∧ q.1.cls ≠ "java/lang/invoke/VarHandle") ∧ Cond.instantiable q.1.cls q.2 ∈ tables_1 ∧ Cond.privateMethod q.1 ∈ tables_1 ∧ Cond.instanceMethod q.1 ∈ tables_1
theorem lw_p0 : lw_okq (⟨"ReadingConverter", "beginEdit", "()V"⟩, 6) := ⟨⟨by decide +kernel, by decide +kernel⟩, List.mem_of_getElem? (i := 13) (by decide +kernel), List.mem_of_getElem? (i := 270) (by decide +kernel), List.mem_of_getElem? (i := 271) (by decide +kernel)⟩
theorem lw_p1 : lw_okq (⟨"ReadingConverter", "isNoEntry", "(I)Z"⟩, 6) := ⟨⟨by decide +kernel, by decide +kernel⟩, List.mem_of_getElem? (i := 13) (by decide +kernel), List.mem_of_getElem? (i := 301) (by decide +kernel), List.mem_of_getElem? (i := 302) (by decide +kernel)⟩
theorem lw_p2 : lw_okq (⟨"ReadingConverter$Dictionary", "moveDown", "(I)V"⟩, 7) := ⟨⟨by decide +kernel, by decide +kernel⟩, List.mem_of_getElem? (i := 27) (by decide +kernel), List.mem_of_getElem? (i := 309) (by decide +kernel), List.mem_of_getElem? (i := 310) (by decide +kernel)⟩
theorem lw_p3 : lw_okq (⟨"ReadingConverter", "isNoInnerGap", "(I)Z"⟩, 6) := ⟨⟨by decide +kernel, by decide +kernel⟩, List.mem_of_getElem? (i := 13) (by decide +kernel), List.mem_of_getElem? (i := 373) (by decide +kernel), List.mem_of_getElem? (i := 374) (by decide +kernel)⟩
theorem lw_p4 : lw_okq (⟨"ReadingConverter", "isNoGap", "(I)Z"⟩, 6) := ⟨⟨by decide +kernel, by decide +kernel⟩, List.mem_of_getElem? (i := 13) (by decide +kernel), List.mem_of_getElem? (i := 381) (by decide +kernel), List.mem_of_getElem? (i := 382) (by decide +kernel)⟩
theorem lw_p5 : lw_okq (⟨"ReadingConverter", "presentPaths", "()LReadingConverter$Ranking;"⟩, 6) := ⟨⟨by decide +kernel, by decide +kernel⟩, List.mem_of_getElem? (i := 13) (by decide +kernel), List.mem_of_getElem? (i := 393) (by decide +kernel), List.mem_of_getElem? (i := 394) (by decide +kernel)⟩
theorem lw_p6 : lw_okq (⟨"ReadingConverter$Lattice", "sortByLength", "()V"⟩, 7) := ⟨⟨by decide +kernel, by decide +kernel⟩, List.mem_of_getElem? (i := 92) (by decide +kernel), List.mem_of_getElem? (i := 401) (by decide +kernel), List.mem_of_getElem? (i := 402) (by decide +kernel)⟩
theorem lw_p7 : lw_okq (⟨"ReadingConverter$Lattice", "addEntriesAt", "(I)V"⟩, 7) := ⟨⟨by decide +kernel, by decide +kernel⟩, List.mem_of_getElem? (i := 92) (by decide +kernel), List.mem_of_getElem? (i := 406) (by decide +kernel), List.mem_of_getElem? (i := 407) (by decide +kernel)⟩
theorem lw_p8 : lw_okq (⟨"ReadingConverter$Lattice", "addSlot", "(IIIII)V"⟩, 7) := ⟨⟨by decide +kernel, by decide +kernel⟩, List.mem_of_getElem? (i := 92) (by decide +kernel), List.mem_of_getElem? (i := 412) (by decide +kernel), List.mem_of_getElem? (i := 413) (by decide +kernel)⟩
theorem lw_p9 : lw_okq (⟨"ReadingConverter$Ranking", "findLeastTo", "()V"⟩, 14) := ⟨⟨by decide +kernel, by decide +kernel⟩, List.mem_of_getElem? (i := 163) (by decide +kernel), List.mem_of_getElem? (i := 424) (by decide +kernel), List.mem_of_getElem? (i := 425) (by decide +kernel)⟩
theorem lw_p10 : lw_okq (⟨"ReadingConverter$Ranking", "leastBefore", "(II)I"⟩, 14) := ⟨⟨by decide +kernel, by decide +kernel⟩, List.mem_of_getElem? (i := 163) (by decide +kernel), List.mem_of_getElem? (i := 434) (by decide +kernel), List.mem_of_getElem? (i := 435) (by decide +kernel)⟩
theorem lw_p11 : lw_okq (⟨"ReadingConverter$Ranking", "countPaths", "()V"⟩, 14) := ⟨⟨by decide +kernel, by decide +kernel⟩, List.mem_of_getElem? (i := 163) (by decide +kernel), List.mem_of_getElem? (i := 440) (by decide +kernel), List.mem_of_getElem? (i := 441) (by decide +kernel)⟩
theorem lw_p12 : lw_okq (⟨"ReadingConverter$Ranking", "listEnds", "()V"⟩, 14) := ⟨⟨by decide +kernel, by decide +kernel⟩, List.mem_of_getElem? (i := 163) (by decide +kernel), List.mem_of_getElem? (i := 448) (by decide +kernel), List.mem_of_getElem? (i := 449) (by decide +kernel)⟩
theorem lw_p13 : lw_okq (⟨"ReadingConverter$Ranking", "listState", "(II)V"⟩, 14) := ⟨⟨by decide +kernel, by decide +kernel⟩, List.mem_of_getElem? (i := 163) (by decide +kernel), List.mem_of_getElem? (i := 452) (by decide +kernel), List.mem_of_getElem? (i := 453) (by decide +kernel)⟩
theorem lw_p14 : lw_okq (⟨"ReadingConverter$Ranking", "openHeads", "(II)V"⟩, 14) := ⟨⟨by decide +kernel, by decide +kernel⟩, List.mem_of_getElem? (i := 163) (by decide +kernel), List.mem_of_getElem? (i := 456) (by decide +kernel), List.mem_of_getElem? (i := 457) (by decide +kernel)⟩
theorem lw_p15 : lw_okq (⟨"ReadingConverter$Ranking", "leastFrom", "(I)I"⟩, 14) := ⟨⟨by decide +kernel, by decide +kernel⟩, List.mem_of_getElem? (i := 163) (by decide +kernel), List.mem_of_getElem? (i := 460) (by decide +kernel), List.mem_of_getElem? (i := 461) (by decide +kernel)⟩
def lw_privs_1 : List (MethodName × Nat) := [(⟨"ReadingConverter", "beginEdit", "()V"⟩, 6), (⟨"ReadingConverter", "isNoEntry", "(I)Z"⟩, 6), (⟨"ReadingConverter$Dictionary", "moveDown", "(I)V"⟩, 7), (⟨"ReadingConverter", "isNoInnerGap", "(I)Z"⟩, 6), (⟨"ReadingConverter", "isNoGap", "(I)Z"⟩, 6), (⟨"ReadingConverter", "presentPaths", "()LReadingConverter$Ranking;"⟩, 6), (⟨"ReadingConverter$Lattice", "sortByLength", "()V"⟩, 7), (⟨"ReadingConverter$Lattice", "addEntriesAt", "(I)V"⟩, 7), (⟨"ReadingConverter$Lattice", "addSlot", "(IIIII)V"⟩, 7), (⟨"ReadingConverter$Ranking", "findLeastTo", "()V"⟩, 14), (⟨"ReadingConverter$Ranking", "leastBefore", "(II)I"⟩, 14), (⟨"ReadingConverter$Ranking", "countPaths", "()V"⟩, 14), (⟨"ReadingConverter$Ranking", "listEnds", "()V"⟩, 14), (⟨"ReadingConverter$Ranking", "listState", "(II)V"⟩, 14), (⟨"ReadingConverter$Ranking", "openHeads", "(II)V"⟩, 14), (⟨"ReadingConverter$Ranking", "leastFrom", "(I)I"⟩, 14)]
theorem lw_r1 : ∀ q ∈ lw_privs_1, lw_okq q := List.forall_mem_cons.mpr ⟨lw_p0, List.forall_mem_cons.mpr ⟨lw_p1, List.forall_mem_cons.mpr ⟨lw_p2, List.forall_mem_cons.mpr ⟨lw_p3, List.forall_mem_cons.mpr ⟨lw_p4, List.forall_mem_cons.mpr ⟨lw_p5, List.forall_mem_cons.mpr ⟨lw_p6, List.forall_mem_cons.mpr ⟨lw_p7, List.forall_mem_cons.mpr ⟨lw_p8, List.forall_mem_cons.mpr ⟨lw_p9, List.forall_mem_cons.mpr ⟨lw_p10, List.forall_mem_cons.mpr ⟨lw_p11, List.forall_mem_cons.mpr ⟨lw_p12, List.forall_mem_cons.mpr ⟨lw_p13, List.forall_mem_cons.mpr ⟨lw_p14, List.forall_mem_cons.mpr ⟨lw_p15, fun _ h => absurd h List.not_mem_nil⟩⟩⟩⟩⟩⟩⟩⟩⟩⟩⟩⟩⟩⟩⟩⟩
theorem lw_p16 : lw_okq (⟨"ReadingConverter$Ranking", "countBestWays", "(II)V"⟩, 14) := ⟨⟨by decide +kernel, by decide +kernel⟩, List.mem_of_getElem? (i := 163) (by decide +kernel), List.mem_of_getElem? (i := 464) (by decide +kernel), List.mem_of_getElem? (i := 465) (by decide +kernel)⟩
theorem lw_p17 : lw_okq (⟨"ReadingConverter$Ranking", "cheapestHead", "(I)I"⟩, 14) := ⟨⟨by decide +kernel, by decide +kernel⟩, List.mem_of_getElem? (i := 163) (by decide +kernel), List.mem_of_getElem? (i := 468) (by decide +kernel), List.mem_of_getElem? (i := 469) (by decide +kernel)⟩
theorem lw_p18 : lw_okq (⟨"ReadingConverter$Ranking", "takeHead", "(III)V"⟩, 14) := ⟨⟨by decide +kernel, by decide +kernel⟩, List.mem_of_getElem? (i := 163) (by decide +kernel), List.mem_of_getElem? (i := 472) (by decide +kernel), List.mem_of_getElem? (i := 473) (by decide +kernel)⟩
theorem lw_p19 : lw_okq (⟨"ReadingConverter", "findSegment", "(II)Z"⟩, 6) := ⟨⟨by decide +kernel, by decide +kernel⟩, List.mem_of_getElem? (i := 13) (by decide +kernel), List.mem_of_getElem? (i := 507) (by decide +kernel), List.mem_of_getElem? (i := 508) (by decide +kernel)⟩
theorem lw_p20 : lw_okq (⟨"ReadingConverter$Ranking", "leastThroughSlot", "(II)I"⟩, 14) := ⟨⟨by decide +kernel, by decide +kernel⟩, List.mem_of_getElem? (i := 163) (by decide +kernel), List.mem_of_getElem? (i := 523) (by decide +kernel), List.mem_of_getElem? (i := 524) (by decide +kernel)⟩
theorem lw_p21 : lw_okq (⟨"ReadingConverterModel", "begins", "(I)Z"⟩, 19) := ⟨⟨by decide +kernel, by decide +kernel⟩, List.mem_of_getElem? (i := 577) (by decide +kernel), List.mem_of_getElem? (i := 664) (by decide +kernel), List.mem_of_getElem? (i := 665) (by decide +kernel)⟩
theorem lw_p22 : lw_okq (⟨"ReadingConverterModel", "fault", "(I)I"⟩, 19) := ⟨⟨by decide +kernel, by decide +kernel⟩, List.mem_of_getElem? (i := 577) (by decide +kernel), List.mem_of_getElem? (i := 668) (by decide +kernel), List.mem_of_getElem? (i := 669) (by decide +kernel)⟩
theorem lw_p23 : lw_okq (⟨"ReadingConverterModel", "save", "()V"⟩, 19) := ⟨⟨by decide +kernel, by decide +kernel⟩, List.mem_of_getElem? (i := 577) (by decide +kernel), List.mem_of_getElem? (i := 672) (by decide +kernel), List.mem_of_getElem? (i := 673) (by decide +kernel)⟩
theorem lw_p24 : lw_okq (⟨"ReadingConverterModel", "isEntry", "(I)Z"⟩, 19) := ⟨⟨by decide +kernel, by decide +kernel⟩, List.mem_of_getElem? (i := 577) (by decide +kernel), List.mem_of_getElem? (i := 680) (by decide +kernel), List.mem_of_getElem? (i := 681) (by decide +kernel)⟩
theorem lw_p25 : lw_okq (⟨"ReadingConverterModel", "price", "(I)I"⟩, 19) := ⟨⟨by decide +kernel, by decide +kernel⟩, List.mem_of_getElem? (i := 577) (by decide +kernel), List.mem_of_getElem? (i := 696) (by decide +kernel), List.mem_of_getElem? (i := 697) (by decide +kernel)⟩
theorem lw_p26 : lw_okq (⟨"ReadingConverterModel", "changed", "(II)I"⟩, 19) := ⟨⟨by decide +kernel, by decide +kernel⟩, List.mem_of_getElem? (i := 577) (by decide +kernel), List.mem_of_getElem? (i := 712) (by decide +kernel), List.mem_of_getElem? (i := 713) (by decide +kernel)⟩
theorem lw_p27 : lw_okq (⟨"ReadingConverterModel", "stands", "(II)Z"⟩, 19) := ⟨⟨by decide +kernel, by decide +kernel⟩, List.mem_of_getElem? (i := 577) (by decide +kernel), List.mem_of_getElem? (i := 736) (by decide +kernel), List.mem_of_getElem? (i := 737) (by decide +kernel)⟩
theorem lw_p28 : lw_okq (⟨"ReadingConverterModel", "lay", "()V"⟩, 19) := ⟨⟨by decide +kernel, by decide +kernel⟩, List.mem_of_getElem? (i := 577) (by decide +kernel), List.mem_of_getElem? (i := 744) (by decide +kernel), List.mem_of_getElem? (i := 745) (by decide +kernel)⟩
theorem lw_p29 : lw_okq (⟨"ReadingConverterModel", "between", "(II)I"⟩, 19) := ⟨⟨by decide +kernel, by decide +kernel⟩, List.mem_of_getElem? (i := 577) (by decide +kernel), List.mem_of_getElem? (i := 748) (by decide +kernel), List.mem_of_getElem? (i := 749) (by decide +kernel)⟩
theorem lw_p30 : lw_okq (⟨"ReadingConverterModel", "findSegments", "(I)V"⟩, 19) := ⟨⟨by decide +kernel, by decide +kernel⟩, List.mem_of_getElem? (i := 577) (by decide +kernel), List.mem_of_getElem? (i := 752) (by decide +kernel), List.mem_of_getElem? (i := 753) (by decide +kernel)⟩
theorem lw_p31 : lw_okq (⟨"ReadingConverterModel", "mayCover", "(II)Z"⟩, 19) := ⟨⟨by decide +kernel, by decide +kernel⟩, List.mem_of_getElem? (i := 577) (by decide +kernel), List.mem_of_getElem? (i := 756) (by decide +kernel), List.mem_of_getElem? (i := 757) (by decide +kernel)⟩
def lw_privs_2 : List (MethodName × Nat) := [(⟨"ReadingConverter$Ranking", "countBestWays", "(II)V"⟩, 14), (⟨"ReadingConverter$Ranking", "cheapestHead", "(I)I"⟩, 14), (⟨"ReadingConverter$Ranking", "takeHead", "(III)V"⟩, 14), (⟨"ReadingConverter", "findSegment", "(II)Z"⟩, 6), (⟨"ReadingConverter$Ranking", "leastThroughSlot", "(II)I"⟩, 14), (⟨"ReadingConverterModel", "begins", "(I)Z"⟩, 19), (⟨"ReadingConverterModel", "fault", "(I)I"⟩, 19), (⟨"ReadingConverterModel", "save", "()V"⟩, 19), (⟨"ReadingConverterModel", "isEntry", "(I)Z"⟩, 19), (⟨"ReadingConverterModel", "price", "(I)I"⟩, 19), (⟨"ReadingConverterModel", "changed", "(II)I"⟩, 19), (⟨"ReadingConverterModel", "stands", "(II)Z"⟩, 19), (⟨"ReadingConverterModel", "lay", "()V"⟩, 19), (⟨"ReadingConverterModel", "between", "(II)I"⟩, 19), (⟨"ReadingConverterModel", "findSegments", "(I)V"⟩, 19), (⟨"ReadingConverterModel", "mayCover", "(II)Z"⟩, 19)]
theorem lw_r2 : ∀ q ∈ lw_privs_2, lw_okq q := List.forall_mem_cons.mpr ⟨lw_p16, List.forall_mem_cons.mpr ⟨lw_p17, List.forall_mem_cons.mpr ⟨lw_p18, List.forall_mem_cons.mpr ⟨lw_p19, List.forall_mem_cons.mpr ⟨lw_p20, List.forall_mem_cons.mpr ⟨lw_p21, List.forall_mem_cons.mpr ⟨lw_p22, List.forall_mem_cons.mpr ⟨lw_p23, List.forall_mem_cons.mpr ⟨lw_p24, List.forall_mem_cons.mpr ⟨lw_p25, List.forall_mem_cons.mpr ⟨lw_p26, List.forall_mem_cons.mpr ⟨lw_p27, List.forall_mem_cons.mpr ⟨lw_p28, List.forall_mem_cons.mpr ⟨lw_p29, List.forall_mem_cons.mpr ⟨lw_p30, List.forall_mem_cons.mpr ⟨lw_p31, fun _ h => absurd h List.not_mem_nil⟩⟩⟩⟩⟩⟩⟩⟩⟩⟩⟩⟩⟩⟩⟩⟩
theorem lw_p32 : lw_okq (⟨"ReadingConverterModel", "endOf", "(II)I"⟩, 19) := ⟨⟨by decide +kernel, by decide +kernel⟩, List.mem_of_getElem? (i := 577) (by decide +kernel), List.mem_of_getElem? (i := 760) (by decide +kernel), List.mem_of_getElem? (i := 761) (by decide +kernel)⟩
theorem lw_p33 : lw_okq (⟨"ReadingConverterModel", "layPlace", "(II)V"⟩, 19) := ⟨⟨by decide +kernel, by decide +kernel⟩, List.mem_of_getElem? (i := 577) (by decide +kernel), List.mem_of_getElem? (i := 768) (by decide +kernel), List.mem_of_getElem? (i := 769) (by decide +kernel)⟩
theorem lw_p34 : lw_okq (⟨"ReadingConverterModel", "classOf", "(I)I"⟩, 19) := ⟨⟨by decide +kernel, by decide +kernel⟩, List.mem_of_getElem? (i := 577) (by decide +kernel), List.mem_of_getElem? (i := 772) (by decide +kernel), List.mem_of_getElem? (i := 773) (by decide +kernel)⟩
theorem lw_p35 : lw_okq (⟨"ReadingConverterModel", "segmentCost", "(I)I"⟩, 19) := ⟨⟨by decide +kernel, by decide +kernel⟩, List.mem_of_getElem? (i := 577) (by decide +kernel), List.mem_of_getElem? (i := 776) (by decide +kernel), List.mem_of_getElem? (i := 777) (by decide +kernel)⟩
theorem lw_p36 : lw_okq (⟨"ReadingConverterModel", "insert", "(IIII)V"⟩, 19) := ⟨⟨by decide +kernel, by decide +kernel⟩, List.mem_of_getElem? (i := 577) (by decide +kernel), List.mem_of_getElem? (i := 780) (by decide +kernel), List.mem_of_getElem? (i := 781) (by decide +kernel)⟩
theorem lw_p37 : lw_okq (⟨"ReadingConverterModel", "follow", "(I)Z"⟩, 19) := ⟨⟨by decide +kernel, by decide +kernel⟩, List.mem_of_getElem? (i := 577) (by decide +kernel), List.mem_of_getElem? (i := 792) (by decide +kernel), List.mem_of_getElem? (i := 793) (by decide +kernel)⟩
theorem lw_p38 : lw_okq (⟨"ReadingConverterModel", "layAhead", "()V"⟩, 19) := ⟨⟨by decide +kernel, by decide +kernel⟩, List.mem_of_getElem? (i := 577) (by decide +kernel), List.mem_of_getElem? (i := 808) (by decide +kernel), List.mem_of_getElem? (i := 809) (by decide +kernel)⟩
def lw_privs_3 : List (MethodName × Nat) := [(⟨"ReadingConverterModel", "endOf", "(II)I"⟩, 19), (⟨"ReadingConverterModel", "layPlace", "(II)V"⟩, 19), (⟨"ReadingConverterModel", "classOf", "(I)I"⟩, 19), (⟨"ReadingConverterModel", "segmentCost", "(I)I"⟩, 19), (⟨"ReadingConverterModel", "insert", "(IIII)V"⟩, 19), (⟨"ReadingConverterModel", "follow", "(I)Z"⟩, 19), (⟨"ReadingConverterModel", "layAhead", "()V"⟩, 19)]
theorem lw_r3 : ∀ q ∈ lw_privs_3, lw_okq q := List.forall_mem_cons.mpr ⟨lw_p32, List.forall_mem_cons.mpr ⟨lw_p33, List.forall_mem_cons.mpr ⟨lw_p34, List.forall_mem_cons.mpr ⟨lw_p35, List.forall_mem_cons.mpr ⟨lw_p36, List.forall_mem_cons.mpr ⟨lw_p37, List.forall_mem_cons.mpr ⟨lw_p38, fun _ h => absurd h List.not_mem_nil⟩⟩⟩⟩⟩⟩⟩
def lw_privs : List (MethodName × Nat) := lw_privs_1 ++ (lw_privs_2 ++ (lw_privs_3))
def lw_tbl : List Cond := k2_sels lw_privs ++ tables_1
theorem lw_privs_ok : ∀ q ∈ lw_privs, lw_okq q := by
  show ∀ q ∈ lw_privs_1 ++ (lw_privs_2 ++ (lw_privs_3)), lw_okq q
  exact List.forall_mem_append.mpr ⟨lw_r1, List.forall_mem_append.mpr ⟨lw_r2, lw_r3⟩⟩
end
section
def RX0 : String := "ReadingConverter$Dictionary"
def TX0 : u_T := fun k => match k with
  | 0 => ("ReadingConverter$Dictionary", "letters", "[I", true)
  | 1 => ("ReadingConverter$Dictionary", "lengths", "[I", true)
  | 2 => ("ReadingConverter$Dictionary", "words", "[I", true)
  | 3 => ("ReadingConverter$Dictionary", "classes", "[I", true)
  | 4 => ("ReadingConverter$Dictionary", "baseCosts", "[I", true)
  | 5 => ("ReadingConverter$Dictionary", "uses", "[I", true)
  | _ => ("ReadingConverter$Dictionary", "size", "I", false)
def tyX0 : Nat → FieldType := fun k => match k with
  | 0 => .array .int
  | 1 => .array .int
  | 2 => .array .int
  | 3 => .array .int
  | 4 => .array .int
  | 5 => .array .int
  | _ => .int
abbrev wsX00 : List Cond := u_ws RX0 TX0 7
theorem nmX0 : ∀ a, a < 7 → ∀ b, b < 7 → a ≠ b → (TX0 a).2.1 ≠ (TX0 b).2.1 := by decide +kernel
theorem tyX0_ok : ∀ k, k < 7 → parseFieldDescriptor (TX0 k).2.2.1 = some (tyX0 k) := by decide +kernel
abbrev cX0_init : ByteArray := prog_2_method_1_code
def yX0_init : MethodName := ⟨RX0, "<init>", "()V"⟩
abbrev cX0_copyFrom : ByteArray := prog_2_method_2_code
def yX0_copyFrom : MethodName := ⟨RX0, "copyFrom", "(LReadingConverter$Dictionary;)V"⟩
abbrev cX0_append : ByteArray := prog_2_method_3_code
def yX0_append : MethodName := ⟨RX0, "append", "(LReadingConverter$Text;III)V"⟩
abbrev cX0_drop : ByteArray := prog_2_method_4_code
def yX0_drop : MethodName := ⟨RX0, "drop", "(I)V"⟩
abbrev cX0_moveDown : ByteArray := prog_2_method_5_code
def yX0_moveDown : MethodName := ⟨RX0, "moveDown", "(I)V"⟩
abbrev cX0_beginsWith : ByteArray := prog_2_method_6_code
def yX0_beginsWith : MethodName := ⟨RX0, "beginsWith", "(ILReadingConverter$Text;)Z"⟩
abbrev cX0_holds : ByteArray := prog_2_method_7_code
def yX0_holds : MethodName := ⟨RX0, "holds", "(LReadingConverter$Text;II)Z"⟩
abbrev cX0_presentCost : ByteArray := prog_2_method_8_code
def yX0_presentCost : MethodName := ⟨RX0, "presentCost", "(I)I"⟩
abbrev cX0_learn : ByteArray := prog_2_method_9_code
def yX0_learn : MethodName := ⟨RX0, "learn", "(I)Z"⟩
abbrev cX0_sumOfUses : ByteArray := prog_2_method_10_code
def yX0_sumOfUses : MethodName := ⟨RX0, "sumOfUses", "()I"⟩
def RX1 : String := "ReadingConverter$History"
def TX1 : u_T := fun k => match k with
  | 0 => ("ReadingConverter$History", "ring", "[LReadingConverter$Model;", true)
  | 1 => ("ReadingConverter$History", "next", "I", false)
  | _ => ("ReadingConverter$History", "size", "I", false)
def tyX1 : Nat → FieldType := fun k => match k with
  | 0 => .array (.object "ReadingConverter$Model")
  | 1 => .int
  | _ => .int
abbrev wsX10 : List Cond := u_ws RX1 TX1 3
theorem nmX1 : ∀ a, a < 3 → ∀ b, b < 3 → a ≠ b → (TX1 a).2.1 ≠ (TX1 b).2.1 := by decide +kernel
theorem tyX1_ok : ∀ k, k < 3 → parseFieldDescriptor (TX1 k).2.2.1 = some (tyX1 k) := by decide +kernel
abbrev cX1_init : ByteArray := prog_3_method_1_code
def yX1_init : MethodName := ⟨RX1, "<init>", "()V"⟩
abbrev cX1_keep : ByteArray := prog_3_method_2_code
def yX1_keep : MethodName := ⟨RX1, "keep", "(LReadingConverter$Model;)V"⟩
abbrev cX1_bringBack : ByteArray := prog_3_method_3_code
def yX1_bringBack : MethodName := ⟨RX1, "bringBack", "(LReadingConverter$Model;)V"⟩
def RX2 : String := "ReadingConverter$Lattice"
def TX2 : u_T := fun k => match k with
  | 0 => ("ReadingConverter$Lattice", "model", "LReadingConverter$Model;", true)
  | 1 => ("ReadingConverter$Lattice", "byLength", "[I", true)
  | 2 => ("ReadingConverter$Lattice", "slotsAt", "[I", true)
  | 3 => ("ReadingConverter$Lattice", "entries", "[I", true)
  | 4 => ("ReadingConverter$Lattice", "ends", "[I", true)
  | 5 => ("ReadingConverter$Lattice", "classes", "[I", true)
  | _ => ("ReadingConverter$Lattice", "costs", "[I", true)
def tyX2 : Nat → FieldType := fun k => match k with
  | 0 => .object "ReadingConverter$Model"
  | 1 => .array .int
  | 2 => .array .int
  | 3 => .array .int
  | 4 => .array .int
  | 5 => .array .int
  | _ => .array .int
abbrev wsX20 : List Cond := u_ws RX2 TX2 7
theorem nmX2 : ∀ a, a < 7 → ∀ b, b < 7 → a ≠ b → (TX2 a).2.1 ≠ (TX2 b).2.1 := by decide +kernel
theorem tyX2_ok : ∀ k, k < 7 → parseFieldDescriptor (TX2 k).2.2.1 = some (tyX2 k) := by decide +kernel
abbrev cX2_init : ByteArray := prog_4_method_1_code
def yX2_init : MethodName := ⟨RX2, "<init>", "(LReadingConverter$Model;)V"⟩
abbrev cX2_build : ByteArray := prog_4_method_2_code
def yX2_build : MethodName := ⟨RX2, "build", "()V"⟩
abbrev cX2_sortByLength : ByteArray := prog_4_method_3_code
def yX2_sortByLength : MethodName := ⟨RX2, "sortByLength", "()V"⟩
abbrev cX2_addEntriesAt : ByteArray := prog_4_method_4_code
def yX2_addEntriesAt : MethodName := ⟨RX2, "addEntriesAt", "(I)V"⟩
abbrev cX2_addSlot : ByteArray := prog_4_method_5_code
def yX2_addSlot : MethodName := ⟨RX2, "addSlot", "(IIIII)V"⟩
abbrev cX2_stateBehind : ByteArray := prog_4_method_6_code
def yX2_stateBehind : MethodName := ⟨RX2, "stateBehind", "(I)I"⟩
def RX3 : String := "ReadingConverter$Model"
def TX3 : u_T := fun k => match k with
  | 0 => ("ReadingConverter$Model", "dictionary", "LReadingConverter$Dictionary;", true)
  | 1 => ("ReadingConverter$Model", "connections", "[I", true)
  | 2 => ("ReadingConverter$Model", "input", "[I", true)
  | 3 => ("ReadingConverter$Model", "constraints", "[I", true)
  | 4 => ("ReadingConverter$Model", "unknownCost", "I", false)
  | _ => ("ReadingConverter$Model", "inputSize", "I", false)
def tyX3 : Nat → FieldType := fun k => match k with
  | 0 => .object "ReadingConverter$Dictionary"
  | 1 => .array .int
  | 2 => .array .int
  | 3 => .array .int
  | 4 => .int
  | _ => .int
abbrev wsX30 : List Cond := u_ws RX3 TX3 6
theorem nmX3 : ∀ a, a < 6 → ∀ b, b < 6 → a ≠ b → (TX3 a).2.1 ≠ (TX3 b).2.1 := by decide +kernel
theorem tyX3_ok : ∀ k, k < 6 → parseFieldDescriptor (TX3 k).2.2.1 = some (tyX3 k) := by decide +kernel
abbrev cX3_init : ByteArray := prog_5_method_1_code
def yX3_init : MethodName := ⟨RX3, "<init>", "()V"⟩
abbrev cX3_copyFrom : ByteArray := prog_5_method_2_code
def yX3_copyFrom : MethodName := ⟨RX3, "copyFrom", "(LReadingConverter$Model;)V"⟩
abbrev cX3_takeInput : ByteArray := prog_5_method_3_code
def yX3_takeInput : MethodName := ⟨RX3, "takeInput", "(LReadingConverter$Text;)V"⟩
abbrev cX3_connection : ByteArray := prog_5_method_4_code
def yX3_connection : MethodName := ⟨RX3, "connection", "(II)I"⟩
abbrev cX3_standsAt : ByteArray := prog_5_method_5_code
def yX3_standsAt : MethodName := ⟨RX3, "standsAt", "(II)Z"⟩
abbrev cX3_allowsSegment : ByteArray := prog_5_method_6_code
def yX3_allowsSegment : MethodName := ⟨RX3, "allowsSegment", "(II)Z"⟩
def RX4 : String := "ReadingConverter$Ranking"
def TX4 : u_T := fun k => match k with
  | 0 => ("ReadingConverter$Ranking", "model", "LReadingConverter$Model;", true)
  | 1 => ("ReadingConverter$Ranking", "lattice", "LReadingConverter$Lattice;", true)
  | 2 => ("ReadingConverter$Ranking", "leastTo", "[I", true)
  | 3 => ("ReadingConverter$Ranking", "bestWays", "[I", true)
  | 4 => ("ReadingConverter$Ranking", "listSizes", "[I", true)
  | 5 => ("ReadingConverter$Ranking", "listCosts", "[I", true)
  | 6 => ("ReadingConverter$Ranking", "listSlots", "[I", true)
  | 7 => ("ReadingConverter$Ranking", "listRests", "[I", true)
  | 8 => ("ReadingConverter$Ranking", "headCosts", "[I", true)
  | 9 => ("ReadingConverter$Ranking", "headRests", "[I", true)
  | 10 => ("ReadingConverter$Ranking", "countsFrom", "[I", true)
  | 11 => ("ReadingConverter$Ranking", "trailStart", "[I", true)
  | 12 => ("ReadingConverter$Ranking", "trailEntry", "[I", true)
  | _ => ("ReadingConverter$Ranking", "trailLength", "I", false)
def tyX4 : Nat → FieldType := fun k => match k with
  | 0 => .object "ReadingConverter$Model"
  | 1 => .object "ReadingConverter$Lattice"
  | 2 => .array .int
  | 3 => .array .int
  | 4 => .array .int
  | 5 => .array .int
  | 6 => .array .int
  | 7 => .array .int
  | 8 => .array .int
  | 9 => .array .int
  | 10 => .array .int
  | 11 => .array .int
  | 12 => .array .int
  | _ => .int
abbrev wsX40 : List Cond := u_ws RX4 TX4 14
theorem nmX4 : ∀ a, a < 14 → ∀ b, b < 14 → a ≠ b → (TX4 a).2.1 ≠ (TX4 b).2.1 := by decide +kernel
theorem tyX4_ok : ∀ k, k < 14 → parseFieldDescriptor (TX4 k).2.2.1 = some (tyX4 k) := by decide +kernel
abbrev cX4_init : ByteArray := prog_6_method_1_code
def yX4_init : MethodName := ⟨RX4, "<init>", "(LReadingConverter$Model;LReadingConverter$Lattice;)V"⟩
abbrev cX4_build : ByteArray := prog_6_method_2_code
def yX4_build : MethodName := ⟨RX4, "build", "()V"⟩
abbrev cX4_findLeastTo : ByteArray := prog_6_method_3_code
def yX4_findLeastTo : MethodName := ⟨RX4, "findLeastTo", "()V"⟩
abbrev cX4_leastBefore : ByteArray := prog_6_method_4_code
def yX4_leastBefore : MethodName := ⟨RX4, "leastBefore", "(II)I"⟩
abbrev cX4_countPaths : ByteArray := prog_6_method_5_code
def yX4_countPaths : MethodName := ⟨RX4, "countPaths", "()V"⟩
abbrev cX4_cappedSum : ByteArray := prog_6_method_6_code
def yX4_cappedSum : MethodName := ⟨RX4, "cappedSum", "(II)I"⟩
abbrev cX4_listEnds : ByteArray := prog_6_method_7_code
def yX4_listEnds : MethodName := ⟨RX4, "listEnds", "()V"⟩
abbrev cX4_listState : ByteArray := prog_6_method_8_code
def yX4_listState : MethodName := ⟨RX4, "listState", "(II)V"⟩
abbrev cX4_openHeads : ByteArray := prog_6_method_9_code
def yX4_openHeads : MethodName := ⟨RX4, "openHeads", "(II)V"⟩
abbrev cX4_leastFrom : ByteArray := prog_6_method_10_code
def yX4_leastFrom : MethodName := ⟨RX4, "leastFrom", "(I)I"⟩
abbrev cX4_countBestWays : ByteArray := prog_6_method_11_code
def yX4_countBestWays : MethodName := ⟨RX4, "countBestWays", "(II)V"⟩
abbrev cX4_cheapestHead : ByteArray := prog_6_method_12_code
def yX4_cheapestHead : MethodName := ⟨RX4, "cheapestHead", "(I)I"⟩
abbrev cX4_takeHead : ByteArray := prog_6_method_13_code
def yX4_takeHead : MethodName := ⟨RX4, "takeHead", "(III)V"⟩
abbrev cX4_allPaths : ByteArray := prog_6_method_14_code
def yX4_allPaths : MethodName := ⟨RX4, "allPaths", "()I"⟩
abbrev cX4_bestPaths : ByteArray := prog_6_method_15_code
def yX4_bestPaths : MethodName := ⟨RX4, "bestPaths", "()I"⟩
abbrev cX4_hasRank : ByteArray := prog_6_method_16_code
def yX4_hasRank : MethodName := ⟨RX4, "hasRank", "(I)Z"⟩
abbrev cX4_costAtRank : ByteArray := prog_6_method_17_code
def yX4_costAtRank : MethodName := ⟨RX4, "costAtRank", "(I)I"⟩
abbrev cX4_walk : ByteArray := prog_6_method_18_code
def yX4_walk : MethodName := ⟨RX4, "walk", "(I)V"⟩
abbrev cX4_trailHolds : ByteArray := prog_6_method_19_code
def yX4_trailHolds : MethodName := ⟨RX4, "trailHolds", "(I)Z"⟩
abbrev cX4_leastThroughSlot : ByteArray := prog_6_method_20_code
def yX4_leastThroughSlot : MethodName := ⟨RX4, "leastThroughSlot", "(II)I"⟩
abbrev cX4_leastThroughEntry : ByteArray := prog_6_method_21_code
def yX4_leastThroughEntry : MethodName := ⟨RX4, "leastThroughEntry", "(II)I"⟩
abbrev cX4_leastEndingAt : ByteArray := prog_6_method_22_code
def yX4_leastEndingAt : MethodName := ⟨RX4, "leastEndingAt", "(I)I"⟩
abbrev cX4_leastCrossing : ByteArray := prog_6_method_23_code
def yX4_leastCrossing : MethodName := ⟨RX4, "leastCrossing", "(I)I"⟩
def RX5 : String := "ReadingConverter$Text"
def TX5 : u_T := fun k => match k with
  | 0 => ("ReadingConverter$Text", "codes", "[I", true)
  | _ => ("ReadingConverter$Text", "length", "I", false)
def tyX5 : Nat → FieldType := fun k => match k with
  | 0 => .array .int
  | _ => .int
abbrev wsX50 : List Cond := u_ws RX5 TX5 2
theorem nmX5 : ∀ a, a < 2 → ∀ b, b < 2 → a ≠ b → (TX5 a).2.1 ≠ (TX5 b).2.1 := by decide +kernel
theorem tyX5_ok : ∀ k, k < 2 → parseFieldDescriptor (TX5 k).2.2.1 = some (tyX5 k) := by decide +kernel
abbrev cX5_init : ByteArray := prog_7_method_1_code
def yX5_init : MethodName := ⟨RX5, "<init>", "()V"⟩
abbrev cX5_push : ByteArray := prog_7_method_2_code
def yX5_push : MethodName := ⟨RX5, "push", "(I)V"⟩
abbrev cX5_readingError : ByteArray := prog_7_method_3_code
def yX5_readingError : MethodName := ⟨RX5, "readingError", "()I"⟩
abbrev cX5_firstError : ByteArray := prog_7_method_4_code
def yX5_firstError : MethodName := ⟨RX5, "firstError", "(I)I"⟩
def RX6 : String := "ReadingConverter"
def TX6 : u_T := fun k => match k with
  | 0 => ("ReadingConverter", "text", "LReadingConverter$Text;", true)
  | 1 => ("ReadingConverter", "model", "LReadingConverter$Model;", true)
  | 2 => ("ReadingConverter", "history", "LReadingConverter$History;", true)
  | 3 => ("ReadingConverter", "lattice", "LReadingConverter$Lattice;", true)
  | 4 => ("ReadingConverter", "ranking", "LReadingConverter$Ranking;", true)
  | _ => ("ReadingConverter", "pathsAreStale", "Z", false)
def tyX6 : Nat → FieldType := fun k => match k with
  | 0 => .object "ReadingConverter$Text"
  | 1 => .object "ReadingConverter$Model"
  | 2 => .object "ReadingConverter$History"
  | 3 => .object "ReadingConverter$Lattice"
  | 4 => .object "ReadingConverter$Ranking"
  | _ => .boolean
abbrev wsX60 : List Cond := u_ws RX6 TX6 6
theorem nmX6 : ∀ a, a < 6 → ∀ b, b < 6 → a ≠ b → (TX6 a).2.1 ≠ (TX6 b).2.1 := by decide +kernel
theorem tyX6_ok : ∀ k, k < 6 → parseFieldDescriptor (TX6 k).2.2.1 = some (tyX6 k) := by decide +kernel
abbrev cX6_init : ByteArray := prog_1_method_1_code
def yX6_init : MethodName := ⟨RX6, "<init>", "()V"⟩
abbrev cX6_appendCharacter : ByteArray := prog_1_method_2_code
def yX6_appendCharacter : MethodName := ⟨RX6, "appendCharacter", "(I)I"⟩
abbrev cX6_clearText : ByteArray := prog_1_method_3_code
def yX6_clearText : MethodName := ⟨RX6, "clearText", "()I"⟩
abbrev cX6_addEntry : ByteArray := prog_1_method_4_code
def yX6_addEntry : MethodName := ⟨RX6, "addEntry", "(III)I"⟩
abbrev cX6_removeEntry : ByteArray := prog_1_method_5_code
def yX6_removeEntry : MethodName := ⟨RX6, "removeEntry", "(I)I"⟩
abbrev cX6_entryCount : ByteArray := prog_1_method_6_code
def yX6_entryCount : MethodName := ⟨RX6, "entryCount", "()I"⟩
abbrev cX6_wordOf : ByteArray := prog_1_method_7_code
def yX6_wordOf : MethodName := ⟨RX6, "wordOf", "(I)I"⟩
abbrev cX6_costOf : ByteArray := prog_1_method_8_code
def yX6_costOf : MethodName := ⟨RX6, "costOf", "(I)I"⟩
abbrev cX6_useCount : ByteArray := prog_1_method_9_code
def yX6_useCount : MethodName := ⟨RX6, "useCount", "(I)I"⟩
abbrev cX6_entriesWithPrefix : ByteArray := prog_1_method_10_code
def yX6_entriesWithPrefix : MethodName := ⟨RX6, "entriesWithPrefix", "()I"⟩
abbrev cX6_setConnection : ByteArray := prog_1_method_11_code
def yX6_setConnection : MethodName := ⟨RX6, "setConnection", "(III)I"⟩
abbrev cX6_setUnknownCost : ByteArray := prog_1_method_12_code
def yX6_setUnknownCost : MethodName := ⟨RX6, "setUnknownCost", "(I)I"⟩
abbrev cX6_setInput : ByteArray := prog_1_method_13_code
def yX6_setInput : MethodName := ⟨RX6, "setInput", "()I"⟩
abbrev cX6_inputLength : ByteArray := prog_1_method_14_code
def yX6_inputLength : MethodName := ⟨RX6, "inputLength", "()I"⟩
abbrev cX6_setConstraint : ByteArray := prog_1_method_15_code
def yX6_setConstraint : MethodName := ⟨RX6, "setConstraint", "(II)I"⟩
abbrev cX6_segmentsAt : ByteArray := prog_1_method_16_code
def yX6_segmentsAt : MethodName := ⟨RX6, "segmentsAt", "(I)I"⟩
abbrev cX6_pathCount : ByteArray := prog_1_method_17_code
def yX6_pathCount : MethodName := ⟨RX6, "pathCount", "()I"⟩
abbrev cX6_pathCost : ByteArray := prog_1_method_18_code
def yX6_pathCost : MethodName := ⟨RX6, "pathCost", "(I)I"⟩
abbrev cX6_segmentCount : ByteArray := prog_1_method_19_code
def yX6_segmentCount : MethodName := ⟨RX6, "segmentCount", "(I)I"⟩
abbrev cX6_segmentStart : ByteArray := prog_1_method_20_code
def yX6_segmentStart : MethodName := ⟨RX6, "segmentStart", "(II)I"⟩
abbrev cX6_segmentEntry : ByteArray := prog_1_method_21_code
def yX6_segmentEntry : MethodName := ⟨RX6, "segmentEntry", "(II)I"⟩
abbrev cX6_bestThrough : ByteArray := prog_1_method_22_code
def yX6_bestThrough : MethodName := ⟨RX6, "bestThrough", "(II)I"⟩
abbrev cX6_boundaryInBest : ByteArray := prog_1_method_23_code
def yX6_boundaryInBest : MethodName := ⟨RX6, "boundaryInBest", "(I)I"⟩
abbrev cX6_bestCount : ByteArray := prog_1_method_24_code
def yX6_bestCount : MethodName := ⟨RX6, "bestCount", "()I"⟩
abbrev cX6_choose : ByteArray := prog_1_method_25_code
def yX6_choose : MethodName := ⟨RX6, "choose", "(I)I"⟩
abbrev cX6_forget : ByteArray := prog_1_method_26_code
def yX6_forget : MethodName := ⟨RX6, "forget", "()I"⟩
abbrev cX6_undo : ByteArray := prog_1_method_27_code
def yX6_undo : MethodName := ⟨RX6, "undo", "()I"⟩
abbrev cX6_beginEdit : ByteArray := prog_1_method_28_code
def yX6_beginEdit : MethodName := ⟨RX6, "beginEdit", "()V"⟩
abbrev cX6_presentPaths : ByteArray := prog_1_method_29_code
def yX6_presentPaths : MethodName := ⟨RX6, "presentPaths", "()LReadingConverter$Ranking;"⟩
abbrev cX6_findSegment : ByteArray := prog_1_method_30_code
def yX6_findSegment : MethodName := ⟨RX6, "findSegment", "(II)Z"⟩
abbrev cX6_isNoEntry : ByteArray := prog_1_method_31_code
def yX6_isNoEntry : MethodName := ⟨RX6, "isNoEntry", "(I)Z"⟩
abbrev cX6_isNoGap : ByteArray := prog_1_method_32_code
def yX6_isNoGap : MethodName := ⟨RX6, "isNoGap", "(I)Z"⟩
abbrev cX6_isNoInnerGap : ByteArray := prog_1_method_33_code
def yX6_isNoInnerGap : MethodName := ⟨RX6, "isNoInnerGap", "(I)Z"⟩
abbrev cX6_isNoRank : ByteArray := prog_1_method_34_code
def yX6_isNoRank : MethodName := ⟨RX6, "isNoRank", "(I)Z"⟩
abbrev cX6_isOutside : ByteArray := prog_1_method_35_code
def yX6_isOutside : MethodName := ⟨RX6, "isOutside", "(III)Z"⟩
def RX7 : String := "ReadingConverterModel"
def TX7 : u_T := fun k => match k with
  | 0 => ("ReadingConverterModel", "now", "[I", true)
  | 1 => ("ReadingConverterModel", "past", "[I", true)
  | 2 => ("ReadingConverterModel", "edits", "I", false)
  | 3 => ("ReadingConverterModel", "text", "[I", true)
  | 4 => ("ReadingConverterModel", "typed", "I", false)
  | 5 => ("ReadingConverterModel", "isLaid", "Z", false)
  | 6 => ("ReadingConverterModel", "segments", "I", false)
  | 7 => ("ReadingConverterModel", "segment", "[I", true)
  | 8 => ("ReadingConverterModel", "waysMany", "[I", true)
  | 9 => ("ReadingConverterModel", "wayCost", "[I", true)
  | 10 => ("ReadingConverterModel", "waySegment", "[I", true)
  | 11 => ("ReadingConverterModel", "wayNext", "[I", true)
  | 12 => ("ReadingConverterModel", "leastMany", "[I", true)
  | 13 => ("ReadingConverterModel", "all", "[I", true)
  | 14 => ("ReadingConverterModel", "pathMany", "I", false)
  | 15 => ("ReadingConverterModel", "starts", "[I", true)
  | 16 => ("ReadingConverterModel", "parts", "[I", true)
  | 17 => ("ReadingConverterModel", "ahead", "[I", true)
  | _ => ("ReadingConverterModel", "isBest", "[Z", true)
def tyX7 : Nat → FieldType := fun k => match k with
  | 0 => .array .int
  | 1 => .array .int
  | 2 => .int
  | 3 => .array .int
  | 4 => .int
  | 5 => .boolean
  | 6 => .int
  | 7 => .array .int
  | 8 => .array .int
  | 9 => .array .int
  | 10 => .array .int
  | 11 => .array .int
  | 12 => .array .int
  | 13 => .array .int
  | 14 => .int
  | 15 => .array .int
  | 16 => .array .int
  | 17 => .array .int
  | _ => .array .boolean
abbrev wsX70 : List Cond := u_ws RX7 TX7 19
theorem nmX7 : ∀ a, a < 19 → ∀ b, b < 19 → a ≠ b → (TX7 a).2.1 ≠ (TX7 b).2.1 := by decide +kernel
theorem tyX7_ok : ∀ k, k < 19 → parseFieldDescriptor (TX7 k).2.2.1 = some (tyX7 k) := by decide +kernel
abbrev cX7_init : ByteArray := prog_9_method_1_code
def yX7_init : MethodName := ⟨RX7, "<init>", "()V"⟩
abbrev cX7_in : ByteArray := prog_9_method_3_code
def yX7_in : MethodName := ⟨RX7, "in", "(III)Z"⟩
abbrev cX7_save : ByteArray := prog_9_method_4_code
def yX7_save : MethodName := ⟨RX7, "save", "()V"⟩
abbrev cX7_undo : ByteArray := prog_9_method_5_code
def yX7_undo : MethodName := ⟨RX7, "undo", "()I"⟩
abbrev cX7_appendCharacter : ByteArray := prog_9_method_6_code
def yX7_appendCharacter : MethodName := ⟨RX7, "appendCharacter", "(I)I"⟩
abbrev cX7_clearText : ByteArray := prog_9_method_7_code
def yX7_clearText : MethodName := ⟨RX7, "clearText", "()I"⟩
abbrev cX7_fault : ByteArray := prog_9_method_8_code
def yX7_fault : MethodName := ⟨RX7, "fault", "(I)I"⟩
abbrev cX7_at : ByteArray := prog_9_method_9_code
def yX7_at : MethodName := ⟨RX7, "at", "(I)I"⟩
abbrev cX7_isEntry : ByteArray := prog_9_method_10_code
def yX7_isEntry : MethodName := ⟨RX7, "isEntry", "(I)Z"⟩
abbrev cX7_begins : ByteArray := prog_9_method_11_code
def yX7_begins : MethodName := ⟨RX7, "begins", "(I)Z"⟩
abbrev cX7_addEntry : ByteArray := prog_9_method_12_code
def yX7_addEntry : MethodName := ⟨RX7, "addEntry", "(III)I"⟩
abbrev cX7_removeEntry : ByteArray := prog_9_method_13_code
def yX7_removeEntry : MethodName := ⟨RX7, "removeEntry", "(I)I"⟩
abbrev cX7_entryCount : ByteArray := prog_9_method_14_code
def yX7_entryCount : MethodName := ⟨RX7, "entryCount", "()I"⟩
abbrev cX7_wordOf : ByteArray := prog_9_method_15_code
def yX7_wordOf : MethodName := ⟨RX7, "wordOf", "(I)I"⟩
abbrev cX7_price : ByteArray := prog_9_method_16_code
def yX7_price : MethodName := ⟨RX7, "price", "(I)I"⟩
abbrev cX7_costOf : ByteArray := prog_9_method_17_code
def yX7_costOf : MethodName := ⟨RX7, "costOf", "(I)I"⟩
abbrev cX7_useCount : ByteArray := prog_9_method_18_code
def yX7_useCount : MethodName := ⟨RX7, "useCount", "(I)I"⟩
abbrev cX7_entriesWithPrefix : ByteArray := prog_9_method_19_code
def yX7_entriesWithPrefix : MethodName := ⟨RX7, "entriesWithPrefix", "()I"⟩
abbrev cX7_changed : ByteArray := prog_9_method_20_code
def yX7_changed : MethodName := ⟨RX7, "changed", "(II)I"⟩
abbrev cX7_setConnection : ByteArray := prog_9_method_21_code
def yX7_setConnection : MethodName := ⟨RX7, "setConnection", "(III)I"⟩
abbrev cX7_setUnknownCost : ByteArray := prog_9_method_22_code
def yX7_setUnknownCost : MethodName := ⟨RX7, "setUnknownCost", "(I)I"⟩
abbrev cX7_setInput : ByteArray := prog_9_method_23_code
def yX7_setInput : MethodName := ⟨RX7, "setInput", "()I"⟩
abbrev cX7_inputLength : ByteArray := prog_9_method_24_code
def yX7_inputLength : MethodName := ⟨RX7, "inputLength", "()I"⟩
abbrev cX7_setConstraint : ByteArray := prog_9_method_25_code
def yX7_setConstraint : MethodName := ⟨RX7, "setConstraint", "(II)I"⟩
abbrev cX7_stands : ByteArray := prog_9_method_26_code
def yX7_stands : MethodName := ⟨RX7, "stands", "(II)Z"⟩
abbrev cX7_segmentsAt : ByteArray := prog_9_method_27_code
def yX7_segmentsAt : MethodName := ⟨RX7, "segmentsAt", "(I)I"⟩
abbrev cX7_mayCover : ByteArray := prog_9_method_28_code
def yX7_mayCover : MethodName := ⟨RX7, "mayCover", "(II)Z"⟩
abbrev cX7_findSegments : ByteArray := prog_9_method_29_code
def yX7_findSegments : MethodName := ⟨RX7, "findSegments", "(I)V"⟩
abbrev cX7_endOf : ByteArray := prog_9_method_30_code
def yX7_endOf : MethodName := ⟨RX7, "endOf", "(II)I"⟩
abbrev cX7_classOf : ByteArray := prog_9_method_31_code
def yX7_classOf : MethodName := ⟨RX7, "classOf", "(I)I"⟩
abbrev cX7_segmentCost : ByteArray := prog_9_method_32_code
def yX7_segmentCost : MethodName := ⟨RX7, "segmentCost", "(I)I"⟩
abbrev cX7_between : ByteArray := prog_9_method_33_code
def yX7_between : MethodName := ⟨RX7, "between", "(II)I"⟩
abbrev cX7_capped : ByteArray := prog_9_method_34_code
def yX7_capped : MethodName := ⟨RX7, "capped", "(II)I"⟩
abbrev cX7_insert : ByteArray := prog_9_method_35_code
def yX7_insert : MethodName := ⟨RX7, "insert", "(IIII)V"⟩
abbrev cX7_layPlace : ByteArray := prog_9_method_36_code
def yX7_layPlace : MethodName := ⟨RX7, "layPlace", "(II)V"⟩
abbrev cX7_lay : ByteArray := prog_9_method_37_code
def yX7_lay : MethodName := ⟨RX7, "lay", "()V"⟩
abbrev cX7_pathCount : ByteArray := prog_9_method_38_code
def yX7_pathCount : MethodName := ⟨RX7, "pathCount", "()I"⟩
abbrev cX7_pathCost : ByteArray := prog_9_method_39_code
def yX7_pathCost : MethodName := ⟨RX7, "pathCost", "(I)I"⟩
abbrev cX7_follow : ByteArray := prog_9_method_40_code
def yX7_follow : MethodName := ⟨RX7, "follow", "(I)Z"⟩
abbrev cX7_segmentCount : ByteArray := prog_9_method_41_code
def yX7_segmentCount : MethodName := ⟨RX7, "segmentCount", "(I)I"⟩
abbrev cX7_segmentStart : ByteArray := prog_9_method_42_code
def yX7_segmentStart : MethodName := ⟨RX7, "segmentStart", "(II)I"⟩
abbrev cX7_segmentEntry : ByteArray := prog_9_method_43_code
def yX7_segmentEntry : MethodName := ⟨RX7, "segmentEntry", "(II)I"⟩
abbrev cX7_layAhead : ByteArray := prog_9_method_44_code
def yX7_layAhead : MethodName := ⟨RX7, "layAhead", "()V"⟩
abbrev cX7_bestThrough : ByteArray := prog_9_method_45_code
def yX7_bestThrough : MethodName := ⟨RX7, "bestThrough", "(II)I"⟩
abbrev cX7_boundaryInBest : ByteArray := prog_9_method_46_code
def yX7_boundaryInBest : MethodName := ⟨RX7, "boundaryInBest", "(I)I"⟩
abbrev cX7_bestCount : ByteArray := prog_9_method_47_code
def yX7_bestCount : MethodName := ⟨RX7, "bestCount", "()I"⟩
abbrev cX7_choose : ByteArray := prog_9_method_48_code
def yX7_choose : MethodName := ⟨RX7, "choose", "(I)I"⟩
abbrev cX7_forget : ByteArray := prog_9_method_49_code
def yX7_forget : MethodName := ⟨RX7, "forget", "()I"⟩
def RJ9 : String := "java/lang/Math"
abbrev cJ9_max_7cf53 : ByteArray := prog_10_method_65_code
def yJ9_max_7cf53 : MethodName := ⟨RJ9, "max", "(II)I"⟩
abbrev cJ9_min_7cf53 : ByteArray := prog_10_method_69_code
def yJ9_min_7cf53 : MethodName := ⟨RJ9, "min", "(II)I"⟩
def RJ10 : String := "java/lang/System"
def RJ7 : String := "java/util/Arrays"
abbrev cJ7_fill_53178 : ByteArray := prog_12_method_103_code
def yJ7_fill_53178 : MethodName := ⟨RJ7, "fill", "([II)V"⟩
def RL : String := "ReadingConverterLaw"
abbrev cL_law : ByteArray := code
def yL_law : MethodName := ⟨RL, "law", "([I)Z"⟩
abbrev vwCl : List vw_C := [(RX0, TX0, 7), (RX1, TX1, 3), (RX2, TX2, 7), (RX3, TX3, 6), (RX4, TX4, 14), (RX5, TX5, 2), (RX6, TX6, 6), (RX7, TX7, 19)]
end
section
/-! A PURE MACHINE over a fixed set of cells: a value is an int or a cell's number (0: not known); a memory gives each cell's places; an instruction is (op, a, b, n). -/
abbrev jxV : Type := Int ⊕ Nat
abbrev jxM : Type := Nat → Int → Int
abbrev jxI : Type := Nat × Nat × Nat × Int
abbrev jxG : Type := (Nat → Nat × Nat) × (Nat → Nat → Nat)
abbrev jxK : Type := Option jxV → jxM → Prop
abbrev jxX : Type := Nat → List jxV → List jxV → jxM → Prop
def jx_ok : jxV → Bool
  | .inl _ => true
  | .inr 0 => false
  | .inr (_ + 1) => true
abbrev jx_r (x : Int) : Prop := -2147483648 ≤ x ∧ x ≤ 2147483647
def jx_up (M : jxM) (c : Nat) (x v : Int) : jxM := fun c' x' => if c' = c ∧ x' = x then v else M c' x'
def jx_cp (M : jxM) (a : Nat) (sp : Int) (b : Nat) (dp n : Int) : jxM := fun c x => if c = b ∧ dp ≤ x ∧ x < dp + n then M a (sp + (x - dp)) else M c x
def jx_cmp (k : Nat) (x y : Int) : Prop := match k with
  | 0 => x = y
  | 1 => x ≠ y
  | 2 => x < y
  | 3 => y ≤ x
  | 4 => y < x
  | _ => x ≤ y
def jx_stp (G : jxG) (d : Nat) (C : Nat → List jxV → jxM → jxK → Prop) (K : jxK) (X : jxX) (i : jxI) (pc : Nat) (ls st : List jxV) (M : jxM) : Prop :=
  match i with
  | (0, _, _, n) => jx_r n ∧ X (pc + 1) ls (.inl n :: st) M
  | (1, a, 0, _) => ∃ x, ls[a]? = some (.inl x) ∧ X (pc + 1) ls (.inl x :: st) M
  | (1, a, _, _) => ∃ c, ls[a]? = some (.inr (c + 1)) ∧ X (pc + 1) ls (.inr (c + 1) :: st) M
  | (2, a, 0, _) => ∃ x r, st = .inl x :: r ∧ a < ls.length ∧ X (pc + 1) (ls.set a (.inl x)) r M
  | (2, a, _, _) => ∃ c r, st = .inr c :: r ∧ a < ls.length ∧ X (pc + 1) (ls.set a (.inr c)) r M
  | (3, a, _, n) => ∃ x, ls[a]? = some (.inl x) ∧ jx_r (x + n) ∧ X (pc + 1) (ls.set a (.inl (x + n))) st M
  | (4, _, _, _) => ∃ x y r, st = .inl y :: .inl x :: r ∧ jx_r (x + y) ∧ X (pc + 1) ls (.inl (x + y) :: r) M
  | (5, _, _, _) => ∃ x y r, st = .inl y :: .inl x :: r ∧ jx_r (x - y) ∧ X (pc + 1) ls (.inl (x - y) :: r) M
  | (6, _, _, _) => ∃ x y r, st = .inl y :: .inl x :: r ∧ jx_r (x * y) ∧ X (pc + 1) ls (.inl (x * y) :: r) M
  | (7, _, _, _) => ∃ x y r, st = .inl y :: .inl x :: r ∧ 0 ≤ x ∧ 0 < y ∧ X (pc + 1) ls (.inl (x / y) :: r) M
  | (8, _, _, _) => ∃ x y r, st = .inl y :: .inl x :: r ∧ 0 ≤ x ∧ 0 < y ∧ X (pc + 1) ls (.inl (x % y) :: r) M
  | (9, _, _, _) => ∃ v r, st = v :: r ∧ X (pc + 1) ls (v :: v :: r) M
  | (10, _, _, _) => ∃ v w r, st = v :: w :: r ∧ X (pc + 1) ls (v :: w :: v :: w :: r) M
  | (11, a, _, _) => X a ls st M
  | (12, a, b, _) => ∃ x r, st = .inl x :: r ∧ (jx_cmp b x 0 → X a ls r M) ∧ (¬ jx_cmp b x 0 → X (pc + 1) ls r M)
  | (13, a, b, _) => ∃ x y r, st = .inl y :: .inl x :: r ∧ (jx_cmp b x y → X a ls r M) ∧ (¬ jx_cmp b x y → X (pc + 1) ls r M)
  | (14, a, b, _) => ∃ c r, st = .inr c :: r ∧ G.1 c = (0, a) ∧ X (pc + 1) ls ((if G.2 c b = 0 then .inl (M c b) else .inr (G.2 c b)) :: r) M
  | (15, a, b, n) => ∃ c v r, st = .inl v :: .inr c :: r ∧ G.1 c = (0, a) ∧ G.2 c b = 0 ∧ (n = 1 → v = 0 ∨ v = 1) ∧ X (pc + 1) ls r (jx_up M c b v)
  | (16, _, _, _) => ∃ c x n r, st = .inl x :: .inr c :: r ∧ G.1 c = (1, n) ∧ 0 ≤ x ∧ x < (n : Int) ∧ X (pc + 1) ls (.inl (M c x) :: r) M
  | (17, _, _, _) => ∃ c x v n r, st = .inl v :: .inl x :: .inr c :: r ∧ G.1 c = (1, n) ∧ 0 ≤ x ∧ x < (n : Int) ∧ X (pc + 1) ls r (jx_up M c x v)
  | (18, _, _, _) => ∃ c n r, st = .inr c :: r ∧ G.1 c = (1, n) ∧ X (pc + 1) ls (.inl (n : Int) :: r) M
  | (19, _, _, _) => ∃ c x n r, st = .inl x :: .inr c :: r ∧ G.1 c = (3, n) ∧ 0 ≤ x ∧ x < (n : Int) ∧ X (pc + 1) ls (.inr (G.2 c x.toNat) :: r) M
  | (20, _, _, _) => ∃ c x n r, st = .inl x :: .inr c :: r ∧ G.1 c = (2, n) ∧ 0 ≤ x ∧ x < (n : Int) ∧ X (pc + 1) ls (.inl (M c x) :: r) M
  | (21, _, _, _) => ∃ c x v n r, st = .inl v :: .inl x :: .inr c :: r ∧ G.1 c = (2, n) ∧ 0 ≤ x ∧ x < (n : Int) ∧ (v = 0 ∨ v = 1) ∧ X (pc + 1) ls r (jx_up M c x v)
  | (22, _, _, _) => ∃ c r, st = .inr c :: r ∧ X (pc + 1) ls r M
  | (23, a, _, _) => ∃ c r, st = .inr c :: r ∧ X a ls r M
  | (24, a, b, _) => b ≤ st.length ∧ st.length ≤ b + 8 ∧ C a (st.take b).reverse M (fun r M' => X (pc + 1) ls (r.toList ++ st.drop b) M')
  | (25, a, b, n) => b + 1 ≤ st.length ∧ st.length ≤ b + 1 + 8 ∧ (∃ c, st[b]? = some (.inr c) ∧ G.1 c = (0, n.toNat)) ∧ C a (st.take (b + 1)).reverse M (fun r M' => X (pc + 1) ls (r.toList ++ st.drop (b + 1)) M')
  | (26, _, _, _) => 1 ≤ d ∧ ∃ n dp c sp a n0 n1 r, st = .inl n :: .inl dp :: .inr c :: .inl sp :: .inr a :: r ∧ r.length ≤ 8 ∧ G.1 a = (1, n0) ∧ G.1 c = (1, n1) ∧ 0 ≤ sp ∧ 0 ≤ dp ∧ 0 ≤ n ∧ sp + n ≤ (n0 : Int) ∧ dp + n ≤ (n1 : Int) ∧ X (pc + 1) ls r (jx_cp M a sp c dp n)
  | (27, a, _, _) => ∃ v, st = [.inl v] ∧ (a = 1 → v = 0 ∨ v = 1) ∧ K (some (.inl v)) M
  | (28, _, _, _) => st = [] ∧ K none M
  | (29, _, _, _) => ∃ c, st = [.inr c] ∧ K (some (.inr c)) M
  | (30, _, _, _) => 1 ≤ d ∧ ∃ x y r, st = .inl y :: .inl x :: r ∧ r.length ≤ 8 ∧ X (pc + 1) ls (.inl (if x < y then y else x) :: r) M
  | (31, _, _, _) => 1 ≤ d ∧ ∃ x y r, st = .inl y :: .inl x :: r ∧ r.length ≤ 8 ∧ X (pc + 1) ls (.inl (if y < x then y else x) :: r) M
  | _ => False
/-- X is closed under the code's steps, and under forgetting a local -/
def jx_clo (G : jxG) (d : Nat) (C : Nat → List jxV → jxM → jxK → Prop) (T : List jxI) (K : jxK) (X : jxX) : Prop :=
  (∀ pc ls st M i, T[pc]? = some i → jx_stp G d C K X i pc ls st M → X pc ls st M) ∧ (∀ pc ls st M a, X pc (ls.set a (.inr 0)) st M → X pc ls st M)
/-- a call that comes back, within d frames, with K of its answer and the memory -/
def jx_call (G : jxG) (T : Nat → Nat × List jxI) : Nat → Nat → List jxV → jxM → jxK → Prop
  | 0, _, _, _, _ => False
  | d + 1, y, as, M, K => ∀ X : jxX, jx_clo G d (jx_call G T d) (T y).2 K X → X 0 (as ++ List.replicate ((T y).1 - as.length) (.inr 0)) [] M
section JX
variable {G : jxG} {d : Nat} {C : Nat → List jxV → jxM → jxK → Prop} {T : List jxI} {K : jxK} {X : jxX} {pc : Nat} {ls st : List jxV} {M : jxM} {a b : Nat} {n : Int}
theorem jk_const (hX : jx_clo G d C T K X) (n : Int) (h : T[pc]? = some (0, 0, 0, n)) (hr : jx_r n) (k : X (pc + 1) ls (.inl n :: st) M) : X pc ls st M := hX.1 _ _ _ _ _ h ⟨hr, k⟩
theorem jk_load (hX : jx_clo G d C T K X) (a : Nat) {x : Int} (h : T[pc]? = some (1, a, 0, 0)) (hl : ls[a]? = some (.inl x)) (k : X (pc + 1) ls (.inl x :: st) M) : X pc ls st M := hX.1 _ _ _ _ _ h ⟨x, hl, k⟩
theorem jk_aload (hX : jx_clo G d C T K X) (a : Nat) {c : Nat} (h : T[pc]? = some (1, a, 1, 0)) (hl : ls[a]? = some (.inr (c + 1))) (k : X (pc + 1) ls (.inr (c + 1) :: st) M) : X pc ls st M := hX.1 _ _ _ _ _ h ⟨c, hl, k⟩
theorem jk_store (hX : jx_clo G d C T K X) (a : Nat) {x : Int} (h : T[pc]? = some (2, a, 0, 0)) (hl : a < ls.length) {ls' : List jxV} (he : ls.set a (.inl x) = ls') (k : X (pc + 1) ls' st M) : X pc ls (.inl x :: st) M := hX.1 _ _ _ _ _ h ⟨x, st, rfl, hl, by rw [he]; exact k⟩
theorem jk_astore (hX : jx_clo G d C T K X) (a : Nat) {c : Nat} (h : T[pc]? = some (2, a, 1, 0)) (hl : a < ls.length) {ls' : List jxV} (he : ls.set a (.inr c) = ls') (k : X (pc + 1) ls' st M) : X pc ls (.inr c :: st) M := hX.1 _ _ _ _ _ h ⟨c, st, rfl, hl, by rw [he]; exact k⟩
theorem jk_iinc (hX : jx_clo G d C T K X) (a : Nat) (n : Int) {x : Int} (h : T[pc]? = some (3, a, 0, n)) (hl : ls[a]? = some (.inl x)) (hr : jx_r (x + n)) {ls' : List jxV} (he : ls.set a (.inl (x + n)) = ls') (k : X (pc + 1) ls' st M) : X pc ls st M := hX.1 _ _ _ _ _ h ⟨x, hl, hr, by rw [he]; exact k⟩
theorem jk_add (hX : jx_clo G d C T K X) {x y : Int} (h : T[pc]? = some (4, 0, 0, 0)) (hr : jx_r (x + y)) (k : X (pc + 1) ls (.inl (x + y) :: st) M) : X pc ls (.inl y :: .inl x :: st) M := hX.1 _ _ _ _ _ h ⟨x, y, st, rfl, hr, k⟩
theorem jk_sub (hX : jx_clo G d C T K X) {x y : Int} (h : T[pc]? = some (5, 0, 0, 0)) (hr : jx_r (x - y)) (k : X (pc + 1) ls (.inl (x - y) :: st) M) : X pc ls (.inl y :: .inl x :: st) M := hX.1 _ _ _ _ _ h ⟨x, y, st, rfl, hr, k⟩
theorem jk_mul (hX : jx_clo G d C T K X) {x y : Int} (h : T[pc]? = some (6, 0, 0, 0)) (hr : jx_r (x * y)) (k : X (pc + 1) ls (.inl (x * y) :: st) M) : X pc ls (.inl y :: .inl x :: st) M := hX.1 _ _ _ _ _ h ⟨x, y, st, rfl, hr, k⟩
theorem jk_div (hX : jx_clo G d C T K X) {x y : Int} (h : T[pc]? = some (7, 0, 0, 0)) (h1 : 0 ≤ x) (h2 : 0 < y) (k : X (pc + 1) ls (.inl (x / y) :: st) M) : X pc ls (.inl y :: .inl x :: st) M := hX.1 _ _ _ _ _ h ⟨x, y, st, rfl, h1, h2, k⟩
theorem jk_rem (hX : jx_clo G d C T K X) {x y : Int} (h : T[pc]? = some (8, 0, 0, 0)) (h1 : 0 ≤ x) (h2 : 0 < y) (k : X (pc + 1) ls (.inl (x % y) :: st) M) : X pc ls (.inl y :: .inl x :: st) M := hX.1 _ _ _ _ _ h ⟨x, y, st, rfl, h1, h2, k⟩
theorem jk_dup (hX : jx_clo G d C T K X) {v : jxV} (h : T[pc]? = some (9, 0, 0, 0)) (k : X (pc + 1) ls (v :: v :: st) M) : X pc ls (v :: st) M := hX.1 _ _ _ _ _ h ⟨v, st, rfl, k⟩
theorem jk_dup2 (hX : jx_clo G d C T K X) {v w : jxV} (h : T[pc]? = some (10, 0, 0, 0)) (k : X (pc + 1) ls (v :: w :: v :: w :: st) M) : X pc ls (v :: w :: st) M := hX.1 _ _ _ _ _ h ⟨v, w, st, rfl, k⟩
theorem jk_goto (hX : jx_clo G d C T K X) (a : Nat) (h : T[pc]? = some (11, a, 0, 0)) (k : X a ls st M) : X pc ls st M := hX.1 _ _ _ _ _ h k
theorem jk_zeq (hX : jx_clo G d C T K X) (a : Nat) {x : Int} (h : T[pc]? = some (12, a, 0, 0)) (k1 : x = 0 → X a ls st M) (k2 : x ≠ 0 → X (pc + 1) ls st M) : X pc ls (.inl x :: st) M := hX.1 _ _ _ _ _ h ⟨x, st, rfl, k1, k2⟩
theorem jk_zne (hX : jx_clo G d C T K X) (a : Nat) {x : Int} (h : T[pc]? = some (12, a, 1, 0)) (k1 : x ≠ 0 → X a ls st M) (k2 : x = 0 → X (pc + 1) ls st M) : X pc ls (.inl x :: st) M := hX.1 _ _ _ _ _ h ⟨x, st, rfl, k1, fun q => k2 (Decidable.not_not.mp q)⟩
theorem jk_zlt (hX : jx_clo G d C T K X) (a : Nat) {x : Int} (h : T[pc]? = some (12, a, 2, 0)) (k1 : x < 0 → X a ls st M) (k2 : 0 ≤ x → X (pc + 1) ls st M) : X pc ls (.inl x :: st) M := hX.1 _ _ _ _ _ h ⟨x, st, rfl, k1, fun q => k2 (Int.not_lt.mp q)⟩
theorem jk_zge (hX : jx_clo G d C T K X) (a : Nat) {x : Int} (h : T[pc]? = some (12, a, 3, 0)) (k1 : 0 ≤ x → X a ls st M) (k2 : x < 0 → X (pc + 1) ls st M) : X pc ls (.inl x :: st) M := hX.1 _ _ _ _ _ h ⟨x, st, rfl, k1, fun q => k2 (Int.not_le.mp q)⟩
theorem jk_zgt (hX : jx_clo G d C T K X) (a : Nat) {x : Int} (h : T[pc]? = some (12, a, 4, 0)) (k1 : 0 < x → X a ls st M) (k2 : x ≤ 0 → X (pc + 1) ls st M) : X pc ls (.inl x :: st) M := hX.1 _ _ _ _ _ h ⟨x, st, rfl, k1, fun q => k2 (Int.not_lt.mp q)⟩
theorem jk_zle (hX : jx_clo G d C T K X) (a : Nat) {x : Int} (h : T[pc]? = some (12, a, 5, 0)) (k1 : x ≤ 0 → X a ls st M) (k2 : 0 < x → X (pc + 1) ls st M) : X pc ls (.inl x :: st) M := hX.1 _ _ _ _ _ h ⟨x, st, rfl, k1, fun q => k2 (Int.not_le.mp q)⟩
theorem jk_ceq (hX : jx_clo G d C T K X) (a : Nat) {x y : Int} (h : T[pc]? = some (13, a, 0, 0)) (k1 : x = y → X a ls st M) (k2 : x ≠ y → X (pc + 1) ls st M) : X pc ls (.inl y :: .inl x :: st) M := hX.1 _ _ _ _ _ h ⟨x, y, st, rfl, k1, k2⟩
theorem jk_cne (hX : jx_clo G d C T K X) (a : Nat) {x y : Int} (h : T[pc]? = some (13, a, 1, 0)) (k1 : x ≠ y → X a ls st M) (k2 : x = y → X (pc + 1) ls st M) : X pc ls (.inl y :: .inl x :: st) M := hX.1 _ _ _ _ _ h ⟨x, y, st, rfl, k1, fun q => k2 (Decidable.not_not.mp q)⟩
theorem jk_clt (hX : jx_clo G d C T K X) (a : Nat) {x y : Int} (h : T[pc]? = some (13, a, 2, 0)) (k1 : x < y → X a ls st M) (k2 : y ≤ x → X (pc + 1) ls st M) : X pc ls (.inl y :: .inl x :: st) M := hX.1 _ _ _ _ _ h ⟨x, y, st, rfl, k1, fun q => k2 (Int.not_lt.mp q)⟩
theorem jk_cge (hX : jx_clo G d C T K X) (a : Nat) {x y : Int} (h : T[pc]? = some (13, a, 3, 0)) (k1 : y ≤ x → X a ls st M) (k2 : x < y → X (pc + 1) ls st M) : X pc ls (.inl y :: .inl x :: st) M := hX.1 _ _ _ _ _ h ⟨x, y, st, rfl, k1, fun q => k2 (Int.not_le.mp q)⟩
theorem jk_cgt (hX : jx_clo G d C T K X) (a : Nat) {x y : Int} (h : T[pc]? = some (13, a, 4, 0)) (k1 : y < x → X a ls st M) (k2 : x ≤ y → X (pc + 1) ls st M) : X pc ls (.inl y :: .inl x :: st) M := hX.1 _ _ _ _ _ h ⟨x, y, st, rfl, k1, fun q => k2 (Int.not_lt.mp q)⟩
theorem jk_cle (hX : jx_clo G d C T K X) (a : Nat) {x y : Int} (h : T[pc]? = some (13, a, 5, 0)) (k1 : x ≤ y → X a ls st M) (k2 : y < x → X (pc + 1) ls st M) : X pc ls (.inl y :: .inl x :: st) M := hX.1 _ _ _ _ _ h ⟨x, y, st, rfl, k1, fun q => k2 (Int.not_le.mp q)⟩
theorem jk_getI (hX : jx_clo G d C T K X) (a b : Nat) {c : Nat} (h : T[pc]? = some (14, a, b, 0)) (h1 : G.1 c = (0, a)) (h2 : G.2 c b = 0) (k : X (pc + 1) ls (.inl (M c b) :: st) M) : X pc ls (.inr c :: st) M := hX.1 _ _ _ _ _ h ⟨c, st, rfl, h1, by rw [if_pos h2]; exact k⟩
theorem jk_getR (hX : jx_clo G d C T K X) (a b : Nat) {c r : Nat} (h : T[pc]? = some (14, a, b, 0)) (h1 : G.1 c = (0, a)) (h2 : G.2 c b = r + 1) (k : X (pc + 1) ls (.inr (r + 1) :: st) M) : X pc ls (.inr c :: st) M := hX.1 _ _ _ _ _ h ⟨c, st, rfl, h1, by rw [if_neg (by rw [h2]; exact Nat.succ_ne_zero r), h2]; exact k⟩
theorem jk_put (hX : jx_clo G d C T K X) (a b : Nat) {c : Nat} {v : Int} (h : T[pc]? = some (15, a, b, 0)) (h1 : G.1 c = (0, a)) (h2 : G.2 c b = 0) (k : X (pc + 1) ls st (jx_up M c b v)) : X pc ls (.inl v :: .inr c :: st) M := hX.1 _ _ _ _ _ h ⟨c, v, st, rfl, h1, h2, fun q => absurd q (by decide), k⟩
theorem jk_putZ (hX : jx_clo G d C T K X) (a b : Nat) {c : Nat} {v : Int} (h : T[pc]? = some (15, a, b, 1)) (h1 : G.1 c = (0, a)) (h2 : G.2 c b = 0) (h3 : v = 0 ∨ v = 1) (k : X (pc + 1) ls st (jx_up M c b v)) : X pc ls (.inl v :: .inr c :: st) M := hX.1 _ _ _ _ _ h ⟨c, v, st, rfl, h1, h2, fun _ => h3, k⟩
theorem jk_iald (hX : jx_clo G d C T K X) {c : Nat} {x : Int} (n : Nat) (h : T[pc]? = some (16, 0, 0, 0)) (h1 : G.1 c = (1, n)) (h2 : 0 ≤ x ∧ x < (n : Int)) (k : X (pc + 1) ls (.inl (M c x) :: st) M) : X pc ls (.inl x :: .inr c :: st) M := hX.1 _ _ _ _ _ h ⟨c, x, n, st, rfl, h1, h2.1, h2.2, k⟩
theorem jk_iast (hX : jx_clo G d C T K X) {c : Nat} {x v : Int} (n : Nat) (h : T[pc]? = some (17, 0, 0, 0)) (h1 : G.1 c = (1, n)) (h2 : 0 ≤ x ∧ x < (n : Int)) (k : X (pc + 1) ls st (jx_up M c x v)) : X pc ls (.inl v :: .inl x :: .inr c :: st) M := hX.1 _ _ _ _ _ h ⟨c, x, v, n, st, rfl, h1, h2.1, h2.2, k⟩
theorem jk_alen (hX : jx_clo G d C T K X) {c : Nat} (n : Nat) (h : T[pc]? = some (18, 0, 0, 0)) (h1 : G.1 c = (1, n)) (k : X (pc + 1) ls (.inl (n : Int) :: st) M) : X pc ls (.inr c :: st) M := hX.1 _ _ _ _ _ h ⟨c, n, st, rfl, h1, k⟩
theorem jk_aald (hX : jx_clo G d C T K X) {c : Nat} {x : Int} (n : Nat) (h : T[pc]? = some (19, 0, 0, 0)) (h1 : G.1 c = (3, n)) (h2 : 0 ≤ x ∧ x < (n : Int)) (k : X (pc + 1) ls (.inr (G.2 c x.toNat) :: st) M) : X pc ls (.inl x :: .inr c :: st) M := hX.1 _ _ _ _ _ h ⟨c, x, n, st, rfl, h1, h2.1, h2.2, k⟩
theorem jk_zald (hX : jx_clo G d C T K X) {c : Nat} {x : Int} (n : Nat) (h : T[pc]? = some (20, 0, 0, 0)) (h1 : G.1 c = (2, n)) (h2 : 0 ≤ x ∧ x < (n : Int)) (k : X (pc + 1) ls (.inl (M c x) :: st) M) : X pc ls (.inl x :: .inr c :: st) M := hX.1 _ _ _ _ _ h ⟨c, x, n, st, rfl, h1, h2.1, h2.2, k⟩
theorem jk_zast (hX : jx_clo G d C T K X) {c : Nat} {x v : Int} (n : Nat) (h : T[pc]? = some (21, 0, 0, 0)) (h1 : G.1 c = (2, n)) (h2 : 0 ≤ x ∧ x < (n : Int)) (h3 : v = 0 ∨ v = 1) (k : X (pc + 1) ls st (jx_up M c x v)) : X pc ls (.inl v :: .inl x :: .inr c :: st) M := hX.1 _ _ _ _ _ h ⟨c, x, v, n, st, rfl, h1, h2.1, h2.2, h3, k⟩
theorem jk_ifnull (hX : jx_clo G d C T K X) (a : Nat) {c : Nat} (h : T[pc]? = some (22, a, 0, 0)) (k : X (pc + 1) ls st M) : X pc ls (.inr c :: st) M := hX.1 _ _ _ _ _ h ⟨c, st, rfl, k⟩
theorem jk_ifnonnull (hX : jx_clo G d C T K X) (a : Nat) {c : Nat} (h : T[pc]? = some (23, a, 0, 0)) (k : X a ls st M) : X pc ls (.inr c :: st) M := hX.1 _ _ _ _ _ h ⟨c, st, rfl, k⟩
theorem jk_cs (hX : jx_clo G d C T K X) (a b : Nat) (h : T[pc]? = some (24, a, b, 0)) (as rest : List jxV) (hs : st = as.reverse ++ rest) (hb : as.length = b) (hl : rest.length ≤ 8) (k : C a as M (fun r M' => X (pc + 1) ls (r.toList ++ rest) M')) : X pc ls st M := by
  refine hX.1 _ _ _ _ _ h ⟨?_, ?_, ?_⟩
  · rw [hs]; simp [hb]
  · rw [hs]; simp [hb]; omega
  · have e1 : st.take b = as.reverse := by rw [hs, ← hb, ← List.length_reverse]; exact List.take_left
    have e2 : st.drop b = rest := by rw [hs, ← hb, ← List.length_reverse]; exact List.drop_left
    rw [e1, e2, List.reverse_reverse]
    exact k
theorem jk_cv (hX : jx_clo G d C T K X) (a b : Nat) (n : Nat) (h : T[pc]? = some (25, a, b, (n : Int))) (c : Nat) (as rest : List jxV) (hs : st = as.reverse ++ .inr c :: rest) (hb : as.length = b) (hc : G.1 c = (0, n)) (hl : rest.length ≤ 8) (k : C a (.inr c :: as) M (fun r M' => X (pc + 1) ls (r.toList ++ rest) M')) : X pc ls st M := by
  have hb' : as.reverse.length = b := by rw [List.length_reverse]; exact hb
  refine hX.1 _ _ _ _ _ h ⟨?_, ?_, ⟨c, ?_, ?_⟩, ?_⟩
  · rw [hs]; simp [hb]
  · rw [hs]; simp [hb]; omega
  · rw [hs, List.getElem?_append_right (by omega), hb']; simp
  · exact hc
  · have e0 : as.reverse ++ Sum.inr c :: rest = (as.reverse ++ [Sum.inr c]) ++ rest := by simp
    have e3 : (as.reverse ++ [(Sum.inr c : jxV)]).length = b + 1 := by simp [hb]
    have e1 : st.take (b + 1) = as.reverse ++ [Sum.inr c] := by rw [hs, e0, ← e3]; exact List.take_left
    have e2 : st.drop (b + 1) = rest := by rw [hs, e0, ← e3]; exact List.drop_left
    rw [e1, e2, List.reverse_append, List.reverse_reverse]
    exact k
theorem jk_copy (hX : jx_clo G d C T K X) {n dp sp : Int} {c a : Nat} (n0 n1 : Nat) (h : T[pc]? = some (26, 0, 0, 0)) (hd : 1 ≤ d) (hl : st.length ≤ 8) (h1 : G.1 a = (1, n0)) (h2 : G.1 c = (1, n1)) (h3 : 0 ≤ sp ∧ 0 ≤ dp ∧ 0 ≤ n ∧ sp + n ≤ (n0 : Int) ∧ dp + n ≤ (n1 : Int)) (k : X (pc + 1) ls st (jx_cp M a sp c dp n)) : X pc ls (.inl n :: .inl dp :: .inr c :: .inl sp :: .inr a :: st) M :=
  hX.1 _ _ _ _ _ h ⟨hd, n, dp, c, sp, a, n0, n1, st, rfl, hl, h1, h2, h3.1, h3.2.1, h3.2.2.1, h3.2.2.2.1, h3.2.2.2.2, k⟩
theorem jk_max (hX : jx_clo G d C T K X) {x y : Int} (h : T[pc]? = some (30, 0, 0, 0)) (hd : 1 ≤ d) (hl : st.length ≤ 8) (k : X (pc + 1) ls (.inl (max x y) :: st) M) : X pc ls (.inl y :: .inl x :: st) M :=
  hX.1 _ _ _ _ _ h ⟨hd, x, y, st, rfl, hl, by rw [show (if x < y then y else x) = max x y by omega]; exact k⟩
theorem jk_min (hX : jx_clo G d C T K X) {x y : Int} (h : T[pc]? = some (31, 0, 0, 0)) (hd : 1 ≤ d) (hl : st.length ≤ 8) (k : X (pc + 1) ls (.inl (min x y) :: st) M) : X pc ls (.inl y :: .inl x :: st) M :=
  hX.1 _ _ _ _ _ h ⟨hd, x, y, st, rfl, hl, by rw [show (if y < x then y else x) = min x y by omega]; exact k⟩
theorem jk_iret (hX : jx_clo G d C T K X) {v : Int} (h : T[pc]? = some (27, 0, 0, 0)) (k : K (some (.inl v)) M) : X pc ls [.inl v] M := hX.1 _ _ _ _ _ h ⟨v, rfl, fun q => absurd q (by decide), k⟩
theorem jk_zret (hX : jx_clo G d C T K X) {v : Int} (h : T[pc]? = some (27, 1, 0, 0)) (hv : v = 0 ∨ v = 1) (k : K (some (.inl v)) M) : X pc ls [.inl v] M := hX.1 _ _ _ _ _ h ⟨v, rfl, fun _ => hv, k⟩
theorem jk_vret (hX : jx_clo G d C T K X) (h : T[pc]? = some (28, 0, 0, 0)) (k : K none M) : X pc ls [] M := hX.1 _ _ _ _ _ h ⟨rfl, k⟩
theorem jk_aret (hX : jx_clo G d C T K X) {c : Nat} (h : T[pc]? = some (29, 0, 0, 0)) (k : K (some (.inr c)) M) : X pc ls [.inr c] M := hX.1 _ _ _ _ _ h ⟨c, rfl, k⟩
theorem jk_forget (hX : jx_clo G d C T K X) (a : Nat) {ls' : List jxV} (he : ls.set a (.inr 0) = ls') (k : X pc ls' st M) : X pc ls st M := hX.2 _ _ _ _ a (by rw [he]; exact k)
end JX
end
section
/-! THE PURE MACHINE'S CELLS IN THE HEAP. ad: the addresses; cA: the classes of int[], boolean[], Model[] -/
def jx_gw : List Cond := lw_tbl.filter goodWord
def jx_N (ci : Nat) : Nat := match vwCl[ci]? with
  | some q => q.2.2
  | none => 0
def jx_v (ad : Nat → Nat) : jxV → Value
  | .inl x => .int (Int32.ofInt x)
  | .inr c => .ref (ad c)
def jx_ent (ad : Nat → Nat) (cA : ClassId × ClassId × ClassId) (G : jxG) (M : jxM) (c : Nat) : va_E := match (G.1 c).1 with
  | 0 => .inr ((G.1 c).2, (List.range (jx_N (G.1 c).2)).map (fun k => if G.2 c k = 0 then Value.int (Int32.ofInt (M c k)) else Value.ref (ad (G.2 c k))))
  | 1 => .inl (cA.1, (G.1 c).2, .inl (fun j => Int32.ofInt (M c j)))
  | 2 => .inl (cA.2.1, (G.1 c).2, .inl (fun j => Int32.ofInt (M c j)))
  | _ => .inl (cA.2.2, (G.1 c).2, .inr (.inr (.inr (.inr (fun j => some (ad (G.2 c j)))))))
def jx_wl (ad : Nat → Nat) (cA : ClassId × ClassId × ClassId) (G : jxG) (n : Nat) (M : jxM) : va_W := (List.range n).map (fun k => (ad (k + 1), jx_ent ad cA G M (k + 1)))
def jx_ty (cA : ClassId × ClassId × ClassId) : List (ClassId × FieldType) := [(cA.1, .int), (cA.2.1, .boolean), (cA.2.2, .object "ReadingConverter$Model")]
def jx_rv : jxV → Prop
  | .inl x => jx_r x
  | .inr _ => True
def jx_rl (l : List jxV) : Prop := ∀ v ∈ l, jx_rv v
def jx_rM (M : jxM) : Prop := ∀ c x, jx_r (M c x)
/-- a shape: cells 1 .. n alone, lengths and counts small -/
def jx_shape (G : jxG) (n : Nat) : Prop := (∀ c, (G.1 c).1 < 9 → 1 ≤ c ∧ c ≤ n) ∧ (∀ c, (G.1 c).2 < 2147483648)
def jx_A (ad : Nat → Nat) (n : Nat) : Nat → Prop := fun q => ∃ c, 1 ≤ c ∧ c ≤ n ∧ q = ad c
def jx_inj (ad : Nat → Nat) (n : Nat) : Prop := ∀ c c', 1 ≤ c → c ≤ n → 1 ≤ c' → c' ≤ n → ad c = ad c' → c = c'
theorem jx_wl_at {ad : Nat → Nat} {cA : ClassId × ClassId × ClassId} {G : jxG} {n : Nat} {M : jxM} {c : Nat} (h1 : 1 ≤ c) (h2 : c ≤ n) : (jx_wl ad cA G n M)[c - 1]? = some (ad c, jx_ent ad cA G M c) := by
  unfold jx_wl
  rw [List.getElem?_map, List.getElem?_range (by omega)]
  simp only [Option.map_some]
  rw [Nat.sub_add_cancel h1]
theorem jx_wl_set {ad : Nat → Nat} {cA : ClassId × ClassId × ClassId} {G : jxG} {n : Nat} {M M' : jxM} {c : Nat} (h1 : 1 ≤ c) (_h2 : c ≤ n) (hM : ∀ c' x, c' ≠ c → M' c' x = M c' x) : (jx_wl ad cA G n M).set (c - 1) (ad c, jx_ent ad cA G M' c) = jx_wl ad cA G n M' := by
  unfold jx_wl
  apply List.ext_getElem?
  intro k
  rw [List.getElem?_set]
  by_cases hk : c - 1 = k
  · rw [if_pos hk]
    subst hk
    rw [List.length_map, List.length_range, if_pos (by omega), List.getElem?_map, List.getElem?_range (by omega)]
    simp only [Option.map_some]
    rw [Nat.sub_add_cancel h1]
  · rw [if_neg hk, List.getElem?_map, List.getElem?_map]
    by_cases hn : k < n
    · rw [List.getElem?_range hn]
      simp only [Option.map_some]
      have e : jx_ent ad cA G M (k + 1) = jx_ent ad cA G M' (k + 1) := by
        unfold jx_ent
        have : ∀ x, M' (k + 1) x = M (k + 1) x := fun x => hM (k + 1) x (by omega)
        simp only [this]
      rw [e]
    · rw [List.getElem?_eq_none (by simpa using hn)]
      rfl
theorem jx_D {ad : Nat → Nat} {cA : ClassId × ClassId × ClassId} {G : jxG} {n : Nat} {M : jxM} (hi : jx_inj ad n) : va_D (jx_A ad n) (jx_wl ad cA G n M) := by
  have key : ∀ (k : Nat) (q : Nat × va_E), (jx_wl ad cA G n M)[k]? = some q → k < n ∧ q.1 = ad (k + 1) := by
    intro k q h
    unfold jx_wl at h
    rw [List.getElem?_map] at h
    by_cases hk : k < n
    · rw [List.getElem?_range hk] at h
      simp only [Option.map_some, Option.some.injEq] at h
      exact ⟨hk, by rw [← h]⟩
    · rw [List.getElem?_eq_none (by simpa using hk)] at h
      cases h
  refine ⟨fun i j p q hp hq h => ?_, fun k q h => ?_⟩
  · obtain ⟨a1, a2⟩ := key i p hp
    obtain ⟨b1, b2⟩ := key j q hq
    have := hi (i + 1) (j + 1) (by omega) (by omega) (by omega) (by omega) (by rw [← a2, ← b2]; exact h)
    omega
  · obtain ⟨a1, a2⟩ := key k q h
    exact ⟨k + 1, by omega, by omega, a2⟩
theorem jx_i_add (x y : Int) : Int32.ofInt x + Int32.ofInt y = Int32.ofInt (x + y) := (Int32.ofInt_add x y).symm
theorem jx_i_sub (x y : Int) : Int32.ofInt x - Int32.ofInt y = Int32.ofInt (x - y) := (Int32.ofInt_sub x y).symm
theorem jx_i_mul (x y : Int) : Int32.ofInt x * Int32.ofInt y = Int32.ofInt (x * y) := (Int32.ofInt_mul x y).symm
theorem jx_i_to {x : Int} (h : jx_r x) : (Int32.ofInt x).toInt = x := by
  obtain ⟨h1, h2⟩ := h
  exact Int32.toInt_ofInt_of_le (by omega) (by omega)
theorem jx_i_lt {x y : Int} (hx : jx_r x) (hy : jx_r y) : Int32.ofInt x < Int32.ofInt y ↔ x < y := by
  rw [Int32.lt_iff_toInt_lt, jx_i_to hx, jx_i_to hy]
theorem jx_i_le {x y : Int} (hx : jx_r x) (hy : jx_r y) : Int32.ofInt x ≤ Int32.ofInt y ↔ x ≤ y := by
  rw [Int32.le_iff_toInt_le, jx_i_to hx, jx_i_to hy]
theorem jx_i_eq {x y : Int} (hx : jx_r x) (hy : jx_r y) : Int32.ofInt x = Int32.ofInt y ↔ x = y := by
  rw [← Int32.toInt_inj, jx_i_to hx, jx_i_to hy]
theorem jx_i_cl {x : Int} (hx : jx_r x) : (Int32.ofInt x).toNatClampNeg = x.toNat := by
  show (Int32.ofInt x).toInt.toNat = x.toNat
  rw [jx_i_to hx]
theorem jx_i_in {x : Int} {n : Nat} (hx : jx_r x) (h0 : 0 ≤ x) (h1 : x < (n : Int)) : vp_in (Int32.ofInt x) n := by
  unfold vp_in
  rw [jx_i_cl hx]
  intro h
  rcases h with h | h
  · rw [show (0 : Int32) = Int32.ofInt 0 from rfl, jx_i_lt hx (by unfold jx_r; omega)] at h
    omega
  · omega
theorem jx_i_div {x y : Int} (hx : jx_r x) (hy : jx_r y) (h0 : 0 ≤ x) (h1 : 0 < y) : Int32.ofInt x / Int32.ofInt y = Int32.ofInt (x / y) := by
  have hq : x / y ≤ x := Int.ediv_le_self y h0
  have hq0 : 0 ≤ x / y := Int.ediv_nonneg h0 (by omega)
  rw [← Int32.toInt_inj, Int32.toInt_div, jx_i_to hx, jx_i_to hy, jx_i_to (by unfold jx_r at *; omega), Int.tdiv_eq_ediv_of_nonneg h0]
  rw [Int.bmod_eq_of_le (by unfold jx_r at *; omega) (by unfold jx_r at *; omega)]
theorem jx_i_rem {x y : Int} (hx : jx_r x) (hy : jx_r y) (h0 : 0 ≤ x) (h1 : 0 < y) : Int32.ofInt x - Int32.ofInt x / Int32.ofInt y * Int32.ofInt y = Int32.ofInt (x % y) := by
  rw [jx_i_div hx hy h0 h1, jx_i_mul, jx_i_sub]
  congr 1
  have := Int.emod_def x y
  rw [this, Int.mul_comm y]
end
section
/-! THE CODE, method by method, and the two shapes; written by wip/whole/gen_tables.py -/
def kc_D_copyFrom : List jxI := [(1, 1, 1, 0), (14, 0, 0, 0), (0, 0, 0, 0), (1, 0, 1, 0), (14, 0, 0, 0), (0, 0, 0, 0), (1, 0, 1, 0), (14, 0, 0, 0), (18, 0, 0, 0), (26, 0, 0, 0), (1, 1, 1, 0), (14, 0, 1, 0), (0, 0, 0, 0), (1, 0, 1, 0), (14, 0, 1, 0), (0, 0, 0, 0), (0, 0, 0, 20), (26, 0, 0, 0), (1, 1, 1, 0), (14, 0, 2, 0), (0, 0, 0, 0), (1, 0, 1, 0), (14, 0, 2, 0), (0, 0, 0, 0), (0, 0, 0, 20), (26, 0, 0, 0), (1, 1, 1, 0), (14, 0, 3, 0), (0, 0, 0, 0), (1, 0, 1, 0), (14, 0, 3, 0), (0, 0, 0, 0), (0, 0, 0, 20), (26, 0, 0, 0), (1, 1, 1, 0), (14, 0, 4, 0), (0, 0, 0, 0), (1, 0, 1, 0), (14, 0, 4, 0), (0, 0, 0, 0), (0, 0, 0, 20), (26, 0, 0, 0), (1, 1, 1, 0), (14, 0, 5, 0), (0, 0, 0, 0), (1, 0, 1, 0), (14, 0, 5, 0), (0, 0, 0, 0), (0, 0, 0, 20), (26, 0, 0, 0), (1, 0, 1, 0), (1, 1, 1, 0), (14, 0, 6, 0), (15, 0, 6, 0), (28, 0, 0, 0)]
def kc_D_append : List jxI := [(1, 0, 1, 0), (14, 0, 6, 0), (2, 5, 0, 0), (1, 5, 0, 0), (0, 0, 0, 20), (13, 10, 3, 0), (1, 1, 1, 0), (14, 5, 1, 0), (0, 0, 0, 6), (13, 11, 5, 0), (28, 0, 0, 0), (1, 1, 1, 0), (14, 5, 0, 0), (0, 0, 0, 0), (1, 0, 1, 0), (14, 0, 0, 0), (1, 5, 0, 0), (0, 0, 0, 6), (6, 0, 0, 0), (1, 1, 1, 0), (14, 5, 1, 0), (26, 0, 0, 0), (1, 0, 1, 0), (14, 0, 1, 0), (1, 5, 0, 0), (1, 1, 1, 0), (14, 5, 1, 0), (17, 0, 0, 0), (1, 0, 1, 0), (14, 0, 2, 0), (1, 5, 0, 0), (1, 2, 0, 0), (17, 0, 0, 0), (1, 0, 1, 0), (14, 0, 3, 0), (1, 5, 0, 0), (1, 3, 0, 0), (17, 0, 0, 0), (1, 0, 1, 0), (14, 0, 4, 0), (1, 5, 0, 0), (1, 4, 0, 0), (17, 0, 0, 0), (1, 0, 1, 0), (14, 0, 5, 0), (1, 5, 0, 0), (0, 0, 0, 0), (17, 0, 0, 0), (1, 0, 1, 0), (9, 0, 0, 0), (14, 0, 6, 0), (0, 0, 0, 1), (4, 0, 0, 0), (15, 0, 6, 0), (28, 0, 0, 0)]
def kc_D_drop : List jxI := [(1, 1, 0, 0), (2, 2, 0, 0), (1, 2, 0, 0), (0, 0, 0, 1), (4, 0, 0, 0), (1, 0, 1, 0), (14, 0, 6, 0), (13, 15, 3, 0), (1, 0, 1, 0), (1, 2, 0, 0), (0, 0, 0, 1), (4, 0, 0, 0), (25, 3, 1, 0), (3, 2, 0, 1), (11, 2, 0, 0), (1, 0, 1, 0), (9, 0, 0, 0), (14, 0, 6, 0), (0, 0, 0, 1), (5, 0, 0, 0), (15, 0, 6, 0), (28, 0, 0, 0)]
def kc_D_moveDown : List jxI := [(1, 1, 0, 0), (0, 0, 0, 1), (5, 0, 0, 0), (2, 2, 0, 0), (1, 0, 1, 0), (14, 0, 0, 0), (1, 1, 0, 0), (0, 0, 0, 6), (6, 0, 0, 0), (1, 0, 1, 0), (14, 0, 0, 0), (1, 2, 0, 0), (0, 0, 0, 6), (6, 0, 0, 0), (0, 0, 0, 6), (26, 0, 0, 0), (1, 0, 1, 0), (14, 0, 1, 0), (1, 2, 0, 0), (1, 0, 1, 0), (14, 0, 1, 0), (1, 1, 0, 0), (16, 0, 0, 0), (17, 0, 0, 0), (1, 0, 1, 0), (14, 0, 2, 0), (1, 2, 0, 0), (1, 0, 1, 0), (14, 0, 2, 0), (1, 1, 0, 0), (16, 0, 0, 0), (17, 0, 0, 0), (1, 0, 1, 0), (14, 0, 3, 0), (1, 2, 0, 0), (1, 0, 1, 0), (14, 0, 3, 0), (1, 1, 0, 0), (16, 0, 0, 0), (17, 0, 0, 0), (1, 0, 1, 0), (14, 0, 4, 0), (1, 2, 0, 0), (1, 0, 1, 0), (14, 0, 4, 0), (1, 1, 0, 0), (16, 0, 0, 0), (17, 0, 0, 0), (1, 0, 1, 0), (14, 0, 5, 0), (1, 2, 0, 0), (1, 0, 1, 0), (14, 0, 5, 0), (1, 1, 0, 0), (16, 0, 0, 0), (17, 0, 0, 0), (28, 0, 0, 0)]
def kc_D_beginsWith : List jxI := [(1, 2, 1, 0), (14, 5, 1, 0), (1, 0, 1, 0), (14, 0, 1, 0), (1, 1, 0, 0), (16, 0, 0, 0), (13, 9, 5, 0), (0, 0, 0, 0), (27, 1, 0, 0), (0, 0, 0, 0), (2, 3, 0, 0), (1, 3, 0, 0), (1, 2, 1, 0), (14, 5, 1, 0), (13, 32, 3, 0), (1, 0, 1, 0), (14, 0, 0, 0), (1, 1, 0, 0), (0, 0, 0, 6), (6, 0, 0, 0), (1, 3, 0, 0), (4, 0, 0, 0), (16, 0, 0, 0), (1, 2, 1, 0), (14, 5, 0, 0), (1, 3, 0, 0), (16, 0, 0, 0), (13, 30, 0, 0), (0, 0, 0, 0), (27, 1, 0, 0), (3, 3, 0, 1), (11, 11, 0, 0), (0, 0, 0, 1), (27, 1, 0, 0)]
def kc_D_holds : List jxI := [(0, 0, 0, 0), (2, 4, 0, 0), (1, 4, 0, 0), (1, 0, 1, 0), (14, 0, 6, 0), (13, 34, 3, 0), (1, 0, 1, 0), (14, 0, 2, 0), (1, 4, 0, 0), (16, 0, 0, 0), (1, 2, 0, 0), (13, 32, 1, 0), (1, 0, 1, 0), (14, 0, 3, 0), (1, 4, 0, 0), (16, 0, 0, 0), (1, 3, 0, 0), (13, 32, 1, 0), (1, 0, 1, 0), (14, 0, 1, 0), (1, 4, 0, 0), (16, 0, 0, 0), (1, 1, 1, 0), (14, 5, 1, 0), (13, 32, 1, 0), (1, 0, 1, 0), (1, 4, 0, 0), (1, 1, 1, 0), (25, 4, 2, 0), (12, 32, 0, 0), (0, 0, 0, 1), (27, 1, 0, 0), (3, 4, 0, 1), (11, 2, 0, 0), (0, 0, 0, 0), (27, 1, 0, 0)]
def kc_D_presentCost : List jxI := [(0, 0, 0, 0), (1, 0, 1, 0), (14, 0, 4, 0), (1, 1, 0, 0), (16, 0, 0, 0), (0, 0, 0, 3), (1, 0, 1, 0), (14, 0, 5, 0), (1, 1, 0, 0), (16, 0, 0, 0), (6, 0, 0, 0), (5, 0, 0, 0), (30, 0, 0, 0), (27, 0, 0, 0)]
def kc_D_learn : List jxI := [(1, 0, 1, 0), (14, 0, 5, 0), (1, 1, 0, 0), (16, 0, 0, 0), (0, 0, 0, 9), (13, 8, 2, 0), (0, 0, 0, 0), (27, 1, 0, 0), (1, 0, 1, 0), (14, 0, 5, 0), (1, 1, 0, 0), (10, 0, 0, 0), (16, 0, 0, 0), (0, 0, 0, 1), (4, 0, 0, 0), (17, 0, 0, 0), (0, 0, 0, 1), (27, 1, 0, 0)]
def kc_D_sumOfUses : List jxI := [(0, 0, 0, 0), (2, 1, 0, 0), (0, 0, 0, 0), (2, 2, 0, 0), (1, 2, 0, 0), (1, 0, 1, 0), (14, 0, 6, 0), (13, 17, 3, 0), (1, 1, 0, 0), (1, 0, 1, 0), (14, 0, 5, 0), (1, 2, 0, 0), (16, 0, 0, 0), (4, 0, 0, 0), (2, 1, 0, 0), (3, 2, 0, 1), (11, 4, 0, 0), (1, 1, 0, 0), (27, 0, 0, 0)]
def kc_H_keep : List jxI := [(1, 0, 1, 0), (14, 1, 0, 0), (1, 0, 1, 0), (14, 1, 1, 0), (19, 0, 0, 0), (2, 2, 1, 0), (1, 2, 1, 0), (23, 9, 0, 0), (28, 0, 0, 0), (1, 2, 1, 0), (1, 1, 1, 0), (25, 16, 1, 3), (1, 0, 1, 0), (1, 0, 1, 0), (14, 1, 1, 0), (0, 0, 0, 5), (13, 19, 1, 0), (0, 0, 0, 0), (11, 23, 0, 0), (1, 0, 1, 0), (14, 1, 1, 0), (0, 0, 0, 1), (4, 0, 0, 0), (15, 1, 1, 0), (1, 0, 1, 0), (1, 0, 1, 0), (14, 1, 2, 0), (0, 0, 0, 1), (4, 0, 0, 0), (0, 0, 0, 6), (31, 0, 0, 0), (15, 1, 2, 0), (28, 0, 0, 0)]
def kc_H_bringBack : List jxI := [(1, 0, 1, 0), (14, 1, 1, 0), (12, 5, 1, 0), (0, 0, 0, 5), (11, 9, 0, 0), (1, 0, 1, 0), (14, 1, 1, 0), (0, 0, 0, 1), (5, 0, 0, 0), (2, 2, 0, 0), (1, 0, 1, 0), (14, 1, 0, 0), (1, 2, 0, 0), (19, 0, 0, 0), (2, 3, 1, 0), (1, 3, 1, 0), (22, 20, 0, 0), (1, 0, 1, 0), (14, 1, 2, 0), (12, 21, 1, 0), (28, 0, 0, 0), (1, 1, 1, 0), (1, 3, 1, 0), (25, 16, 1, 3), (1, 0, 1, 0), (1, 2, 0, 0), (15, 1, 1, 0), (1, 0, 1, 0), (9, 0, 0, 0), (14, 1, 2, 0), (0, 0, 0, 1), (5, 0, 0, 0), (15, 1, 2, 0), (28, 0, 0, 0)]
def kc_L_build : List jxI := [(1, 0, 1, 0), (25, 12, 0, 2), (1, 0, 1, 0), (14, 2, 2, 0), (0, 0, 0, 0), (24, 127, 2, 0), (0, 0, 0, 0), (2, 1, 0, 0), (1, 1, 0, 0), (1, 0, 1, 0), (14, 2, 0, 0), (14, 3, 5, 0), (13, 29, 3, 0), (1, 0, 1, 0), (1, 1, 0, 0), (25, 13, 1, 2), (1, 0, 1, 0), (1, 1, 0, 0), (1, 1, 0, 0), (0, 0, 0, 1), (4, 0, 0, 0), (0, 0, 0, (-5)), (0, 0, 0, 5), (1, 0, 1, 0), (14, 2, 0, 0), (14, 3, 4, 0), (25, 14, 5, 2), (3, 1, 0, 1), (11, 8, 0, 0), (28, 0, 0, 0)]
def kc_L_sortByLength : List jxI := [(1, 0, 1, 0), (14, 2, 0, 0), (14, 3, 0, 0), (2, 1, 1, 0), (0, 0, 0, 0), (2, 2, 0, 0), (0, 0, 0, 6), (2, 3, 0, 0), (1, 3, 0, 0), (12, 35, 5, 0), (0, 0, 0, 0), (2, 4, 0, 0), (1, 4, 0, 0), (1, 1, 1, 0), (14, 0, 6, 0), (13, 33, 3, 0), (1, 1, 1, 0), (14, 0, 1, 0), (1, 4, 0, 0), (16, 0, 0, 0), (1, 3, 0, 0), (13, 31, 1, 0), (1, 2, 0, 0), (0, 0, 0, 20), (13, 31, 3, 0), (1, 0, 1, 0), (14, 2, 1, 0), (1, 2, 0, 0), (1, 4, 0, 0), (17, 0, 0, 0), (3, 2, 0, 1), (3, 4, 0, 1), (11, 12, 0, 0), (3, 3, 0, (-1)), (11, 8, 0, 0), (28, 0, 0, 0)]
def kc_L_addEntriesAt : List jxI := [(1, 0, 1, 0), (14, 2, 0, 0), (14, 3, 0, 0), (2, 2, 1, 0), (0, 0, 0, 0), (2, 3, 0, 0), (1, 3, 0, 0), (1, 2, 1, 0), (14, 0, 6, 0), (13, 40, 3, 0), (1, 0, 1, 0), (14, 2, 1, 0), (1, 3, 0, 0), (16, 0, 0, 0), (2, 4, 0, 0), (1, 0, 1, 0), (14, 2, 0, 0), (1, 4, 0, 0), (1, 1, 0, 0), (25, 19, 2, 3), (12, 38, 0, 0), (1, 0, 1, 0), (1, 1, 0, 0), (1, 1, 0, 0), (1, 2, 1, 0), (14, 0, 1, 0), (1, 4, 0, 0), (16, 0, 0, 0), (4, 0, 0, 0), (1, 4, 0, 0), (1, 2, 1, 0), (14, 0, 3, 0), (1, 4, 0, 0), (16, 0, 0, 0), (1, 2, 1, 0), (1, 4, 0, 0), (25, 6, 1, 0), (25, 14, 5, 2), (3, 3, 0, 1), (11, 6, 0, 0), (28, 0, 0, 0)]
def kc_L_addSlot : List jxI := [(1, 0, 1, 0), (14, 2, 2, 0), (1, 1, 0, 0), (16, 0, 0, 0), (0, 0, 0, 21), (13, 12, 3, 0), (1, 0, 1, 0), (14, 2, 0, 0), (1, 1, 0, 0), (1, 2, 0, 0), (25, 20, 2, 3), (12, 13, 1, 0), (28, 0, 0, 0), (1, 1, 0, 0), (0, 0, 0, 21), (6, 0, 0, 0), (1, 0, 1, 0), (14, 2, 2, 0), (1, 1, 0, 0), (16, 0, 0, 0), (4, 0, 0, 0), (2, 6, 0, 0), (1, 0, 1, 0), (14, 2, 3, 0), (1, 6, 0, 0), (1, 3, 0, 0), (17, 0, 0, 0), (1, 0, 1, 0), (14, 2, 4, 0), (1, 6, 0, 0), (1, 2, 0, 0), (17, 0, 0, 0), (1, 0, 1, 0), (14, 2, 5, 0), (1, 6, 0, 0), (1, 4, 0, 0), (17, 0, 0, 0), (1, 0, 1, 0), (14, 2, 6, 0), (1, 6, 0, 0), (1, 5, 0, 0), (17, 0, 0, 0), (1, 0, 1, 0), (14, 2, 2, 0), (1, 1, 0, 0), (10, 0, 0, 0), (16, 0, 0, 0), (0, 0, 0, 1), (4, 0, 0, 0), (17, 0, 0, 0), (28, 0, 0, 0)]
def kc_L_stateBehind : List jxI := [(1, 0, 1, 0), (14, 2, 4, 0), (1, 1, 0, 0), (16, 0, 0, 0), (0, 0, 0, 7), (6, 0, 0, 0), (1, 0, 1, 0), (14, 2, 5, 0), (1, 1, 0, 0), (16, 0, 0, 0), (4, 0, 0, 0), (27, 0, 0, 0)]
def kc_M_copyFrom : List jxI := [(1, 0, 1, 0), (14, 3, 0, 0), (1, 1, 1, 0), (14, 3, 0, 0), (25, 0, 1, 0), (1, 1, 1, 0), (14, 3, 1, 0), (0, 0, 0, 0), (1, 0, 1, 0), (14, 3, 1, 0), (0, 0, 0, 0), (1, 0, 1, 0), (14, 3, 1, 0), (18, 0, 0, 0), (26, 0, 0, 0), (1, 1, 1, 0), (14, 3, 2, 0), (0, 0, 0, 0), (1, 0, 1, 0), (14, 3, 2, 0), (0, 0, 0, 0), (0, 0, 0, 16), (26, 0, 0, 0), (1, 1, 1, 0), (14, 3, 3, 0), (0, 0, 0, 0), (1, 0, 1, 0), (14, 3, 3, 0), (0, 0, 0, 0), (0, 0, 0, 17), (26, 0, 0, 0), (1, 0, 1, 0), (1, 1, 1, 0), (14, 3, 4, 0), (15, 3, 4, 0), (1, 0, 1, 0), (1, 1, 1, 0), (14, 3, 5, 0), (15, 3, 5, 0), (28, 0, 0, 0)]
def kc_M_takeInput : List jxI := [(1, 1, 1, 0), (14, 5, 1, 0), (0, 0, 0, 16), (13, 5, 5, 0), (28, 0, 0, 0), (1, 1, 1, 0), (14, 5, 0, 0), (0, 0, 0, 0), (1, 0, 1, 0), (14, 3, 2, 0), (0, 0, 0, 0), (1, 1, 1, 0), (14, 5, 1, 0), (26, 0, 0, 0), (1, 0, 1, 0), (1, 1, 1, 0), (14, 5, 1, 0), (15, 3, 5, 0), (1, 0, 1, 0), (14, 3, 3, 0), (0, 0, 0, 0), (24, 127, 2, 0), (28, 0, 0, 0)]
def kc_M_connection : List jxI := [(1, 0, 1, 0), (14, 3, 1, 0), (1, 1, 0, 0), (0, 0, 0, 7), (6, 0, 0, 0), (1, 2, 0, 0), (4, 0, 0, 0), (16, 0, 0, 0), (27, 0, 0, 0)]
def kc_M_standsAt : List jxI := [(1, 0, 1, 0), (14, 3, 0, 0), (14, 0, 1, 0), (1, 1, 0, 0), (16, 0, 0, 0), (2, 3, 0, 0), (1, 2, 0, 0), (1, 3, 0, 0), (4, 0, 0, 0), (1, 0, 1, 0), (14, 3, 5, 0), (13, 14, 5, 0), (0, 0, 0, 0), (27, 1, 0, 0), (0, 0, 0, 0), (2, 4, 0, 0), (1, 4, 0, 0), (1, 3, 0, 0), (13, 39, 3, 0), (1, 0, 1, 0), (14, 3, 0, 0), (14, 0, 0, 0), (1, 1, 0, 0), (0, 0, 0, 6), (6, 0, 0, 0), (1, 4, 0, 0), (4, 0, 0, 0), (16, 0, 0, 0), (1, 0, 1, 0), (14, 3, 2, 0), (1, 2, 0, 0), (1, 4, 0, 0), (4, 0, 0, 0), (16, 0, 0, 0), (13, 37, 0, 0), (0, 0, 0, 0), (27, 1, 0, 0), (3, 4, 0, 1), (11, 16, 0, 0), (0, 0, 0, 1), (27, 1, 0, 0)]
def kc_M_allowsSegment : List jxI := [(1, 0, 1, 0), (14, 3, 3, 0), (1, 2, 0, 0), (16, 0, 0, 0), (0, 0, 0, 2), (13, 8, 1, 0), (0, 0, 0, 0), (27, 1, 0, 0), (1, 1, 0, 0), (0, 0, 0, 1), (4, 0, 0, 0), (2, 3, 0, 0), (1, 3, 0, 0), (1, 2, 0, 0), (13, 25, 3, 0), (1, 0, 1, 0), (14, 3, 3, 0), (1, 3, 0, 0), (16, 0, 0, 0), (0, 0, 0, 1), (13, 23, 1, 0), (0, 0, 0, 0), (27, 1, 0, 0), (3, 3, 0, 1), (11, 12, 0, 0), (0, 0, 0, 1), (27, 1, 0, 0)]
def kc_R_build : List jxI := [(1, 0, 1, 0), (25, 22, 0, 4), (1, 0, 1, 0), (25, 24, 0, 4), (1, 0, 1, 0), (25, 26, 0, 4), (1, 0, 1, 0), (14, 4, 0, 0), (14, 3, 5, 0), (0, 0, 0, 1), (5, 0, 0, 0), (2, 1, 0, 0), (1, 1, 0, 0), (12, 27, 2, 0), (0, 0, 0, 0), (2, 2, 0, 0), (1, 2, 0, 0), (0, 0, 0, 7), (13, 25, 3, 0), (1, 0, 1, 0), (1, 1, 0, 0), (1, 2, 0, 0), (25, 27, 2, 4), (3, 2, 0, 1), (11, 16, 0, 0), (3, 1, 0, (-1)), (11, 12, 0, 0), (28, 0, 0, 0)]
def kc_R_findLeastTo : List jxI := [(1, 0, 1, 0), (14, 4, 2, 0), (0, 0, 0, 1000000), (24, 127, 2, 0), (1, 0, 1, 0), (14, 4, 2, 0), (0, 0, 0, 6), (0, 0, 0, 0), (17, 0, 0, 0), (0, 0, 0, 0), (2, 1, 0, 0), (1, 1, 0, 0), (1, 0, 1, 0), (14, 4, 0, 0), (14, 3, 5, 0), (13, 65, 3, 0), (0, 0, 0, 0), (2, 2, 0, 0), (1, 2, 0, 0), (1, 0, 1, 0), (14, 4, 1, 0), (14, 2, 2, 0), (1, 1, 0, 0), (16, 0, 0, 0), (13, 63, 3, 0), (1, 1, 0, 0), (0, 0, 0, 21), (6, 0, 0, 0), (1, 2, 0, 0), (4, 0, 0, 0), (2, 3, 0, 0), (1, 0, 1, 0), (14, 4, 1, 0), (1, 3, 0, 0), (25, 15, 1, 2), (2, 4, 0, 0), (1, 0, 1, 0), (1, 1, 0, 0), (1, 0, 1, 0), (14, 4, 1, 0), (14, 2, 5, 0), (1, 3, 0, 0), (16, 0, 0, 0), (25, 23, 2, 4), (1, 0, 1, 0), (14, 4, 1, 0), (14, 2, 6, 0), (1, 3, 0, 0), (16, 0, 0, 0), (4, 0, 0, 0), (2, 5, 0, 0), (1, 0, 1, 0), (14, 4, 2, 0), (1, 4, 0, 0), (1, 0, 1, 0), (14, 4, 2, 0), (1, 4, 0, 0), (16, 0, 0, 0), (1, 5, 0, 0), (31, 0, 0, 0), (17, 0, 0, 0), (3, 2, 0, 1), (11, 18, 0, 0), (3, 1, 0, 1), (11, 11, 0, 0), (28, 0, 0, 0)]
def kc_R_leastBefore : List jxI := [(0, 0, 0, 1000000), (2, 3, 0, 0), (0, 0, 0, 0), (2, 4, 0, 0), (1, 4, 0, 0), (0, 0, 0, 7), (13, 28, 3, 0), (1, 0, 1, 0), (14, 4, 2, 0), (1, 1, 0, 0), (0, 0, 0, 7), (6, 0, 0, 0), (1, 4, 0, 0), (4, 0, 0, 0), (16, 0, 0, 0), (1, 0, 1, 0), (14, 4, 0, 0), (1, 4, 0, 0), (1, 2, 0, 0), (25, 18, 2, 3), (4, 0, 0, 0), (2, 5, 0, 0), (1, 3, 0, 0), (1, 5, 0, 0), (31, 0, 0, 0), (2, 3, 0, 0), (3, 4, 0, 1), (11, 4, 0, 0), (1, 3, 0, 0), (27, 0, 0, 0)]
def kc_R_countPaths : List jxI := [(1, 0, 1, 0), (14, 4, 10, 0), (1, 0, 1, 0), (14, 4, 0, 0), (14, 3, 5, 0), (0, 0, 0, 1), (17, 0, 0, 0), (1, 0, 1, 0), (14, 4, 0, 0), (14, 3, 5, 0), (0, 0, 0, 1), (5, 0, 0, 0), (2, 1, 0, 0), (1, 1, 0, 0), (12, 50, 2, 0), (0, 0, 0, 0), (2, 2, 0, 0), (0, 0, 0, 0), (2, 3, 0, 0), (1, 3, 0, 0), (1, 0, 1, 0), (14, 4, 1, 0), (14, 2, 2, 0), (1, 1, 0, 0), (16, 0, 0, 0), (13, 43, 3, 0), (1, 2, 0, 0), (1, 0, 1, 0), (14, 4, 10, 0), (1, 0, 1, 0), (14, 4, 1, 0), (14, 2, 4, 0), (1, 1, 0, 0), (0, 0, 0, 21), (6, 0, 0, 0), (1, 3, 0, 0), (4, 0, 0, 0), (16, 0, 0, 0), (16, 0, 0, 0), (24, 25, 2, 0), (2, 2, 0, 0), (3, 3, 0, 1), (11, 19, 0, 0), (1, 0, 1, 0), (14, 4, 10, 0), (1, 1, 0, 0), (1, 2, 0, 0), (17, 0, 0, 0), (3, 1, 0, (-1)), (11, 13, 0, 0), (28, 0, 0, 0)]
def kc_R_cappedSum : List jxI := [(1, 0, 0, 0), (1, 1, 0, 0), (4, 0, 0, 0), (0, 0, 0, 1000000000), (31, 0, 0, 0), (27, 0, 0, 0)]
def kc_R_listEnds : List jxI := [(1, 0, 1, 0), (14, 4, 4, 0), (0, 0, 0, 0), (24, 127, 2, 0), (0, 0, 0, 0), (2, 1, 0, 0), (1, 1, 0, 0), (0, 0, 0, 7), (13, 46, 3, 0), (1, 0, 1, 0), (14, 4, 0, 0), (14, 3, 5, 0), (0, 0, 0, 7), (6, 0, 0, 0), (1, 1, 0, 0), (4, 0, 0, 0), (2, 2, 0, 0), (1, 0, 1, 0), (14, 4, 2, 0), (1, 2, 0, 0), (16, 0, 0, 0), (0, 0, 0, 1000000), (13, 44, 3, 0), (1, 0, 1, 0), (14, 4, 4, 0), (1, 2, 0, 0), (0, 0, 0, 1), (17, 0, 0, 0), (1, 0, 1, 0), (14, 4, 5, 0), (1, 2, 0, 0), (0, 0, 0, 20), (6, 0, 0, 0), (1, 0, 1, 0), (14, 4, 0, 0), (1, 1, 0, 0), (0, 0, 0, 6), (25, 18, 2, 3), (17, 0, 0, 0), (1, 0, 1, 0), (14, 4, 3, 0), (1, 2, 0, 0), (0, 0, 0, 1), (17, 0, 0, 0), (3, 1, 0, 1), (11, 6, 0, 0), (28, 0, 0, 0)]
def kc_R_listState : List jxI := [(1, 1, 0, 0), (0, 0, 0, 7), (6, 0, 0, 0), (1, 2, 0, 0), (4, 0, 0, 0), (2, 3, 0, 0), (1, 0, 1, 0), (14, 4, 2, 0), (1, 3, 0, 0), (16, 0, 0, 0), (0, 0, 0, 1000000), (13, 13, 2, 0), (28, 0, 0, 0), (1, 0, 1, 0), (1, 1, 0, 0), (1, 2, 0, 0), (25, 28, 2, 4), (1, 0, 1, 0), (1, 1, 0, 0), (1, 3, 0, 0), (25, 30, 2, 4), (0, 0, 0, 0), (2, 4, 0, 0), (1, 4, 0, 0), (0, 0, 0, 20), (13, 40, 3, 0), (1, 0, 1, 0), (1, 1, 0, 0), (25, 31, 1, 4), (2, 5, 0, 0), (1, 5, 0, 0), (12, 33, 3, 0), (11, 40, 0, 0), (1, 0, 1, 0), (1, 1, 0, 0), (1, 3, 0, 0), (1, 5, 0, 0), (25, 32, 3, 4), (3, 4, 0, 1), (11, 23, 0, 0), (28, 0, 0, 0)]
def kc_R_openHeads : List jxI := [(0, 0, 0, 0), (2, 3, 0, 0), (1, 3, 0, 0), (1, 0, 1, 0), (14, 4, 1, 0), (14, 2, 2, 0), (1, 1, 0, 0), (16, 0, 0, 0), (13, 52, 3, 0), (1, 1, 0, 0), (0, 0, 0, 21), (6, 0, 0, 0), (1, 3, 0, 0), (4, 0, 0, 0), (2, 4, 0, 0), (1, 0, 1, 0), (14, 4, 0, 0), (1, 2, 0, 0), (1, 0, 1, 0), (14, 4, 1, 0), (14, 2, 5, 0), (1, 4, 0, 0), (16, 0, 0, 0), (25, 18, 2, 3), (1, 0, 1, 0), (14, 4, 1, 0), (14, 2, 6, 0), (1, 4, 0, 0), (16, 0, 0, 0), (4, 0, 0, 0), (2, 5, 0, 0), (1, 0, 1, 0), (14, 4, 9, 0), (1, 3, 0, 0), (0, 0, 0, 0), (17, 0, 0, 0), (1, 0, 1, 0), (14, 4, 8, 0), (1, 3, 0, 0), (0, 0, 0, 1000000), (1, 5, 0, 0), (1, 0, 1, 0), (1, 0, 1, 0), (14, 4, 1, 0), (1, 4, 0, 0), (25, 15, 1, 2), (25, 29, 1, 4), (4, 0, 0, 0), (31, 0, 0, 0), (17, 0, 0, 0), (3, 3, 0, 1), (11, 2, 0, 0), (28, 0, 0, 0)]
def kc_R_leastFrom : List jxI := [(1, 0, 1, 0), (14, 4, 4, 0), (1, 1, 0, 0), (16, 0, 0, 0), (12, 12, 5, 0), (1, 0, 1, 0), (14, 4, 5, 0), (1, 1, 0, 0), (0, 0, 0, 20), (6, 0, 0, 0), (16, 0, 0, 0), (11, 13, 0, 0), (0, 0, 0, 1000000), (27, 0, 0, 0)]
def kc_R_countBestWays : List jxI := [(1, 0, 1, 0), (1, 1, 0, 0), (25, 31, 1, 4), (2, 3, 0, 0), (0, 0, 0, 0), (2, 4, 0, 0), (1, 3, 0, 0), (12, 42, 2, 0), (1, 3, 0, 0), (2, 5, 0, 0), (1, 5, 0, 0), (1, 0, 1, 0), (14, 4, 1, 0), (14, 2, 2, 0), (1, 1, 0, 0), (16, 0, 0, 0), (13, 42, 3, 0), (1, 0, 1, 0), (14, 4, 8, 0), (1, 5, 0, 0), (16, 0, 0, 0), (1, 0, 1, 0), (14, 4, 8, 0), (1, 3, 0, 0), (16, 0, 0, 0), (13, 40, 1, 0), (1, 4, 0, 0), (1, 0, 1, 0), (14, 4, 3, 0), (1, 0, 1, 0), (14, 4, 1, 0), (1, 1, 0, 0), (0, 0, 0, 21), (6, 0, 0, 0), (1, 5, 0, 0), (4, 0, 0, 0), (25, 15, 1, 2), (16, 0, 0, 0), (24, 25, 2, 0), (2, 4, 0, 0), (3, 5, 0, 1), (11, 10, 0, 0), (1, 0, 1, 0), (14, 4, 3, 0), (1, 2, 0, 0), (1, 4, 0, 0), (17, 0, 0, 0), (28, 0, 0, 0)]
def kc_R_cheapestHead : List jxI := [(0, 0, 0, (-1)), (2, 2, 0, 0), (0, 0, 0, 1000000), (2, 3, 0, 0), (0, 0, 0, 0), (2, 4, 0, 0), (1, 4, 0, 0), (1, 0, 1, 0), (14, 4, 1, 0), (14, 2, 2, 0), (1, 1, 0, 0), (16, 0, 0, 0), (13, 28, 3, 0), (1, 0, 1, 0), (14, 4, 8, 0), (1, 4, 0, 0), (16, 0, 0, 0), (1, 3, 0, 0), (13, 26, 3, 0), (1, 0, 1, 0), (14, 4, 8, 0), (1, 4, 0, 0), (16, 0, 0, 0), (2, 3, 0, 0), (1, 4, 0, 0), (2, 2, 0, 0), (3, 4, 0, 1), (11, 6, 0, 0), (1, 2, 0, 0), (27, 0, 0, 0)]
def kc_R_takeHead : List jxI := [(1, 2, 0, 0), (0, 0, 0, 20), (6, 0, 0, 0), (1, 0, 1, 0), (14, 4, 4, 0), (1, 2, 0, 0), (16, 0, 0, 0), (4, 0, 0, 0), (2, 4, 0, 0), (1, 1, 0, 0), (0, 0, 0, 21), (6, 0, 0, 0), (1, 3, 0, 0), (4, 0, 0, 0), (2, 5, 0, 0), (1, 0, 1, 0), (14, 4, 9, 0), (1, 3, 0, 0), (16, 0, 0, 0), (2, 6, 0, 0), (1, 0, 1, 0), (14, 4, 5, 0), (1, 4, 0, 0), (1, 0, 1, 0), (14, 4, 8, 0), (1, 3, 0, 0), (16, 0, 0, 0), (17, 0, 0, 0), (1, 0, 1, 0), (14, 4, 6, 0), (1, 4, 0, 0), (1, 5, 0, 0), (17, 0, 0, 0), (1, 0, 1, 0), (14, 4, 7, 0), (1, 4, 0, 0), (1, 6, 0, 0), (17, 0, 0, 0), (1, 0, 1, 0), (14, 4, 4, 0), (1, 2, 0, 0), (10, 0, 0, 0), (16, 0, 0, 0), (0, 0, 0, 1), (4, 0, 0, 0), (17, 0, 0, 0), (1, 0, 1, 0), (14, 4, 1, 0), (1, 5, 0, 0), (25, 15, 1, 2), (2, 7, 0, 0), (1, 0, 1, 0), (14, 4, 9, 0), (1, 3, 0, 0), (1, 6, 0, 0), (0, 0, 0, 1), (4, 0, 0, 0), (17, 0, 0, 0), (1, 6, 0, 0), (0, 0, 0, 1), (4, 0, 0, 0), (1, 0, 1, 0), (14, 4, 4, 0), (1, 7, 0, 0), (16, 0, 0, 0), (13, 93, 3, 0), (1, 7, 0, 0), (0, 0, 0, 20), (6, 0, 0, 0), (2, 8, 0, 0), (1, 0, 1, 0), (14, 4, 8, 0), (1, 3, 0, 0), (10, 0, 0, 0), (16, 0, 0, 0), (1, 0, 1, 0), (14, 4, 5, 0), (1, 8, 0, 0), (1, 6, 0, 0), (4, 0, 0, 0), (0, 0, 0, 1), (4, 0, 0, 0), (16, 0, 0, 0), (1, 0, 1, 0), (14, 4, 5, 0), (1, 8, 0, 0), (1, 6, 0, 0), (4, 0, 0, 0), (16, 0, 0, 0), (5, 0, 0, 0), (4, 0, 0, 0), (17, 0, 0, 0), (11, 98, 0, 0), (1, 0, 1, 0), (14, 4, 8, 0), (1, 3, 0, 0), (0, 0, 0, 1000000), (17, 0, 0, 0), (28, 0, 0, 0)]
def kc_R_allPaths : List jxI := [(1, 0, 1, 0), (14, 4, 10, 0), (0, 0, 0, 0), (16, 0, 0, 0), (27, 0, 0, 0)]
def kc_R_bestPaths : List jxI := [(1, 0, 1, 0), (14, 4, 3, 0), (0, 0, 0, 6), (16, 0, 0, 0), (27, 0, 0, 0)]
def kc_R_hasRank : List jxI := [(1, 1, 0, 0), (1, 0, 1, 0), (14, 4, 4, 0), (0, 0, 0, 6), (16, 0, 0, 0), (13, 8, 3, 0), (0, 0, 0, 1), (11, 9, 0, 0), (0, 0, 0, 0), (27, 1, 0, 0)]
def kc_R_costAtRank : List jxI := [(1, 0, 1, 0), (14, 4, 5, 0), (0, 0, 0, 120), (1, 1, 0, 0), (4, 0, 0, 0), (16, 0, 0, 0), (27, 0, 0, 0)]
def kc_R_walk : List jxI := [(0, 0, 0, 6), (2, 2, 0, 0), (1, 1, 0, 0), (2, 3, 0, 0), (0, 0, 0, 0), (2, 4, 0, 0), (1, 0, 1, 0), (0, 0, 0, 0), (15, 4, 13, 0), (1, 4, 0, 0), (1, 0, 1, 0), (14, 4, 0, 0), (14, 3, 5, 0), (13, 68, 3, 0), (1, 0, 1, 0), (14, 4, 13, 0), (0, 0, 0, 16), (13, 68, 3, 0), (1, 2, 0, 0), (0, 0, 0, 20), (6, 0, 0, 0), (1, 3, 0, 0), (4, 0, 0, 0), (2, 5, 0, 0), (1, 0, 1, 0), (14, 4, 6, 0), (1, 5, 0, 0), (16, 0, 0, 0), (2, 6, 0, 0), (1, 0, 1, 0), (14, 4, 11, 0), (1, 0, 1, 0), (14, 4, 13, 0), (1, 4, 0, 0), (17, 0, 0, 0), (1, 0, 1, 0), (14, 4, 12, 0), (1, 0, 1, 0), (14, 4, 13, 0), (1, 0, 1, 0), (14, 4, 1, 0), (14, 2, 3, 0), (1, 6, 0, 0), (16, 0, 0, 0), (17, 0, 0, 0), (1, 0, 1, 0), (9, 0, 0, 0), (14, 4, 13, 0), (0, 0, 0, 1), (4, 0, 0, 0), (15, 4, 13, 0), (1, 0, 1, 0), (14, 4, 1, 0), (1, 6, 0, 0), (25, 15, 1, 2), (2, 2, 0, 0), (1, 0, 1, 0), (14, 4, 7, 0), (1, 5, 0, 0), (16, 0, 0, 0), (2, 3, 0, 0), (1, 0, 1, 0), (14, 4, 1, 0), (14, 2, 4, 0), (1, 6, 0, 0), (16, 0, 0, 0), (2, 4, 0, 0), (11, 9, 0, 0), (28, 0, 0, 0)]
def kc_R_trailHolds : List jxI := [(0, 0, 0, 0), (2, 2, 0, 0), (1, 2, 0, 0), (1, 0, 1, 0), (14, 4, 13, 0), (13, 16, 3, 0), (1, 0, 1, 0), (14, 4, 12, 0), (1, 2, 0, 0), (16, 0, 0, 0), (1, 1, 0, 0), (13, 14, 1, 0), (0, 0, 0, 1), (27, 1, 0, 0), (3, 2, 0, 1), (11, 2, 0, 0), (0, 0, 0, 0), (27, 1, 0, 0)]
def kc_R_leastThroughSlot : List jxI := [(1, 0, 1, 0), (1, 1, 0, 0), (1, 0, 1, 0), (14, 4, 1, 0), (14, 2, 5, 0), (1, 2, 0, 0), (16, 0, 0, 0), (25, 23, 2, 4), (1, 0, 1, 0), (14, 4, 1, 0), (14, 2, 6, 0), (1, 2, 0, 0), (16, 0, 0, 0), (4, 0, 0, 0), (1, 0, 1, 0), (1, 0, 1, 0), (14, 4, 1, 0), (1, 2, 0, 0), (25, 15, 1, 2), (25, 29, 1, 4), (4, 0, 0, 0), (27, 0, 0, 0)]
def kc_R_leastThroughEntry : List jxI := [(0, 0, 0, 0), (2, 3, 0, 0), (1, 3, 0, 0), (1, 0, 1, 0), (14, 4, 1, 0), (14, 2, 2, 0), (1, 2, 0, 0), (16, 0, 0, 0), (13, 31, 3, 0), (1, 2, 0, 0), (0, 0, 0, 21), (6, 0, 0, 0), (1, 3, 0, 0), (4, 0, 0, 0), (2, 4, 0, 0), (1, 0, 1, 0), (14, 4, 1, 0), (14, 2, 3, 0), (1, 4, 0, 0), (16, 0, 0, 0), (1, 1, 0, 0), (13, 29, 1, 0), (0, 0, 0, 1000000), (1, 0, 1, 0), (1, 2, 0, 0), (1, 4, 0, 0), (25, 39, 2, 4), (31, 0, 0, 0), (27, 0, 0, 0), (3, 3, 0, 1), (11, 2, 0, 0), (0, 0, 0, 1000000), (27, 0, 0, 0)]
def kc_R_leastEndingAt : List jxI := [(0, 0, 0, 1000000), (2, 2, 0, 0), (0, 0, 0, 0), (2, 3, 0, 0), (1, 3, 0, 0), (0, 0, 0, 7), (13, 26, 3, 0), (1, 1, 0, 0), (0, 0, 0, 7), (6, 0, 0, 0), (1, 3, 0, 0), (4, 0, 0, 0), (2, 4, 0, 0), (1, 2, 0, 0), (1, 0, 1, 0), (14, 4, 2, 0), (1, 4, 0, 0), (16, 0, 0, 0), (1, 0, 1, 0), (1, 4, 0, 0), (25, 29, 1, 4), (4, 0, 0, 0), (31, 0, 0, 0), (2, 2, 0, 0), (3, 3, 0, 1), (11, 4, 0, 0), (1, 2, 0, 0), (27, 0, 0, 0)]
def kc_R_leastCrossing : List jxI := [(0, 0, 0, 1000000), (2, 2, 0, 0), (0, 0, 0, 0), (2, 3, 0, 0), (1, 3, 0, 0), (1, 1, 0, 0), (13, 40, 3, 0), (0, 0, 0, 0), (2, 4, 0, 0), (1, 4, 0, 0), (1, 0, 1, 0), (14, 4, 1, 0), (14, 2, 2, 0), (1, 3, 0, 0), (16, 0, 0, 0), (13, 38, 3, 0), (1, 3, 0, 0), (0, 0, 0, 21), (6, 0, 0, 0), (1, 4, 0, 0), (4, 0, 0, 0), (2, 5, 0, 0), (1, 0, 1, 0), (14, 4, 1, 0), (14, 2, 4, 0), (1, 5, 0, 0), (16, 0, 0, 0), (1, 1, 0, 0), (13, 36, 5, 0), (1, 2, 0, 0), (1, 0, 1, 0), (1, 3, 0, 0), (1, 5, 0, 0), (25, 39, 2, 4), (31, 0, 0, 0), (2, 2, 0, 0), (3, 4, 0, 1), (11, 9, 0, 0), (3, 3, 0, 1), (11, 4, 0, 0), (1, 2, 0, 0), (27, 0, 0, 0)]
def kc_T_push : List jxI := [(1, 0, 1, 0), (14, 5, 1, 0), (0, 0, 0, 20), (13, 16, 3, 0), (1, 0, 1, 0), (14, 5, 0, 0), (1, 0, 1, 0), (14, 5, 1, 0), (1, 1, 0, 0), (17, 0, 0, 0), (1, 0, 1, 0), (9, 0, 0, 0), (14, 5, 1, 0), (0, 0, 0, 1), (4, 0, 0, 0), (15, 5, 1, 0), (28, 0, 0, 0)]
def kc_T_readingError : List jxI := [(1, 0, 1, 0), (14, 5, 1, 0), (12, 5, 1, 0), (0, 0, 0, 0), (11, 8, 0, 0), (1, 0, 1, 0), (0, 0, 0, 6), (25, 45, 1, 5), (27, 0, 0, 0)]
def kc_T_firstError : List jxI := [(0, 0, 0, 0), (2, 2, 0, 0), (1, 2, 0, 0), (1, 0, 1, 0), (14, 5, 1, 0), (13, 21, 3, 0), (1, 2, 0, 0), (1, 1, 0, 0), (13, 17, 3, 0), (1, 0, 1, 0), (14, 5, 0, 0), (1, 2, 0, 0), (16, 0, 0, 0), (0, 0, 0, 97), (0, 0, 0, 122), (24, 79, 3, 0), (12, 19, 0, 0), (1, 2, 0, 0), (27, 0, 0, 0), (3, 2, 0, 1), (11, 2, 0, 0), (0, 0, 0, (-1)), (27, 0, 0, 0)]
def kc_C_appendCharacter : List jxI := [(1, 1, 0, 0), (0, 0, 0, 0), (0, 0, 0, 255), (24, 79, 3, 0), (12, 7, 0, 0), (0, 0, 0, (-1)), (27, 0, 0, 0), (1, 0, 1, 0), (14, 6, 0, 0), (14, 5, 1, 0), (0, 0, 0, 20), (13, 14, 2, 0), (0, 0, 0, (-3)), (27, 0, 0, 0), (1, 0, 1, 0), (14, 6, 0, 0), (1, 1, 0, 0), (25, 43, 1, 5), (1, 0, 1, 0), (14, 6, 0, 0), (14, 5, 1, 0), (27, 0, 0, 0)]
def kc_C_clearText : List jxI := [(1, 0, 1, 0), (14, 6, 0, 0), (14, 5, 1, 0), (2, 1, 0, 0), (1, 0, 1, 0), (14, 6, 0, 0), (0, 0, 0, 0), (15, 5, 1, 0), (1, 1, 0, 0), (27, 0, 0, 0)]
def kc_C_addEntry : List jxI := [(1, 1, 0, 0), (0, 0, 0, 0), (0, 0, 0, 99), (24, 79, 3, 0), (12, 15, 1, 0), (1, 2, 0, 0), (0, 0, 0, 0), (0, 0, 0, 4), (24, 79, 3, 0), (12, 15, 1, 0), (1, 3, 0, 0), (0, 0, 0, 0), (0, 0, 0, 99), (24, 79, 3, 0), (12, 17, 0, 0), (0, 0, 0, (-1)), (27, 0, 0, 0), (1, 0, 1, 0), (14, 6, 1, 0), (14, 3, 0, 0), (2, 4, 1, 0), (1, 4, 1, 0), (1, 0, 1, 0), (14, 6, 0, 0), (1, 1, 0, 0), (1, 2, 0, 0), (25, 5, 3, 0), (12, 30, 0, 0), (0, 0, 0, (-2)), (27, 0, 0, 0), (1, 4, 1, 0), (14, 0, 6, 0), (0, 0, 0, 20), (13, 36, 2, 0), (0, 0, 0, (-3)), (27, 0, 0, 0), (1, 0, 1, 0), (14, 6, 0, 0), (25, 44, 0, 5), (2, 5, 0, 0), (1, 5, 0, 0), (0, 0, 0, (-1)), (13, 47, 0, 0), (0, 0, 0, (-10)), (1, 5, 0, 0), (5, 0, 0, 0), (27, 0, 0, 0), (1, 0, 1, 0), (25, 72, 0, 6), (1, 4, 1, 0), (1, 0, 1, 0), (14, 6, 0, 0), (1, 1, 0, 0), (1, 2, 0, 0), (1, 3, 0, 0), (25, 1, 4, 0), (1, 0, 1, 0), (14, 6, 0, 0), (0, 0, 0, 0), (15, 5, 1, 0), (1, 4, 1, 0), (14, 0, 6, 0), (0, 0, 0, 1), (5, 0, 0, 0), (27, 0, 0, 0)]
def kc_C_removeEntry : List jxI := [(1, 0, 1, 0), (1, 1, 0, 0), (25, 75, 1, 6), (12, 6, 0, 0), (0, 0, 0, (-1)), (27, 0, 0, 0), (1, 0, 1, 0), (25, 72, 0, 6), (1, 0, 1, 0), (14, 6, 1, 0), (14, 3, 0, 0), (1, 1, 0, 0), (25, 2, 1, 0), (1, 0, 1, 0), (14, 6, 1, 0), (14, 3, 0, 0), (14, 0, 6, 0), (27, 0, 0, 0)]
def kc_C_entryCount : List jxI := [(1, 0, 1, 0), (14, 6, 1, 0), (14, 3, 0, 0), (14, 0, 6, 0), (27, 0, 0, 0)]
def kc_C_wordOf : List jxI := [(1, 0, 1, 0), (1, 1, 0, 0), (25, 75, 1, 6), (12, 6, 0, 0), (0, 0, 0, (-1)), (27, 0, 0, 0), (1, 0, 1, 0), (14, 6, 1, 0), (14, 3, 0, 0), (14, 0, 2, 0), (1, 1, 0, 0), (16, 0, 0, 0), (27, 0, 0, 0)]
def kc_C_costOf : List jxI := [(1, 0, 1, 0), (1, 1, 0, 0), (25, 75, 1, 6), (12, 6, 0, 0), (0, 0, 0, (-1)), (27, 0, 0, 0), (1, 0, 1, 0), (14, 6, 1, 0), (14, 3, 0, 0), (1, 1, 0, 0), (25, 6, 1, 0), (27, 0, 0, 0)]
def kc_C_useCount : List jxI := [(1, 0, 1, 0), (1, 1, 0, 0), (25, 75, 1, 6), (12, 6, 0, 0), (0, 0, 0, (-1)), (27, 0, 0, 0), (1, 0, 1, 0), (14, 6, 1, 0), (14, 3, 0, 0), (14, 0, 5, 0), (1, 1, 0, 0), (16, 0, 0, 0), (27, 0, 0, 0)]
def kc_C_entriesWithPrefix : List jxI := [(1, 0, 1, 0), (14, 6, 1, 0), (14, 3, 0, 0), (2, 1, 1, 0), (0, 0, 0, 0), (2, 2, 0, 0), (0, 0, 0, 0), (2, 3, 0, 0), (1, 3, 0, 0), (1, 1, 1, 0), (14, 0, 6, 0), (13, 21, 3, 0), (1, 1, 1, 0), (1, 3, 0, 0), (1, 0, 1, 0), (14, 6, 0, 0), (25, 4, 2, 0), (12, 19, 0, 0), (3, 2, 0, 1), (3, 3, 0, 1), (11, 8, 0, 0), (1, 2, 0, 0), (27, 0, 0, 0)]
def kc_C_setConnection : List jxI := [(1, 1, 0, 0), (0, 0, 0, 0), (0, 0, 0, 6), (24, 79, 3, 0), (12, 15, 1, 0), (1, 2, 0, 0), (0, 0, 0, 0), (0, 0, 0, 6), (24, 79, 3, 0), (12, 15, 1, 0), (1, 3, 0, 0), (0, 0, 0, 0), (0, 0, 0, 99), (24, 79, 3, 0), (12, 17, 0, 0), (0, 0, 0, (-1)), (27, 0, 0, 0), (1, 0, 1, 0), (25, 72, 0, 6), (1, 0, 1, 0), (14, 6, 1, 0), (1, 1, 0, 0), (1, 2, 0, 0), (25, 18, 2, 3), (2, 4, 0, 0), (1, 0, 1, 0), (14, 6, 1, 0), (14, 3, 1, 0), (1, 1, 0, 0), (0, 0, 0, 7), (6, 0, 0, 0), (1, 2, 0, 0), (4, 0, 0, 0), (1, 3, 0, 0), (17, 0, 0, 0), (1, 4, 0, 0), (27, 0, 0, 0)]
def kc_C_setUnknownCost : List jxI := [(1, 1, 0, 0), (0, 0, 0, 0), (0, 0, 0, 200), (24, 79, 3, 0), (12, 7, 0, 0), (0, 0, 0, (-1)), (27, 0, 0, 0), (1, 0, 1, 0), (25, 72, 0, 6), (1, 0, 1, 0), (14, 6, 1, 0), (14, 3, 4, 0), (2, 2, 0, 0), (1, 0, 1, 0), (14, 6, 1, 0), (1, 1, 0, 0), (15, 3, 4, 0), (1, 2, 0, 0), (27, 0, 0, 0)]
def kc_C_setInput : List jxI := [(1, 0, 1, 0), (14, 6, 0, 0), (0, 0, 0, 16), (25, 45, 1, 5), (2, 1, 0, 0), (1, 1, 0, 0), (0, 0, 0, (-1)), (13, 12, 0, 0), (0, 0, 0, (-10)), (1, 1, 0, 0), (5, 0, 0, 0), (27, 0, 0, 0), (1, 0, 1, 0), (25, 72, 0, 6), (1, 0, 1, 0), (14, 6, 1, 0), (1, 0, 1, 0), (14, 6, 0, 0), (25, 17, 1, 3), (1, 0, 1, 0), (14, 6, 0, 0), (0, 0, 0, 0), (15, 5, 1, 0), (1, 0, 1, 0), (14, 6, 1, 0), (14, 3, 5, 0), (27, 0, 0, 0)]
def kc_C_inputLength : List jxI := [(1, 0, 1, 0), (14, 6, 1, 0), (14, 3, 5, 0), (27, 0, 0, 0)]
def kc_C_setConstraint : List jxI := [(1, 0, 1, 0), (1, 1, 0, 0), (25, 77, 1, 6), (12, 9, 1, 0), (1, 2, 0, 0), (0, 0, 0, 0), (0, 0, 0, 2), (24, 79, 3, 0), (12, 11, 0, 0), (0, 0, 0, (-1)), (27, 0, 0, 0), (1, 0, 1, 0), (25, 72, 0, 6), (1, 0, 1, 0), (14, 6, 1, 0), (14, 3, 3, 0), (1, 1, 0, 0), (16, 0, 0, 0), (2, 3, 0, 0), (1, 0, 1, 0), (14, 6, 1, 0), (14, 3, 3, 0), (1, 1, 0, 0), (1, 2, 0, 0), (17, 0, 0, 0), (1, 3, 0, 0), (27, 0, 0, 0)]
def kc_C_segmentsAt : List jxI := [(1, 0, 1, 0), (1, 1, 0, 0), (25, 76, 1, 6), (12, 6, 0, 0), (0, 0, 0, (-1)), (27, 0, 0, 0), (0, 0, 0, 0), (2, 2, 0, 0), (0, 0, 0, 0), (2, 3, 0, 0), (1, 3, 0, 0), (1, 0, 1, 0), (14, 6, 1, 0), (14, 3, 0, 0), (14, 0, 6, 0), (13, 25, 3, 0), (1, 0, 1, 0), (14, 6, 1, 0), (1, 3, 0, 0), (1, 1, 0, 0), (25, 19, 2, 3), (12, 23, 0, 0), (3, 2, 0, 1), (3, 3, 0, 1), (11, 10, 0, 0), (1, 2, 0, 0), (27, 0, 0, 0)]
def kc_C_pathCount : List jxI := [(1, 0, 1, 0), (25, 73, 0, 6), (25, 33, 0, 4), (27, 0, 0, 0)]
def kc_C_pathCost : List jxI := [(1, 1, 0, 0), (24, 78, 1, 0), (12, 5, 0, 0), (0, 0, 0, (-1)), (27, 0, 0, 0), (1, 0, 1, 0), (25, 73, 0, 6), (2, 2, 1, 0), (1, 2, 1, 0), (1, 1, 0, 0), (25, 35, 1, 4), (12, 16, 0, 0), (1, 2, 1, 0), (1, 1, 0, 0), (25, 36, 1, 4), (11, 17, 0, 0), (0, 0, 0, (-9)), (27, 0, 0, 0)]
def kc_C_segmentCount : List jxI := [(1, 1, 0, 0), (24, 78, 1, 0), (12, 5, 0, 0), (0, 0, 0, (-1)), (27, 0, 0, 0), (1, 0, 1, 0), (25, 73, 0, 6), (2, 2, 1, 0), (1, 2, 1, 0), (1, 1, 0, 0), (25, 35, 1, 4), (12, 14, 1, 0), (0, 0, 0, (-9)), (27, 0, 0, 0), (1, 2, 1, 0), (1, 1, 0, 0), (25, 37, 1, 4), (1, 2, 1, 0), (14, 4, 13, 0), (27, 0, 0, 0)]
def kc_C_segmentStart : List jxI := [(1, 1, 0, 0), (24, 78, 1, 0), (12, 5, 1, 0), (1, 2, 0, 0), (12, 7, 3, 0), (0, 0, 0, (-1)), (27, 0, 0, 0), (1, 0, 1, 0), (1, 1, 0, 0), (1, 2, 0, 0), (25, 74, 2, 6), (12, 18, 0, 0), (1, 0, 1, 0), (14, 6, 4, 0), (14, 4, 11, 0), (1, 2, 0, 0), (16, 0, 0, 0), (11, 19, 0, 0), (0, 0, 0, (-9)), (27, 0, 0, 0)]
def kc_C_segmentEntry : List jxI := [(1, 1, 0, 0), (24, 78, 1, 0), (12, 5, 1, 0), (1, 2, 0, 0), (12, 7, 3, 0), (0, 0, 0, (-1)), (27, 0, 0, 0), (1, 0, 1, 0), (1, 1, 0, 0), (1, 2, 0, 0), (25, 74, 2, 6), (12, 18, 0, 0), (1, 0, 1, 0), (14, 6, 4, 0), (14, 4, 12, 0), (1, 2, 0, 0), (16, 0, 0, 0), (11, 19, 0, 0), (0, 0, 0, (-9)), (27, 0, 0, 0)]
def kc_C_bestThrough : List jxI := [(1, 0, 1, 0), (1, 1, 0, 0), (25, 75, 1, 6), (12, 8, 1, 0), (1, 0, 1, 0), (1, 2, 0, 0), (25, 76, 1, 6), (12, 10, 0, 0), (0, 0, 0, (-1)), (27, 0, 0, 0), (1, 0, 1, 0), (25, 73, 0, 6), (1, 1, 0, 0), (1, 2, 0, 0), (25, 40, 2, 4), (2, 3, 0, 0), (1, 3, 0, 0), (0, 0, 0, 1000000), (13, 21, 3, 0), (1, 3, 0, 0), (11, 22, 0, 0), (0, 0, 0, (-9)), (27, 0, 0, 0)]
def kc_C_boundaryInBest : List jxI := [(1, 0, 1, 0), (1, 1, 0, 0), (25, 77, 1, 6), (12, 6, 0, 0), (0, 0, 0, (-1)), (27, 0, 0, 0), (1, 0, 1, 0), (25, 73, 0, 6), (2, 2, 1, 0), (1, 2, 1, 0), (1, 1, 0, 0), (25, 41, 1, 4), (2, 3, 0, 0), (1, 2, 1, 0), (1, 1, 0, 0), (25, 42, 1, 4), (2, 4, 0, 0), (1, 3, 0, 0), (0, 0, 0, 1000000), (13, 25, 2, 0), (1, 4, 0, 0), (0, 0, 0, 1000000), (13, 25, 2, 0), (0, 0, 0, (-9)), (27, 0, 0, 0), (1, 3, 0, 0), (1, 4, 0, 0), (13, 30, 1, 0), (0, 0, 0, 1), (27, 0, 0, 0), (1, 3, 0, 0), (1, 4, 0, 0), (13, 35, 3, 0), (0, 0, 0, 2), (11, 36, 0, 0), (0, 0, 0, 0), (27, 0, 0, 0)]
def kc_C_bestCount : List jxI := [(1, 0, 1, 0), (25, 73, 0, 6), (25, 34, 0, 4), (27, 0, 0, 0)]
def kc_C_choose : List jxI := [(1, 1, 0, 0), (24, 78, 1, 0), (12, 5, 0, 0), (0, 0, 0, (-1)), (27, 0, 0, 0), (1, 0, 1, 0), (25, 73, 0, 6), (2, 2, 1, 0), (1, 2, 1, 0), (1, 1, 0, 0), (25, 35, 1, 4), (12, 14, 1, 0), (0, 0, 0, (-2)), (27, 0, 0, 0), (1, 2, 1, 0), (1, 1, 0, 0), (25, 37, 1, 4), (1, 0, 1, 0), (25, 72, 0, 6), (0, 0, 0, 0), (2, 3, 0, 0), (0, 0, 0, 0), (2, 4, 0, 0), (1, 4, 0, 0), (1, 0, 1, 0), (14, 6, 1, 0), (14, 3, 0, 0), (14, 0, 6, 0), (13, 42, 3, 0), (1, 2, 1, 0), (1, 4, 0, 0), (25, 38, 1, 4), (12, 40, 0, 0), (1, 0, 1, 0), (14, 6, 1, 0), (14, 3, 0, 0), (1, 4, 0, 0), (25, 7, 1, 0), (12, 40, 0, 0), (3, 3, 0, 1), (3, 4, 0, 1), (11, 23, 0, 0), (1, 3, 0, 0), (27, 0, 0, 0)]
def kc_C_forget : List jxI := [(1, 0, 1, 0), (14, 6, 1, 0), (14, 3, 0, 0), (25, 8, 0, 0), (2, 1, 0, 0), (1, 1, 0, 0), (12, 9, 1, 0), (0, 0, 0, (-2)), (27, 0, 0, 0), (1, 0, 1, 0), (25, 72, 0, 6), (1, 0, 1, 0), (14, 6, 1, 0), (14, 3, 0, 0), (14, 0, 5, 0), (0, 0, 0, 0), (24, 127, 2, 0), (1, 1, 0, 0), (27, 0, 0, 0)]
def kc_C_undo : List jxI := [(1, 0, 1, 0), (14, 6, 2, 0), (14, 1, 2, 0), (12, 6, 1, 0), (0, 0, 0, (-2)), (27, 0, 0, 0), (1, 0, 1, 0), (14, 6, 2, 0), (1, 0, 1, 0), (14, 6, 1, 0), (25, 10, 1, 1), (1, 0, 1, 0), (0, 0, 0, 1), (15, 6, 5, 1), (1, 0, 1, 0), (14, 6, 2, 0), (14, 1, 2, 0), (27, 0, 0, 0)]
def kc_C_beginEdit : List jxI := [(1, 0, 1, 0), (14, 6, 2, 0), (1, 0, 1, 0), (14, 6, 1, 0), (25, 9, 1, 1), (1, 0, 1, 0), (0, 0, 0, 1), (15, 6, 5, 1), (28, 0, 0, 0)]
def kc_C_presentPaths : List jxI := [(1, 0, 1, 0), (14, 6, 5, 0), (12, 12, 0, 0), (1, 0, 1, 0), (14, 6, 3, 0), (25, 11, 0, 2), (1, 0, 1, 0), (14, 6, 4, 0), (25, 21, 0, 4), (1, 0, 1, 0), (0, 0, 0, 0), (15, 6, 5, 1), (1, 0, 1, 0), (14, 6, 4, 0), (29, 0, 0, 0)]
def kc_C_findSegment : List jxI := [(1, 0, 1, 0), (25, 73, 0, 6), (2, 3, 1, 0), (1, 3, 1, 0), (1, 1, 0, 0), (25, 35, 1, 4), (12, 9, 1, 0), (0, 0, 0, 0), (27, 1, 0, 0), (1, 3, 1, 0), (1, 1, 0, 0), (25, 37, 1, 4), (1, 2, 0, 0), (1, 3, 1, 0), (14, 4, 13, 0), (13, 18, 3, 0), (0, 0, 0, 1), (11, 19, 0, 0), (0, 0, 0, 0), (27, 1, 0, 0)]
def kc_C_isNoEntry : List jxI := [(1, 1, 0, 0), (0, 0, 0, 0), (1, 0, 1, 0), (14, 6, 1, 0), (14, 3, 0, 0), (14, 0, 6, 0), (0, 0, 0, 1), (5, 0, 0, 0), (24, 79, 3, 0), (27, 1, 0, 0)]
def kc_C_isNoGap : List jxI := [(1, 1, 0, 0), (0, 0, 0, 0), (1, 0, 1, 0), (14, 6, 1, 0), (14, 3, 5, 0), (24, 79, 3, 0), (27, 1, 0, 0)]
def kc_C_isNoInnerGap : List jxI := [(1, 1, 0, 0), (0, 0, 0, 1), (1, 0, 1, 0), (14, 6, 1, 0), (14, 3, 5, 0), (0, 0, 0, 1), (5, 0, 0, 0), (24, 79, 3, 0), (27, 1, 0, 0)]
def kc_C_isNoRank : List jxI := [(1, 0, 0, 0), (0, 0, 0, 0), (0, 0, 0, 19), (24, 79, 3, 0), (27, 1, 0, 0)]
def kc_C_isOutside : List jxI := [(1, 0, 0, 0), (1, 1, 0, 0), (13, 6, 2, 0), (1, 0, 0, 0), (1, 2, 0, 0), (13, 8, 5, 0), (0, 0, 0, 1), (11, 9, 0, 0), (0, 0, 0, 0), (27, 1, 0, 0)]
def kc_F_in : List jxI := [(1, 0, 0, 0), (1, 1, 0, 0), (13, 8, 2, 0), (1, 0, 0, 0), (1, 2, 0, 0), (13, 8, 4, 0), (0, 0, 0, 1), (11, 9, 0, 0), (0, 0, 0, 0), (27, 1, 0, 0)]
def kc_F_save : List jxI := [(1, 0, 1, 0), (14, 7, 2, 0), (0, 0, 0, 6), (13, 27, 1, 0), (0, 0, 0, 0), (2, 1, 0, 0), (1, 1, 0, 0), (0, 0, 0, 1525), (13, 21, 3, 0), (1, 0, 1, 0), (14, 7, 1, 0), (1, 1, 0, 0), (1, 0, 1, 0), (14, 7, 1, 0), (1, 1, 0, 0), (0, 0, 0, 305), (4, 0, 0, 0), (16, 0, 0, 0), (17, 0, 0, 0), (3, 1, 0, 1), (11, 6, 0, 0), (1, 0, 1, 0), (9, 0, 0, 0), (14, 7, 2, 0), (0, 0, 0, 1), (5, 0, 0, 0), (15, 7, 2, 0), (0, 0, 0, 0), (2, 1, 0, 0), (1, 1, 0, 0), (0, 0, 0, 305), (13, 47, 3, 0), (1, 0, 1, 0), (14, 7, 1, 0), (0, 0, 0, 305), (1, 0, 1, 0), (14, 7, 2, 0), (6, 0, 0, 0), (1, 1, 0, 0), (4, 0, 0, 0), (1, 0, 1, 0), (14, 7, 0, 0), (1, 1, 0, 0), (16, 0, 0, 0), (17, 0, 0, 0), (3, 1, 0, 1), (11, 29, 0, 0), (1, 0, 1, 0), (9, 0, 0, 0), (14, 7, 2, 0), (0, 0, 0, 1), (4, 0, 0, 0), (15, 7, 2, 0), (1, 0, 1, 0), (0, 0, 0, 0), (15, 7, 5, 1), (28, 0, 0, 0)]
def kc_F_undo : List jxI := [(1, 0, 1, 0), (14, 7, 2, 0), (12, 5, 1, 0), (0, 0, 0, (-2)), (27, 0, 0, 0), (1, 0, 1, 0), (9, 0, 0, 0), (14, 7, 2, 0), (0, 0, 0, 1), (5, 0, 0, 0), (15, 7, 2, 0), (0, 0, 0, 0), (2, 1, 0, 0), (1, 1, 0, 0), (0, 0, 0, 305), (13, 31, 3, 0), (1, 0, 1, 0), (14, 7, 0, 0), (1, 1, 0, 0), (1, 0, 1, 0), (14, 7, 1, 0), (0, 0, 0, 305), (1, 0, 1, 0), (14, 7, 2, 0), (6, 0, 0, 0), (1, 1, 0, 0), (4, 0, 0, 0), (16, 0, 0, 0), (17, 0, 0, 0), (3, 1, 0, 1), (11, 13, 0, 0), (1, 0, 1, 0), (0, 0, 0, 0), (15, 7, 5, 1), (1, 0, 1, 0), (14, 7, 2, 0), (27, 0, 0, 0)]
def kc_F_appendCharacter : List jxI := [(1, 1, 0, 0), (0, 0, 0, 0), (0, 0, 0, 255), (24, 80, 3, 0), (12, 7, 1, 0), (0, 0, 0, (-1)), (27, 0, 0, 0), (1, 0, 1, 0), (14, 7, 4, 0), (0, 0, 0, 20), (13, 13, 1, 0), (0, 0, 0, (-3)), (27, 0, 0, 0), (1, 0, 1, 0), (14, 7, 3, 0), (1, 0, 1, 0), (14, 7, 4, 0), (1, 1, 0, 0), (17, 0, 0, 0), (1, 0, 1, 0), (9, 0, 0, 0), (14, 7, 4, 0), (0, 0, 0, 1), (4, 0, 0, 0), (15, 7, 4, 0), (1, 0, 1, 0), (14, 7, 4, 0), (27, 0, 0, 0)]
def kc_F_clearText : List jxI := [(1, 0, 1, 0), (14, 7, 4, 0), (2, 1, 0, 0), (1, 0, 1, 0), (0, 0, 0, 0), (15, 7, 4, 0), (1, 1, 0, 0), (27, 0, 0, 0)]
def kc_F_fault : List jxI := [(0, 0, 0, 0), (2, 2, 0, 0), (1, 2, 0, 0), (1, 0, 1, 0), (14, 7, 4, 0), (13, 21, 3, 0), (1, 2, 0, 0), (1, 1, 0, 0), (13, 17, 0, 0), (1, 0, 1, 0), (14, 7, 3, 0), (1, 2, 0, 0), (16, 0, 0, 0), (0, 0, 0, 97), (0, 0, 0, 122), (24, 80, 3, 0), (12, 19, 1, 0), (1, 2, 0, 0), (27, 0, 0, 0), (3, 2, 0, 1), (11, 2, 0, 0), (0, 0, 0, (-9)), (27, 0, 0, 0)]
def kc_F_at : List jxI := [(0, 0, 0, 1), (0, 0, 0, 11), (1, 0, 0, 0), (6, 0, 0, 0), (4, 0, 0, 0), (27, 0, 0, 0)]
def kc_F_isEntry : List jxI := [(1, 1, 0, 0), (0, 0, 0, 0), (1, 0, 1, 0), (14, 7, 0, 0), (0, 0, 0, 0), (16, 0, 0, 0), (0, 0, 0, 1), (5, 0, 0, 0), (24, 80, 3, 0), (27, 1, 0, 0)]
def kc_F_begins : List jxI := [(1, 0, 1, 0), (14, 7, 4, 0), (1, 0, 1, 0), (14, 7, 0, 0), (1, 1, 0, 0), (24, 86, 1, 0), (16, 0, 0, 0), (13, 10, 4, 0), (0, 0, 0, 1), (11, 11, 0, 0), (0, 0, 0, 0), (2, 2, 0, 0), (0, 0, 0, 0), (2, 3, 0, 0), (1, 3, 0, 0), (1, 0, 1, 0), (14, 7, 4, 0), (13, 40, 3, 0), (1, 2, 0, 0), (12, 40, 0, 0), (1, 0, 1, 0), (14, 7, 3, 0), (1, 3, 0, 0), (16, 0, 0, 0), (1, 0, 1, 0), (14, 7, 0, 0), (1, 1, 0, 0), (24, 86, 1, 0), (0, 0, 0, 1), (4, 0, 0, 0), (1, 3, 0, 0), (4, 0, 0, 0), (16, 0, 0, 0), (13, 36, 1, 0), (0, 0, 0, 1), (11, 37, 0, 0), (0, 0, 0, 0), (2, 2, 0, 0), (3, 3, 0, 1), (11, 14, 0, 0), (1, 2, 0, 0), (27, 1, 0, 0)]
def kc_F_addEntry : List jxI := [(1, 1, 0, 0), (0, 0, 0, 0), (0, 0, 0, 99), (24, 80, 3, 0), (12, 15, 0, 0), (1, 2, 0, 0), (0, 0, 0, 0), (0, 0, 0, 4), (24, 80, 3, 0), (12, 15, 0, 0), (1, 3, 0, 0), (0, 0, 0, 0), (0, 0, 0, 99), (24, 80, 3, 0), (12, 17, 1, 0), (0, 0, 0, (-1)), (27, 0, 0, 0), (0, 0, 0, 0), (2, 4, 0, 0), (1, 4, 0, 0), (1, 0, 1, 0), (14, 7, 0, 0), (0, 0, 0, 0), (16, 0, 0, 0), (13, 59, 3, 0), (1, 0, 1, 0), (14, 7, 0, 0), (1, 4, 0, 0), (24, 86, 1, 0), (16, 0, 0, 0), (1, 0, 1, 0), (14, 7, 4, 0), (13, 57, 1, 0), (1, 0, 1, 0), (1, 4, 0, 0), (25, 88, 1, 7), (12, 57, 0, 0), (1, 0, 1, 0), (14, 7, 0, 0), (1, 4, 0, 0), (24, 86, 1, 0), (0, 0, 0, 7), (4, 0, 0, 0), (16, 0, 0, 0), (1, 1, 0, 0), (13, 57, 1, 0), (1, 0, 1, 0), (14, 7, 0, 0), (1, 4, 0, 0), (24, 86, 1, 0), (0, 0, 0, 8), (4, 0, 0, 0), (16, 0, 0, 0), (1, 2, 0, 0), (13, 57, 1, 0), (0, 0, 0, (-2)), (27, 0, 0, 0), (3, 4, 0, 1), (11, 19, 0, 0), (1, 0, 1, 0), (14, 7, 0, 0), (0, 0, 0, 0), (16, 0, 0, 0), (0, 0, 0, 20), (13, 67, 1, 0), (0, 0, 0, (-3)), (27, 0, 0, 0), (1, 0, 1, 0), (14, 7, 4, 0), (12, 72, 1, 0), (0, 0, 0, 0), (11, 75, 0, 0), (1, 0, 1, 0), (0, 0, 0, 6), (25, 85, 1, 7), (2, 4, 0, 0), (1, 4, 0, 0), (0, 0, 0, (-9)), (13, 83, 0, 0), (0, 0, 0, (-10)), (1, 4, 0, 0), (5, 0, 0, 0), (27, 0, 0, 0), (1, 0, 1, 0), (25, 81, 0, 7), (1, 0, 1, 0), (14, 7, 0, 0), (0, 0, 0, 0), (16, 0, 0, 0), (24, 86, 1, 0), (2, 5, 0, 0), (1, 0, 1, 0), (14, 7, 0, 0), (1, 5, 0, 0), (1, 0, 1, 0), (14, 7, 4, 0), (17, 0, 0, 0), (0, 0, 0, 0), (2, 6, 0, 0), (1, 6, 0, 0), (0, 0, 0, 6), (13, 122, 3, 0), (1, 0, 1, 0), (14, 7, 0, 0), (1, 5, 0, 0), (0, 0, 0, 1), (4, 0, 0, 0), (1, 6, 0, 0), (4, 0, 0, 0), (1, 6, 0, 0), (1, 0, 1, 0), (14, 7, 4, 0), (13, 118, 3, 0), (1, 0, 1, 0), (14, 7, 3, 0), (1, 6, 0, 0), (16, 0, 0, 0), (11, 119, 0, 0), (0, 0, 0, 0), (17, 0, 0, 0), (3, 6, 0, 1), (11, 99, 0, 0), (1, 0, 1, 0), (14, 7, 0, 0), (1, 5, 0, 0), (0, 0, 0, 7), (4, 0, 0, 0), (1, 1, 0, 0), (17, 0, 0, 0), (1, 0, 1, 0), (14, 7, 0, 0), (1, 5, 0, 0), (0, 0, 0, 8), (4, 0, 0, 0), (1, 2, 0, 0), (17, 0, 0, 0), (1, 0, 1, 0), (14, 7, 0, 0), (1, 5, 0, 0), (0, 0, 0, 9), (4, 0, 0, 0), (1, 3, 0, 0), (17, 0, 0, 0), (1, 0, 1, 0), (14, 7, 0, 0), (1, 5, 0, 0), (0, 0, 0, 10), (4, 0, 0, 0), (0, 0, 0, 0), (17, 0, 0, 0), (1, 0, 1, 0), (14, 7, 0, 0), (0, 0, 0, 0), (10, 0, 0, 0), (16, 0, 0, 0), (0, 0, 0, 1), (4, 0, 0, 0), (17, 0, 0, 0), (1, 0, 1, 0), (0, 0, 0, 0), (15, 7, 4, 0), (1, 0, 1, 0), (14, 7, 0, 0), (0, 0, 0, 0), (16, 0, 0, 0), (0, 0, 0, 1), (5, 0, 0, 0), (27, 0, 0, 0)]
def kc_F_removeEntry : List jxI := [(1, 0, 1, 0), (1, 1, 0, 0), (25, 87, 1, 7), (12, 6, 1, 0), (0, 0, 0, (-1)), (27, 0, 0, 0), (1, 0, 1, 0), (25, 81, 0, 7), (1, 0, 1, 0), (14, 7, 0, 0), (0, 0, 0, 0), (10, 0, 0, 0), (16, 0, 0, 0), (0, 0, 0, 1), (5, 0, 0, 0), (17, 0, 0, 0), (1, 1, 0, 0), (24, 86, 1, 0), (2, 2, 0, 0), (1, 2, 0, 0), (1, 0, 1, 0), (14, 7, 0, 0), (0, 0, 0, 0), (16, 0, 0, 0), (24, 86, 1, 0), (13, 38, 3, 0), (1, 0, 1, 0), (14, 7, 0, 0), (1, 2, 0, 0), (1, 0, 1, 0), (14, 7, 0, 0), (1, 2, 0, 0), (0, 0, 0, 11), (4, 0, 0, 0), (16, 0, 0, 0), (17, 0, 0, 0), (3, 2, 0, 1), (11, 19, 0, 0), (1, 0, 1, 0), (14, 7, 0, 0), (0, 0, 0, 0), (16, 0, 0, 0), (27, 0, 0, 0)]
def kc_F_entryCount : List jxI := [(1, 0, 1, 0), (14, 7, 0, 0), (0, 0, 0, 0), (16, 0, 0, 0), (27, 0, 0, 0)]
def kc_F_wordOf : List jxI := [(1, 0, 1, 0), (1, 1, 0, 0), (25, 87, 1, 7), (12, 12, 0, 0), (1, 0, 1, 0), (14, 7, 0, 0), (1, 1, 0, 0), (24, 86, 1, 0), (0, 0, 0, 7), (4, 0, 0, 0), (16, 0, 0, 0), (11, 13, 0, 0), (0, 0, 0, (-1)), (27, 0, 0, 0)]
def kc_F_price : List jxI := [(1, 0, 1, 0), (14, 7, 0, 0), (1, 1, 0, 0), (24, 86, 1, 0), (0, 0, 0, 9), (4, 0, 0, 0), (16, 0, 0, 0), (0, 0, 0, 3), (1, 0, 1, 0), (14, 7, 0, 0), (1, 1, 0, 0), (24, 86, 1, 0), (0, 0, 0, 10), (4, 0, 0, 0), (16, 0, 0, 0), (6, 0, 0, 0), (5, 0, 0, 0), (2, 2, 0, 0), (1, 2, 0, 0), (12, 22, 3, 0), (0, 0, 0, 0), (11, 23, 0, 0), (1, 2, 0, 0), (27, 0, 0, 0)]
def kc_F_costOf : List jxI := [(1, 0, 1, 0), (1, 1, 0, 0), (25, 87, 1, 7), (12, 8, 0, 0), (1, 0, 1, 0), (1, 1, 0, 0), (25, 93, 1, 7), (11, 9, 0, 0), (0, 0, 0, (-1)), (27, 0, 0, 0)]
def kc_F_useCount : List jxI := [(1, 0, 1, 0), (1, 1, 0, 0), (25, 87, 1, 7), (12, 12, 0, 0), (1, 0, 1, 0), (14, 7, 0, 0), (1, 1, 0, 0), (24, 86, 1, 0), (0, 0, 0, 10), (4, 0, 0, 0), (16, 0, 0, 0), (11, 13, 0, 0), (0, 0, 0, (-1)), (27, 0, 0, 0)]
def kc_F_entriesWithPrefix : List jxI := [(0, 0, 0, 0), (2, 1, 0, 0), (0, 0, 0, 0), (2, 2, 0, 0), (1, 2, 0, 0), (1, 0, 1, 0), (14, 7, 0, 0), (0, 0, 0, 0), (16, 0, 0, 0), (13, 22, 3, 0), (1, 1, 0, 0), (1, 0, 1, 0), (1, 2, 0, 0), (25, 88, 1, 7), (12, 17, 0, 0), (0, 0, 0, 1), (11, 18, 0, 0), (0, 0, 0, 0), (4, 0, 0, 0), (2, 1, 0, 0), (3, 2, 0, 1), (11, 4, 0, 0), (1, 1, 0, 0), (27, 0, 0, 0)]
def kc_F_changed : List jxI := [(1, 0, 1, 0), (25, 81, 0, 7), (1, 0, 1, 0), (14, 7, 0, 0), (1, 1, 0, 0), (16, 0, 0, 0), (2, 3, 0, 0), (1, 0, 1, 0), (14, 7, 0, 0), (1, 1, 0, 0), (1, 2, 0, 0), (17, 0, 0, 0), (1, 3, 0, 0), (27, 0, 0, 0)]
def kc_F_setConnection : List jxI := [(1, 1, 0, 0), (0, 0, 0, 0), (0, 0, 0, 6), (24, 80, 3, 0), (12, 26, 0, 0), (1, 2, 0, 0), (0, 0, 0, 0), (0, 0, 0, 6), (24, 80, 3, 0), (12, 26, 0, 0), (1, 3, 0, 0), (0, 0, 0, 0), (0, 0, 0, 99), (24, 80, 3, 0), (12, 26, 0, 0), (1, 0, 1, 0), (0, 0, 0, 221), (0, 0, 0, 7), (1, 1, 0, 0), (6, 0, 0, 0), (4, 0, 0, 0), (1, 2, 0, 0), (4, 0, 0, 0), (1, 3, 0, 0), (25, 97, 2, 7), (11, 27, 0, 0), (0, 0, 0, (-1)), (27, 0, 0, 0)]
def kc_F_setUnknownCost : List jxI := [(1, 1, 0, 0), (0, 0, 0, 0), (0, 0, 0, 200), (24, 80, 3, 0), (12, 10, 0, 0), (1, 0, 1, 0), (0, 0, 0, 270), (1, 1, 0, 0), (25, 97, 2, 7), (11, 11, 0, 0), (0, 0, 0, (-1)), (27, 0, 0, 0)]
def kc_F_setInput : List jxI := [(1, 0, 1, 0), (0, 0, 0, 16), (25, 85, 1, 7), (2, 1, 0, 0), (1, 1, 0, 0), (0, 0, 0, (-9)), (13, 11, 0, 0), (0, 0, 0, (-10)), (1, 1, 0, 0), (5, 0, 0, 0), (27, 0, 0, 0), (1, 0, 1, 0), (25, 81, 0, 7), (1, 0, 1, 0), (14, 7, 0, 0), (0, 0, 0, 271), (1, 0, 1, 0), (14, 7, 4, 0), (17, 0, 0, 0), (0, 0, 0, 0), (2, 2, 0, 0), (1, 2, 0, 0), (0, 0, 0, 16), (13, 42, 3, 0), (1, 0, 1, 0), (14, 7, 0, 0), (0, 0, 0, 272), (1, 2, 0, 0), (4, 0, 0, 0), (1, 2, 0, 0), (1, 0, 1, 0), (14, 7, 4, 0), (13, 38, 3, 0), (1, 0, 1, 0), (14, 7, 3, 0), (1, 2, 0, 0), (16, 0, 0, 0), (11, 39, 0, 0), (0, 0, 0, 0), (17, 0, 0, 0), (3, 2, 0, 1), (11, 21, 0, 0), (0, 0, 0, 0), (2, 2, 0, 0), (1, 2, 0, 0), (0, 0, 0, 16), (13, 56, 4, 0), (1, 0, 1, 0), (14, 7, 0, 0), (0, 0, 0, 288), (1, 2, 0, 0), (4, 0, 0, 0), (0, 0, 0, 0), (17, 0, 0, 0), (3, 2, 0, 1), (11, 44, 0, 0), (1, 0, 1, 0), (0, 0, 0, 0), (15, 7, 4, 0), (1, 0, 1, 0), (14, 7, 0, 0), (0, 0, 0, 271), (16, 0, 0, 0), (27, 0, 0, 0)]
def kc_F_inputLength : List jxI := [(1, 0, 1, 0), (14, 7, 0, 0), (0, 0, 0, 271), (16, 0, 0, 0), (27, 0, 0, 0)]
def kc_F_setConstraint : List jxI := [(1, 1, 0, 0), (0, 0, 0, 1), (1, 0, 1, 0), (14, 7, 0, 0), (0, 0, 0, 271), (16, 0, 0, 0), (0, 0, 0, 1), (5, 0, 0, 0), (24, 80, 3, 0), (12, 22, 0, 0), (1, 2, 0, 0), (0, 0, 0, 0), (0, 0, 0, 2), (24, 80, 3, 0), (12, 22, 0, 0), (1, 0, 1, 0), (0, 0, 0, 288), (1, 1, 0, 0), (4, 0, 0, 0), (1, 2, 0, 0), (25, 97, 2, 7), (11, 23, 0, 0), (0, 0, 0, (-1)), (27, 0, 0, 0)]
def kc_F_stands : List jxI := [(1, 0, 1, 0), (14, 7, 0, 0), (1, 1, 0, 0), (24, 86, 1, 0), (16, 0, 0, 0), (2, 3, 0, 0), (1, 2, 0, 0), (1, 3, 0, 0), (4, 0, 0, 0), (1, 0, 1, 0), (14, 7, 0, 0), (0, 0, 0, 271), (16, 0, 0, 0), (13, 16, 4, 0), (0, 0, 0, 1), (11, 17, 0, 0), (0, 0, 0, 0), (2, 4, 0, 0), (0, 0, 0, 0), (2, 5, 0, 0), (1, 5, 0, 0), (1, 3, 0, 0), (13, 49, 3, 0), (1, 4, 0, 0), (12, 49, 0, 0), (1, 0, 1, 0), (14, 7, 0, 0), (1, 1, 0, 0), (24, 86, 1, 0), (0, 0, 0, 1), (4, 0, 0, 0), (1, 5, 0, 0), (4, 0, 0, 0), (16, 0, 0, 0), (1, 0, 1, 0), (14, 7, 0, 0), (0, 0, 0, 272), (1, 2, 0, 0), (4, 0, 0, 0), (1, 5, 0, 0), (4, 0, 0, 0), (16, 0, 0, 0), (13, 45, 1, 0), (0, 0, 0, 1), (11, 46, 0, 0), (0, 0, 0, 0), (2, 4, 0, 0), (3, 5, 0, 1), (11, 20, 0, 0), (1, 4, 0, 0), (27, 1, 0, 0)]
def kc_F_segmentsAt : List jxI := [(1, 1, 0, 0), (0, 0, 0, 0), (1, 0, 1, 0), (14, 7, 0, 0), (0, 0, 0, 271), (16, 0, 0, 0), (24, 80, 3, 0), (12, 10, 1, 0), (0, 0, 0, (-1)), (27, 0, 0, 0), (0, 0, 0, 0), (2, 2, 0, 0), (0, 0, 0, 0), (2, 3, 0, 0), (1, 3, 0, 0), (1, 0, 1, 0), (14, 7, 0, 0), (0, 0, 0, 0), (16, 0, 0, 0), (13, 33, 3, 0), (1, 2, 0, 0), (1, 0, 1, 0), (1, 3, 0, 0), (1, 1, 0, 0), (25, 103, 2, 7), (12, 28, 0, 0), (0, 0, 0, 1), (11, 29, 0, 0), (0, 0, 0, 0), (4, 0, 0, 0), (2, 2, 0, 0), (3, 3, 0, 1), (11, 14, 0, 0), (1, 2, 0, 0), (27, 0, 0, 0)]
def kc_F_mayCover : List jxI := [(1, 2, 0, 0), (1, 0, 1, 0), (14, 7, 0, 0), (0, 0, 0, 271), (16, 0, 0, 0), (13, 14, 0, 0), (1, 0, 1, 0), (14, 7, 0, 0), (0, 0, 0, 288), (1, 2, 0, 0), (4, 0, 0, 0), (16, 0, 0, 0), (0, 0, 0, 2), (13, 16, 0, 0), (0, 0, 0, 1), (11, 17, 0, 0), (0, 0, 0, 0), (2, 3, 0, 0), (1, 1, 0, 0), (0, 0, 0, 1), (4, 0, 0, 0), (2, 4, 0, 0), (1, 4, 0, 0), (1, 2, 0, 0), (13, 41, 3, 0), (1, 3, 0, 0), (12, 37, 0, 0), (1, 0, 1, 0), (14, 7, 0, 0), (0, 0, 0, 288), (1, 4, 0, 0), (4, 0, 0, 0), (16, 0, 0, 0), (0, 0, 0, 1), (13, 37, 0, 0), (0, 0, 0, 1), (11, 38, 0, 0), (0, 0, 0, 0), (2, 3, 0, 0), (3, 4, 0, 1), (11, 22, 0, 0), (1, 3, 0, 0), (27, 1, 0, 0)]
def kc_F_findSegments : List jxI := [(1, 0, 1, 0), (0, 0, 0, 0), (15, 7, 6, 0), (0, 0, 0, 6), (2, 2, 0, 0), (1, 2, 0, 0), (12, 50, 5, 0), (0, 0, 0, 0), (2, 3, 0, 0), (1, 3, 0, 0), (1, 0, 1, 0), (14, 7, 0, 0), (0, 0, 0, 0), (16, 0, 0, 0), (13, 48, 3, 0), (1, 0, 1, 0), (14, 7, 0, 0), (1, 3, 0, 0), (24, 86, 1, 0), (16, 0, 0, 0), (1, 2, 0, 0), (13, 46, 1, 0), (1, 0, 1, 0), (1, 3, 0, 0), (1, 1, 0, 0), (25, 103, 2, 7), (12, 46, 0, 0), (1, 0, 1, 0), (1, 1, 0, 0), (1, 1, 0, 0), (1, 2, 0, 0), (4, 0, 0, 0), (25, 105, 2, 7), (12, 46, 0, 0), (1, 0, 1, 0), (14, 7, 7, 0), (1, 0, 1, 0), (14, 7, 6, 0), (1, 3, 0, 0), (17, 0, 0, 0), (1, 0, 1, 0), (9, 0, 0, 0), (14, 7, 6, 0), (0, 0, 0, 1), (4, 0, 0, 0), (15, 7, 6, 0), (3, 3, 0, 1), (11, 9, 0, 0), (3, 2, 0, (-1)), (11, 5, 0, 0), (1, 0, 1, 0), (1, 1, 0, 0), (1, 1, 0, 0), (0, 0, 0, 1), (4, 0, 0, 0), (25, 105, 2, 7), (12, 69, 0, 0), (1, 0, 1, 0), (14, 7, 7, 0), (1, 0, 1, 0), (14, 7, 6, 0), (0, 0, 0, (-5)), (17, 0, 0, 0), (1, 0, 1, 0), (9, 0, 0, 0), (14, 7, 6, 0), (0, 0, 0, 1), (4, 0, 0, 0), (15, 7, 6, 0), (28, 0, 0, 0)]
def kc_F_endOf : List jxI := [(1, 1, 0, 0), (0, 0, 0, (-5)), (13, 7, 1, 0), (1, 2, 0, 0), (0, 0, 0, 1), (4, 0, 0, 0), (11, 14, 0, 0), (1, 2, 0, 0), (1, 0, 1, 0), (14, 7, 0, 0), (1, 1, 0, 0), (24, 86, 1, 0), (16, 0, 0, 0), (4, 0, 0, 0), (27, 0, 0, 0)]
def kc_F_classOf : List jxI := [(1, 1, 0, 0), (0, 0, 0, (-5)), (13, 5, 1, 0), (0, 0, 0, 5), (11, 12, 0, 0), (1, 0, 1, 0), (14, 7, 0, 0), (1, 1, 0, 0), (24, 86, 1, 0), (0, 0, 0, 8), (4, 0, 0, 0), (16, 0, 0, 0), (27, 0, 0, 0)]
def kc_F_segmentCost : List jxI := [(1, 1, 0, 0), (0, 0, 0, (-5)), (13, 8, 1, 0), (1, 0, 1, 0), (14, 7, 0, 0), (0, 0, 0, 270), (16, 0, 0, 0), (11, 11, 0, 0), (1, 0, 1, 0), (1, 1, 0, 0), (25, 93, 1, 7), (27, 0, 0, 0)]
def kc_F_between : List jxI := [(1, 0, 1, 0), (14, 7, 0, 0), (0, 0, 0, 221), (0, 0, 0, 7), (1, 1, 0, 0), (6, 0, 0, 0), (4, 0, 0, 0), (1, 2, 0, 0), (4, 0, 0, 0), (16, 0, 0, 0), (27, 0, 0, 0)]
def kc_F_capped : List jxI := [(1, 0, 0, 0), (1, 1, 0, 0), (4, 0, 0, 0), (0, 0, 0, 1000000000), (13, 7, 5, 0), (0, 0, 0, 1000000000), (11, 10, 0, 0), (1, 0, 0, 0), (1, 1, 0, 0), (4, 0, 0, 0), (27, 0, 0, 0)]
def kc_F_insert : List jxI := [(1, 0, 1, 0), (14, 7, 8, 0), (1, 1, 0, 0), (16, 0, 0, 0), (2, 5, 0, 0), (1, 5, 0, 0), (0, 0, 0, 20), (13, 21, 1, 0), (1, 2, 0, 0), (1, 0, 1, 0), (14, 7, 9, 0), (0, 0, 0, 20), (1, 1, 0, 0), (6, 0, 0, 0), (1, 5, 0, 0), (4, 0, 0, 0), (0, 0, 0, 1), (5, 0, 0, 0), (16, 0, 0, 0), (13, 21, 2, 0), (28, 0, 0, 0), (1, 5, 0, 0), (0, 0, 0, 20), (13, 26, 3, 0), (1, 5, 0, 0), (11, 27, 0, 0), (0, 0, 0, 19), (2, 6, 0, 0), (1, 6, 0, 0), (12, 98, 5, 0), (1, 0, 1, 0), (14, 7, 9, 0), (0, 0, 0, 20), (1, 1, 0, 0), (6, 0, 0, 0), (1, 6, 0, 0), (4, 0, 0, 0), (0, 0, 0, 1), (5, 0, 0, 0), (16, 0, 0, 0), (1, 2, 0, 0), (13, 98, 5, 0), (1, 0, 1, 0), (14, 7, 9, 0), (0, 0, 0, 20), (1, 1, 0, 0), (6, 0, 0, 0), (1, 6, 0, 0), (4, 0, 0, 0), (1, 0, 1, 0), (14, 7, 9, 0), (0, 0, 0, 20), (1, 1, 0, 0), (6, 0, 0, 0), (1, 6, 0, 0), (4, 0, 0, 0), (0, 0, 0, 1), (5, 0, 0, 0), (16, 0, 0, 0), (17, 0, 0, 0), (1, 0, 1, 0), (14, 7, 10, 0), (0, 0, 0, 20), (1, 1, 0, 0), (6, 0, 0, 0), (1, 6, 0, 0), (4, 0, 0, 0), (1, 0, 1, 0), (14, 7, 10, 0), (0, 0, 0, 20), (1, 1, 0, 0), (6, 0, 0, 0), (1, 6, 0, 0), (4, 0, 0, 0), (0, 0, 0, 1), (5, 0, 0, 0), (16, 0, 0, 0), (17, 0, 0, 0), (1, 0, 1, 0), (14, 7, 11, 0), (0, 0, 0, 20), (1, 1, 0, 0), (6, 0, 0, 0), (1, 6, 0, 0), (4, 0, 0, 0), (1, 0, 1, 0), (14, 7, 11, 0), (0, 0, 0, 20), (1, 1, 0, 0), (6, 0, 0, 0), (1, 6, 0, 0), (4, 0, 0, 0), (0, 0, 0, 1), (5, 0, 0, 0), (16, 0, 0, 0), (17, 0, 0, 0), (3, 6, 0, (-1)), (11, 28, 0, 0), (1, 0, 1, 0), (14, 7, 9, 0), (0, 0, 0, 20), (1, 1, 0, 0), (6, 0, 0, 0), (1, 6, 0, 0), (4, 0, 0, 0), (1, 2, 0, 0), (17, 0, 0, 0), (1, 0, 1, 0), (14, 7, 10, 0), (0, 0, 0, 20), (1, 1, 0, 0), (6, 0, 0, 0), (1, 6, 0, 0), (4, 0, 0, 0), (1, 3, 0, 0), (17, 0, 0, 0), (1, 0, 1, 0), (14, 7, 11, 0), (0, 0, 0, 20), (1, 1, 0, 0), (6, 0, 0, 0), (1, 6, 0, 0), (4, 0, 0, 0), (1, 4, 0, 0), (17, 0, 0, 0), (1, 0, 1, 0), (14, 7, 8, 0), (1, 1, 0, 0), (1, 5, 0, 0), (0, 0, 0, 20), (13, 135, 3, 0), (1, 5, 0, 0), (0, 0, 0, 1), (4, 0, 0, 0), (11, 136, 0, 0), (0, 0, 0, 20), (17, 0, 0, 0), (28, 0, 0, 0)]
def kc_F_layPlace : List jxI := [(0, 0, 0, 7), (1, 1, 0, 0), (6, 0, 0, 0), (1, 2, 0, 0), (4, 0, 0, 0), (2, 3, 0, 0), (1, 0, 1, 0), (14, 7, 8, 0), (1, 3, 0, 0), (0, 0, 0, 0), (17, 0, 0, 0), (1, 0, 1, 0), (14, 7, 12, 0), (1, 3, 0, 0), (0, 0, 0, 0), (17, 0, 0, 0), (0, 0, 0, 0), (2, 4, 0, 0), (1, 4, 0, 0), (1, 0, 1, 0), (14, 7, 6, 0), (13, 76, 3, 0), (1, 0, 1, 0), (14, 7, 7, 0), (1, 4, 0, 0), (16, 0, 0, 0), (2, 5, 0, 0), (0, 0, 0, 7), (1, 0, 1, 0), (1, 5, 0, 0), (1, 1, 0, 0), (25, 107, 2, 7), (6, 0, 0, 0), (1, 0, 1, 0), (1, 5, 0, 0), (25, 108, 1, 7), (4, 0, 0, 0), (2, 6, 0, 0), (1, 0, 1, 0), (1, 2, 0, 0), (1, 0, 1, 0), (1, 5, 0, 0), (25, 108, 1, 7), (25, 110, 2, 7), (1, 0, 1, 0), (1, 5, 0, 0), (25, 109, 1, 7), (4, 0, 0, 0), (2, 7, 0, 0), (0, 0, 0, 0), (2, 8, 0, 0), (1, 8, 0, 0), (1, 0, 1, 0), (14, 7, 8, 0), (1, 6, 0, 0), (16, 0, 0, 0), (13, 74, 3, 0), (1, 0, 1, 0), (1, 3, 0, 0), (1, 7, 0, 0), (1, 0, 1, 0), (14, 7, 9, 0), (0, 0, 0, 20), (1, 6, 0, 0), (6, 0, 0, 0), (1, 8, 0, 0), (4, 0, 0, 0), (16, 0, 0, 0), (4, 0, 0, 0), (1, 5, 0, 0), (1, 8, 0, 0), (25, 112, 4, 7), (3, 8, 0, 1), (11, 51, 0, 0), (3, 4, 0, 1), (11, 18, 0, 0), (0, 0, 0, 0), (2, 4, 0, 0), (1, 4, 0, 0), (1, 0, 1, 0), (14, 7, 6, 0), (13, 155, 3, 0), (1, 0, 1, 0), (14, 7, 7, 0), (1, 4, 0, 0), (16, 0, 0, 0), (2, 5, 0, 0), (0, 0, 0, 7), (1, 0, 1, 0), (1, 5, 0, 0), (1, 1, 0, 0), (25, 107, 2, 7), (6, 0, 0, 0), (1, 0, 1, 0), (1, 5, 0, 0), (25, 108, 1, 7), (4, 0, 0, 0), (2, 6, 0, 0), (1, 0, 1, 0), (1, 2, 0, 0), (1, 0, 1, 0), (1, 5, 0, 0), (25, 108, 1, 7), (25, 110, 2, 7), (1, 0, 1, 0), (1, 5, 0, 0), (25, 109, 1, 7), (4, 0, 0, 0), (2, 7, 0, 0), (1, 0, 1, 0), (14, 7, 8, 0), (1, 6, 0, 0), (16, 0, 0, 0), (12, 131, 5, 0), (1, 7, 0, 0), (1, 0, 1, 0), (14, 7, 9, 0), (0, 0, 0, 20), (1, 6, 0, 0), (6, 0, 0, 0), (16, 0, 0, 0), (4, 0, 0, 0), (1, 0, 1, 0), (14, 7, 9, 0), (0, 0, 0, 20), (1, 3, 0, 0), (6, 0, 0, 0), (16, 0, 0, 0), (13, 131, 1, 0), (0, 0, 0, 1), (11, 132, 0, 0), (0, 0, 0, 0), (2, 8, 0, 0), (1, 0, 1, 0), (14, 7, 12, 0), (1, 3, 0, 0), (1, 8, 0, 0), (12, 148, 0, 0), (1, 0, 1, 0), (14, 7, 12, 0), (1, 3, 0, 0), (16, 0, 0, 0), (1, 0, 1, 0), (14, 7, 12, 0), (1, 6, 0, 0), (16, 0, 0, 0), (24, 111, 2, 0), (11, 152, 0, 0), (1, 0, 1, 0), (14, 7, 12, 0), (1, 3, 0, 0), (16, 0, 0, 0), (17, 0, 0, 0), (3, 4, 0, 1), (11, 78, 0, 0), (28, 0, 0, 0)]
def kc_F_lay : List jxI := [(1, 0, 1, 0), (14, 7, 5, 0), (12, 4, 0, 0), (28, 0, 0, 0), (1, 0, 1, 0), (14, 7, 0, 0), (0, 0, 0, 271), (16, 0, 0, 0), (2, 1, 0, 0), (0, 0, 0, 0), (2, 2, 0, 0), (1, 2, 0, 0), (0, 0, 0, 7), (13, 49, 3, 0), (0, 0, 0, 7), (1, 1, 0, 0), (6, 0, 0, 0), (1, 2, 0, 0), (4, 0, 0, 0), (2, 3, 0, 0), (1, 0, 1, 0), (14, 7, 8, 0), (1, 3, 0, 0), (0, 0, 0, 1), (17, 0, 0, 0), (1, 0, 1, 0), (14, 7, 9, 0), (0, 0, 0, 20), (1, 3, 0, 0), (6, 0, 0, 0), (1, 0, 1, 0), (1, 2, 0, 0), (0, 0, 0, 6), (25, 110, 2, 7), (17, 0, 0, 0), (1, 0, 1, 0), (14, 7, 10, 0), (0, 0, 0, 20), (1, 3, 0, 0), (6, 0, 0, 0), (0, 0, 0, (-9)), (17, 0, 0, 0), (1, 0, 1, 0), (14, 7, 12, 0), (1, 3, 0, 0), (0, 0, 0, 1), (17, 0, 0, 0), (3, 2, 0, 1), (11, 11, 0, 0), (1, 0, 1, 0), (14, 7, 13, 0), (1, 1, 0, 0), (0, 0, 0, 1), (17, 0, 0, 0), (1, 1, 0, 0), (0, 0, 0, 1), (5, 0, 0, 0), (2, 2, 0, 0), (1, 2, 0, 0), (12, 108, 2, 0), (1, 0, 1, 0), (1, 2, 0, 0), (25, 106, 1, 7), (1, 0, 1, 0), (14, 7, 13, 0), (1, 2, 0, 0), (0, 0, 0, 0), (17, 0, 0, 0), (0, 0, 0, 0), (2, 3, 0, 0), (1, 3, 0, 0), (1, 0, 1, 0), (14, 7, 6, 0), (13, 95, 3, 0), (1, 0, 1, 0), (14, 7, 13, 0), (1, 2, 0, 0), (1, 0, 1, 0), (14, 7, 13, 0), (1, 2, 0, 0), (16, 0, 0, 0), (1, 0, 1, 0), (14, 7, 13, 0), (1, 0, 1, 0), (1, 0, 1, 0), (14, 7, 7, 0), (1, 3, 0, 0), (16, 0, 0, 0), (1, 2, 0, 0), (25, 107, 2, 7), (16, 0, 0, 0), (24, 111, 2, 0), (17, 0, 0, 0), (3, 3, 0, 1), (11, 70, 0, 0), (0, 0, 0, 0), (2, 3, 0, 0), (1, 3, 0, 0), (0, 0, 0, 7), (13, 106, 3, 0), (1, 0, 1, 0), (1, 2, 0, 0), (1, 3, 0, 0), (25, 113, 2, 7), (3, 3, 0, 1), (11, 97, 0, 0), (3, 2, 0, (-1)), (11, 58, 0, 0), (1, 0, 1, 0), (0, 0, 0, 1), (15, 7, 5, 1), (28, 0, 0, 0)]
def kc_F_pathCount : List jxI := [(1, 0, 1, 0), (25, 114, 0, 7), (1, 0, 1, 0), (14, 7, 13, 0), (0, 0, 0, 0), (16, 0, 0, 0), (27, 0, 0, 0)]
def kc_F_pathCost : List jxI := [(1, 1, 0, 0), (0, 0, 0, 0), (0, 0, 0, 19), (24, 80, 3, 0), (12, 7, 1, 0), (0, 0, 0, (-1)), (27, 0, 0, 0), (1, 0, 1, 0), (25, 114, 0, 7), (1, 1, 0, 0), (1, 0, 1, 0), (14, 7, 8, 0), (0, 0, 0, 6), (16, 0, 0, 0), (13, 22, 3, 0), (1, 0, 1, 0), (14, 7, 9, 0), (0, 0, 0, 120), (1, 1, 0, 0), (4, 0, 0, 0), (16, 0, 0, 0), (11, 23, 0, 0), (0, 0, 0, (-9)), (27, 0, 0, 0)]
def kc_F_follow : List jxI := [(1, 0, 1, 0), (25, 114, 0, 7), (1, 0, 1, 0), (0, 0, 0, 0), (15, 7, 14, 0), (1, 1, 0, 0), (1, 0, 1, 0), (14, 7, 8, 0), (0, 0, 0, 6), (16, 0, 0, 0), (13, 13, 2, 0), (0, 0, 0, 0), (27, 1, 0, 0), (0, 0, 0, 0), (2, 2, 0, 0), (0, 0, 0, 120), (1, 1, 0, 0), (4, 0, 0, 0), (2, 3, 0, 0), (1, 2, 0, 0), (1, 0, 1, 0), (14, 7, 0, 0), (0, 0, 0, 271), (16, 0, 0, 0), (13, 69, 3, 0), (1, 0, 1, 0), (14, 7, 10, 0), (1, 3, 0, 0), (16, 0, 0, 0), (2, 4, 0, 0), (1, 0, 1, 0), (14, 7, 15, 0), (1, 0, 1, 0), (14, 7, 14, 0), (1, 2, 0, 0), (17, 0, 0, 0), (1, 0, 1, 0), (14, 7, 16, 0), (1, 0, 1, 0), (14, 7, 14, 0), (1, 4, 0, 0), (17, 0, 0, 0), (1, 0, 1, 0), (9, 0, 0, 0), (14, 7, 14, 0), (0, 0, 0, 1), (4, 0, 0, 0), (15, 7, 14, 0), (1, 0, 1, 0), (1, 4, 0, 0), (1, 2, 0, 0), (25, 107, 2, 7), (2, 2, 0, 0), (0, 0, 0, 20), (0, 0, 0, 7), (1, 2, 0, 0), (6, 0, 0, 0), (1, 0, 1, 0), (1, 4, 0, 0), (25, 108, 1, 7), (4, 0, 0, 0), (6, 0, 0, 0), (1, 0, 1, 0), (14, 7, 11, 0), (1, 3, 0, 0), (16, 0, 0, 0), (4, 0, 0, 0), (2, 3, 0, 0), (11, 19, 0, 0), (0, 0, 0, 1), (27, 1, 0, 0)]
def kc_F_segmentCount : List jxI := [(1, 1, 0, 0), (0, 0, 0, 0), (0, 0, 0, 19), (24, 80, 3, 0), (12, 7, 1, 0), (0, 0, 0, (-1)), (27, 0, 0, 0), (1, 0, 1, 0), (1, 1, 0, 0), (25, 117, 1, 7), (12, 14, 0, 0), (1, 0, 1, 0), (14, 7, 14, 0), (11, 15, 0, 0), (0, 0, 0, (-9)), (27, 0, 0, 0)]
def kc_F_segmentStart : List jxI := [(1, 1, 0, 0), (0, 0, 0, 0), (0, 0, 0, 19), (24, 80, 3, 0), (12, 7, 0, 0), (1, 2, 0, 0), (12, 9, 3, 0), (0, 0, 0, (-1)), (27, 0, 0, 0), (1, 0, 1, 0), (1, 1, 0, 0), (25, 117, 1, 7), (12, 22, 0, 0), (1, 2, 0, 0), (1, 0, 1, 0), (14, 7, 14, 0), (13, 22, 3, 0), (1, 0, 1, 0), (14, 7, 15, 0), (1, 2, 0, 0), (16, 0, 0, 0), (11, 23, 0, 0), (0, 0, 0, (-9)), (27, 0, 0, 0)]
def kc_F_segmentEntry : List jxI := [(1, 1, 0, 0), (0, 0, 0, 0), (0, 0, 0, 19), (24, 80, 3, 0), (12, 7, 0, 0), (1, 2, 0, 0), (12, 9, 3, 0), (0, 0, 0, (-1)), (27, 0, 0, 0), (1, 0, 1, 0), (1, 1, 0, 0), (25, 117, 1, 7), (12, 22, 0, 0), (1, 2, 0, 0), (1, 0, 1, 0), (14, 7, 14, 0), (13, 22, 3, 0), (1, 0, 1, 0), (14, 7, 16, 0), (1, 2, 0, 0), (16, 0, 0, 0), (11, 23, 0, 0), (0, 0, 0, (-9)), (27, 0, 0, 0)]
def kc_F_layAhead : List jxI := [(0, 0, 0, 0), (2, 1, 0, 0), (1, 1, 0, 0), (0, 0, 0, 119), (13, 12, 3, 0), (1, 0, 1, 0), (14, 7, 17, 0), (1, 1, 0, 0), (0, 0, 0, 100000000), (17, 0, 0, 0), (3, 1, 0, 1), (11, 2, 0, 0), (1, 0, 1, 0), (14, 7, 17, 0), (0, 0, 0, 6), (0, 0, 0, 0), (17, 0, 0, 0), (0, 0, 0, 0), (2, 1, 0, 0), (1, 1, 0, 0), (1, 0, 1, 0), (14, 7, 0, 0), (0, 0, 0, 271), (16, 0, 0, 0), (13, 97, 3, 0), (1, 0, 1, 0), (1, 1, 0, 0), (25, 106, 1, 7), (0, 0, 0, 0), (2, 2, 0, 0), (1, 2, 0, 0), (1, 0, 1, 0), (14, 7, 6, 0), (13, 95, 3, 0), (1, 0, 1, 0), (14, 7, 7, 0), (1, 2, 0, 0), (16, 0, 0, 0), (2, 3, 0, 0), (0, 0, 0, 7), (1, 0, 1, 0), (1, 3, 0, 0), (1, 1, 0, 0), (25, 107, 2, 7), (6, 0, 0, 0), (1, 0, 1, 0), (1, 3, 0, 0), (25, 108, 1, 7), (4, 0, 0, 0), (2, 4, 0, 0), (0, 0, 0, 0), (2, 5, 0, 0), (1, 5, 0, 0), (0, 0, 0, 7), (13, 93, 3, 0), (1, 0, 1, 0), (14, 7, 17, 0), (0, 0, 0, 7), (1, 1, 0, 0), (6, 0, 0, 0), (1, 5, 0, 0), (4, 0, 0, 0), (16, 0, 0, 0), (1, 0, 1, 0), (1, 5, 0, 0), (1, 0, 1, 0), (1, 3, 0, 0), (25, 108, 1, 7), (25, 110, 2, 7), (4, 0, 0, 0), (1, 0, 1, 0), (1, 3, 0, 0), (25, 109, 1, 7), (4, 0, 0, 0), (2, 6, 0, 0), (1, 0, 1, 0), (14, 7, 17, 0), (1, 4, 0, 0), (1, 6, 0, 0), (1, 0, 1, 0), (14, 7, 17, 0), (1, 4, 0, 0), (16, 0, 0, 0), (13, 86, 3, 0), (1, 6, 0, 0), (11, 90, 0, 0), (1, 0, 1, 0), (14, 7, 17, 0), (1, 4, 0, 0), (16, 0, 0, 0), (17, 0, 0, 0), (3, 5, 0, 1), (11, 52, 0, 0), (3, 2, 0, 1), (11, 30, 0, 0), (3, 1, 0, 1), (11, 19, 0, 0), (28, 0, 0, 0)]
def kc_F_bestThrough : List jxI := [(1, 0, 1, 0), (1, 1, 0, 0), (25, 87, 1, 7), (12, 12, 0, 0), (1, 2, 0, 0), (0, 0, 0, 0), (1, 0, 1, 0), (14, 7, 0, 0), (0, 0, 0, 271), (16, 0, 0, 0), (24, 80, 3, 0), (12, 14, 1, 0), (0, 0, 0, (-1)), (27, 0, 0, 0), (1, 0, 1, 0), (1, 1, 0, 0), (1, 2, 0, 0), (25, 103, 2, 7), (12, 27, 0, 0), (1, 0, 1, 0), (1, 2, 0, 0), (1, 0, 1, 0), (1, 1, 0, 0), (1, 2, 0, 0), (25, 107, 2, 7), (25, 105, 2, 7), (12, 29, 1, 0), (0, 0, 0, (-9)), (27, 0, 0, 0), (1, 0, 1, 0), (25, 114, 0, 7), (1, 0, 1, 0), (25, 121, 0, 7), (0, 0, 0, 7), (1, 0, 1, 0), (1, 1, 0, 0), (1, 2, 0, 0), (25, 107, 2, 7), (6, 0, 0, 0), (1, 0, 1, 0), (1, 1, 0, 0), (25, 108, 1, 7), (4, 0, 0, 0), (2, 3, 0, 0), (0, 0, 0, 100000000), (2, 4, 0, 0), (0, 0, 0, 0), (2, 5, 0, 0), (1, 5, 0, 0), (0, 0, 0, 7), (13, 76, 3, 0), (1, 0, 1, 0), (14, 7, 17, 0), (0, 0, 0, 7), (1, 2, 0, 0), (6, 0, 0, 0), (1, 5, 0, 0), (4, 0, 0, 0), (16, 0, 0, 0), (1, 0, 1, 0), (1, 5, 0, 0), (1, 0, 1, 0), (1, 1, 0, 0), (25, 108, 1, 7), (25, 110, 2, 7), (4, 0, 0, 0), (2, 6, 0, 0), (1, 6, 0, 0), (1, 4, 0, 0), (13, 72, 3, 0), (1, 6, 0, 0), (11, 73, 0, 0), (1, 4, 0, 0), (2, 4, 0, 0), (3, 5, 0, 1), (11, 48, 0, 0), (1, 4, 0, 0), (0, 0, 0, 100000000), (13, 84, 3, 0), (1, 0, 1, 0), (14, 7, 8, 0), (1, 3, 0, 0), (16, 0, 0, 0), (12, 86, 1, 0), (0, 0, 0, (-9)), (11, 98, 0, 0), (1, 4, 0, 0), (1, 0, 1, 0), (1, 1, 0, 0), (25, 93, 1, 7), (4, 0, 0, 0), (1, 0, 1, 0), (14, 7, 9, 0), (0, 0, 0, 20), (1, 3, 0, 0), (6, 0, 0, 0), (16, 0, 0, 0), (4, 0, 0, 0), (27, 0, 0, 0)]
def kc_F_boundaryInBest : List jxI := [(1, 1, 0, 0), (0, 0, 0, 1), (1, 0, 1, 0), (14, 7, 0, 0), (0, 0, 0, 271), (16, 0, 0, 0), (0, 0, 0, 1), (5, 0, 0, 0), (24, 80, 3, 0), (12, 12, 1, 0), (0, 0, 0, (-1)), (27, 0, 0, 0), (1, 0, 1, 0), (25, 114, 0, 7), (1, 0, 1, 0), (14, 7, 8, 0), (0, 0, 0, 6), (16, 0, 0, 0), (12, 21, 1, 0), (0, 0, 0, (-9)), (27, 0, 0, 0), (0, 0, 0, 0), (2, 2, 0, 0), (1, 2, 0, 0), (0, 0, 0, 119), (13, 38, 3, 0), (1, 0, 1, 0), (14, 7, 18, 0), (1, 2, 0, 0), (1, 2, 0, 0), (0, 0, 0, 6), (13, 34, 1, 0), (0, 0, 0, 1), (11, 35, 0, 0), (0, 0, 0, 0), (21, 0, 0, 0), (3, 2, 0, 1), (11, 23, 0, 0), (0, 0, 0, 0), (2, 2, 0, 0), (0, 0, 0, 0), (2, 3, 0, 0), (0, 0, 0, 0), (2, 4, 0, 0), (1, 4, 0, 0), (0, 0, 0, 7), (1, 0, 1, 0), (14, 7, 0, 0), (0, 0, 0, 271), (16, 0, 0, 0), (6, 0, 0, 0), (13, 153, 3, 0), (1, 0, 1, 0), (14, 7, 18, 0), (1, 4, 0, 0), (20, 0, 0, 0), (12, 58, 1, 0), (11, 151, 0, 0), (1, 4, 0, 0), (0, 0, 0, 7), (7, 0, 0, 0), (2, 5, 0, 0), (1, 2, 0, 0), (12, 67, 1, 0), (1, 5, 0, 0), (1, 1, 0, 0), (13, 69, 1, 0), (0, 0, 0, 1), (11, 70, 0, 0), (0, 0, 0, 0), (2, 2, 0, 0), (1, 0, 1, 0), (1, 5, 0, 0), (25, 106, 1, 7), (0, 0, 0, 0), (2, 6, 0, 0), (1, 6, 0, 0), (1, 0, 1, 0), (14, 7, 6, 0), (13, 151, 3, 0), (1, 0, 1, 0), (14, 7, 7, 0), (1, 6, 0, 0), (16, 0, 0, 0), (2, 7, 0, 0), (0, 0, 0, 7), (1, 0, 1, 0), (1, 7, 0, 0), (1, 5, 0, 0), (25, 107, 2, 7), (6, 0, 0, 0), (1, 0, 1, 0), (1, 7, 0, 0), (25, 108, 1, 7), (4, 0, 0, 0), (2, 8, 0, 0), (1, 0, 1, 0), (1, 4, 0, 0), (0, 0, 0, 7), (8, 0, 0, 0), (1, 0, 1, 0), (1, 7, 0, 0), (25, 108, 1, 7), (25, 110, 2, 7), (1, 0, 1, 0), (1, 7, 0, 0), (25, 109, 1, 7), (4, 0, 0, 0), (2, 9, 0, 0), (1, 0, 1, 0), (14, 7, 8, 0), (1, 8, 0, 0), (16, 0, 0, 0), (12, 149, 5, 0), (1, 9, 0, 0), (1, 0, 1, 0), (14, 7, 9, 0), (0, 0, 0, 20), (1, 8, 0, 0), (6, 0, 0, 0), (16, 0, 0, 0), (4, 0, 0, 0), (1, 0, 1, 0), (14, 7, 9, 0), (0, 0, 0, 20), (1, 4, 0, 0), (6, 0, 0, 0), (16, 0, 0, 0), (13, 149, 1, 0), (1, 0, 1, 0), (14, 7, 18, 0), (1, 8, 0, 0), (0, 0, 0, 1), (21, 0, 0, 0), (1, 3, 0, 0), (12, 145, 1, 0), (1, 5, 0, 0), (1, 1, 0, 0), (13, 147, 3, 0), (1, 0, 1, 0), (1, 7, 0, 0), (1, 5, 0, 0), (25, 107, 2, 7), (1, 1, 0, 0), (13, 147, 5, 0), (0, 0, 0, 1), (11, 148, 0, 0), (0, 0, 0, 0), (2, 3, 0, 0), (3, 6, 0, 1), (11, 76, 0, 0), (3, 4, 0, 1), (11, 44, 0, 0), (1, 2, 0, 0), (12, 157, 1, 0), (0, 0, 0, 0), (11, 162, 0, 0), (1, 3, 0, 0), (12, 161, 0, 0), (0, 0, 0, 1), (11, 162, 0, 0), (0, 0, 0, 2), (27, 0, 0, 0)]
def kc_F_bestCount : List jxI := [(1, 0, 1, 0), (25, 114, 0, 7), (1, 0, 1, 0), (14, 7, 8, 0), (0, 0, 0, 6), (16, 0, 0, 0), (12, 9, 1, 0), (0, 0, 0, 0), (11, 13, 0, 0), (1, 0, 1, 0), (14, 7, 12, 0), (0, 0, 0, 6), (16, 0, 0, 0), (27, 0, 0, 0)]
def kc_F_choose : List jxI := [(1, 1, 0, 0), (0, 0, 0, 0), (0, 0, 0, 19), (24, 80, 3, 0), (12, 7, 1, 0), (0, 0, 0, (-1)), (27, 0, 0, 0), (1, 0, 1, 0), (1, 1, 0, 0), (25, 117, 1, 7), (12, 13, 1, 0), (0, 0, 0, (-2)), (27, 0, 0, 0), (1, 0, 1, 0), (25, 81, 0, 7), (0, 0, 0, 0), (2, 2, 0, 0), (0, 0, 0, 0), (2, 3, 0, 0), (1, 3, 0, 0), (1, 0, 1, 0), (14, 7, 14, 0), (13, 86, 3, 0), (1, 0, 1, 0), (14, 7, 16, 0), (1, 3, 0, 0), (16, 0, 0, 0), (0, 0, 0, (-5)), (13, 31, 1, 0), (0, 0, 0, 1), (11, 32, 0, 0), (0, 0, 0, 0), (2, 4, 0, 0), (0, 0, 0, 0), (2, 5, 0, 0), (1, 5, 0, 0), (1, 3, 0, 0), (13, 55, 3, 0), (1, 4, 0, 0), (12, 49, 1, 0), (1, 0, 1, 0), (14, 7, 16, 0), (1, 5, 0, 0), (16, 0, 0, 0), (1, 0, 1, 0), (14, 7, 16, 0), (1, 3, 0, 0), (16, 0, 0, 0), (13, 51, 1, 0), (0, 0, 0, 1), (11, 52, 0, 0), (0, 0, 0, 0), (2, 4, 0, 0), (3, 5, 0, 1), (11, 35, 0, 0), (1, 4, 0, 0), (12, 84, 1, 0), (1, 0, 1, 0), (14, 7, 0, 0), (1, 0, 1, 0), (14, 7, 16, 0), (1, 3, 0, 0), (16, 0, 0, 0), (24, 86, 1, 0), (0, 0, 0, 10), (4, 0, 0, 0), (16, 0, 0, 0), (0, 0, 0, 9), (13, 84, 3, 0), (1, 0, 1, 0), (14, 7, 0, 0), (1, 0, 1, 0), (14, 7, 16, 0), (1, 3, 0, 0), (16, 0, 0, 0), (24, 86, 1, 0), (0, 0, 0, 10), (4, 0, 0, 0), (10, 0, 0, 0), (16, 0, 0, 0), (0, 0, 0, 1), (4, 0, 0, 0), (17, 0, 0, 0), (3, 2, 0, 1), (3, 3, 0, 1), (11, 19, 0, 0), (1, 2, 0, 0), (27, 0, 0, 0)]
def kc_F_forget : List jxI := [(0, 0, 0, 0), (2, 1, 0, 0), (0, 0, 0, 0), (2, 2, 0, 0), (1, 2, 0, 0), (1, 0, 1, 0), (14, 7, 0, 0), (0, 0, 0, 0), (16, 0, 0, 0), (13, 22, 3, 0), (1, 1, 0, 0), (1, 0, 1, 0), (14, 7, 0, 0), (1, 2, 0, 0), (24, 86, 1, 0), (0, 0, 0, 10), (4, 0, 0, 0), (16, 0, 0, 0), (4, 0, 0, 0), (2, 1, 0, 0), (3, 2, 0, 1), (11, 4, 0, 0), (1, 1, 0, 0), (12, 26, 1, 0), (0, 0, 0, (-2)), (27, 0, 0, 0), (1, 0, 1, 0), (25, 81, 0, 7), (0, 0, 0, 0), (2, 2, 0, 0), (1, 2, 0, 0), (1, 0, 1, 0), (14, 7, 0, 0), (0, 0, 0, 0), (16, 0, 0, 0), (13, 46, 3, 0), (1, 0, 1, 0), (14, 7, 0, 0), (1, 2, 0, 0), (24, 86, 1, 0), (0, 0, 0, 10), (4, 0, 0, 0), (0, 0, 0, 0), (17, 0, 0, 0), (3, 2, 0, 1), (11, 30, 0, 0), (1, 1, 0, 0), (27, 0, 0, 0)]
def kc_J_fill : List jxI := [(0, 0, 0, 0), (2, 2, 0, 0), (1, 0, 1, 0), (18, 0, 0, 0), (2, 3, 0, 0), (1, 2, 0, 0), (1, 3, 0, 0), (13, 14, 3, 0), (1, 0, 1, 0), (1, 2, 0, 0), (1, 1, 0, 0), (17, 0, 0, 0), (3, 2, 0, 1), (11, 5, 0, 0), (28, 0, 0, 0)]
def jx_Ts : List (Nat × List jxI) := [(2, kc_D_copyFrom), (6, kc_D_append), (3, kc_D_drop), (3, kc_D_moveDown), (4, kc_D_beginsWith), (5, kc_D_holds), (2, kc_D_presentCost), (2, kc_D_learn), (3, kc_D_sumOfUses), (3, kc_H_keep), (4, kc_H_bringBack), (2, kc_L_build), (5, kc_L_sortByLength), (5, kc_L_addEntriesAt), (7, kc_L_addSlot), (2, kc_L_stateBehind), (2, kc_M_copyFrom), (2, kc_M_takeInput), (3, kc_M_connection), (5, kc_M_standsAt), (4, kc_M_allowsSegment), (3, kc_R_build), (6, kc_R_findLeastTo), (6, kc_R_leastBefore), (4, kc_R_countPaths), (2, kc_R_cappedSum), (3, kc_R_listEnds), (6, kc_R_listState), (6, kc_R_openHeads), (2, kc_R_leastFrom), (6, kc_R_countBestWays), (5, kc_R_cheapestHead), (9, kc_R_takeHead), (1, kc_R_allPaths), (1, kc_R_bestPaths), (2, kc_R_hasRank), (2, kc_R_costAtRank), (7, kc_R_walk), (3, kc_R_trailHolds), (3, kc_R_leastThroughSlot), (5, kc_R_leastThroughEntry), (5, kc_R_leastEndingAt), (6, kc_R_leastCrossing), (2, kc_T_push), (1, kc_T_readingError), (3, kc_T_firstError), (2, kc_C_appendCharacter), (2, kc_C_clearText), (6, kc_C_addEntry), (2, kc_C_removeEntry), (1, kc_C_entryCount), (2, kc_C_wordOf), (2, kc_C_costOf), (2, kc_C_useCount), (4, kc_C_entriesWithPrefix), (5, kc_C_setConnection), (3, kc_C_setUnknownCost), (2, kc_C_setInput), (1, kc_C_inputLength), (4, kc_C_setConstraint), (4, kc_C_segmentsAt), (1, kc_C_pathCount), (3, kc_C_pathCost), (3, kc_C_segmentCount), (3, kc_C_segmentStart), (3, kc_C_segmentEntry), (4, kc_C_bestThrough), (5, kc_C_boundaryInBest), (1, kc_C_bestCount), (5, kc_C_choose), (2, kc_C_forget), (1, kc_C_undo), (1, kc_C_beginEdit), (1, kc_C_presentPaths), (4, kc_C_findSegment), (2, kc_C_isNoEntry), (2, kc_C_isNoGap), (2, kc_C_isNoInnerGap), (1, kc_C_isNoRank), (3, kc_C_isOutside), (3, kc_F_in), (2, kc_F_save), (2, kc_F_undo), (2, kc_F_appendCharacter), (2, kc_F_clearText), (3, kc_F_fault), (1, kc_F_at), (2, kc_F_isEntry), (4, kc_F_begins), (7, kc_F_addEntry), (3, kc_F_removeEntry), (1, kc_F_entryCount), (2, kc_F_wordOf), (3, kc_F_price), (2, kc_F_costOf), (2, kc_F_useCount), (3, kc_F_entriesWithPrefix), (4, kc_F_changed), (4, kc_F_setConnection), (2, kc_F_setUnknownCost), (3, kc_F_setInput), (1, kc_F_inputLength), (3, kc_F_setConstraint), (6, kc_F_stands), (4, kc_F_segmentsAt), (5, kc_F_mayCover), (4, kc_F_findSegments), (3, kc_F_endOf), (2, kc_F_classOf), (2, kc_F_segmentCost), (3, kc_F_between), (2, kc_F_capped), (7, kc_F_insert), (9, kc_F_layPlace), (4, kc_F_lay), (1, kc_F_pathCount), (2, kc_F_pathCost), (5, kc_F_follow), (2, kc_F_segmentCount), (3, kc_F_segmentStart), (3, kc_F_segmentEntry), (7, kc_F_layAhead), (7, kc_F_bestThrough), (10, kc_F_boundaryInBest), (1, kc_F_bestCount), (6, kc_F_choose), (3, kc_F_forget), (4, kc_J_fill)]
def jx_T (y : Nat) : Nat × List jxI := (jx_Ts[y]?).getD (0, [])
def jx_kd1 : List (Nat × Nat) := [(9, 0), (0, 6), (0, 5), (1, 20), (0, 3), (0, 0), (1, 120), (1, 20), (1, 20), (1, 20), (1, 20), (1, 20), (1, 49), (1, 16), (1, 17), (0, 1), (3, 6), (0, 3), (0, 0), (1, 120), (1, 20), (1, 20), (1, 20), (1, 20), (1, 20), (1, 49), (1, 16), (1, 17), (0, 3), (0, 0), (1, 120), (1, 20), (1, 20), (1, 20), (1, 20), (1, 20), (1, 49), (1, 16), (1, 17), (0, 3), (0, 0), (1, 120), (1, 20), (1, 20), (1, 20), (1, 20), (1, 20), (1, 49), (1, 16), (1, 17), (0, 3), (0, 0), (1, 120), (1, 20), (1, 20), (1, 20), (1, 20), (1, 20), (1, 49), (1, 16), (1, 17), (0, 3), (0, 0), (1, 120), (1, 20), (1, 20), (1, 20), (1, 20), (1, 20), (1, 49), (1, 16), (1, 17), (0, 3), (0, 0), (1, 120), (1, 20), (1, 20), (1, 20), (1, 20), (1, 20), (1, 49), (1, 16), (1, 17), (0, 2), (1, 20), (1, 17), (1, 357), (1, 357), (1, 357), (1, 357), (0, 4), (1, 119), (1, 119), (1, 119), (1, 2380), (1, 2380), (1, 2380), (1, 21), (1, 21), (1, 17), (1, 16), (1, 16)]
def jx_rf1 : List (List Nat) := [[], [2, 4, 15, 83, 90, 0], [3, 0], [], [5, 12, 13, 14, 0, 0], [6, 7, 8, 9, 10, 11, 0], [], [], [], [], [], [], [], [], [], [16, 0, 0], [17, 28, 39, 50, 61, 72], [18, 25, 26, 27, 0, 0], [19, 20, 21, 22, 23, 24, 0], [], [], [], [], [], [], [], [], [], [29, 36, 37, 38, 0, 0], [30, 31, 32, 33, 34, 35, 0], [], [], [], [], [], [], [], [], [], [40, 47, 48, 49, 0, 0], [41, 42, 43, 44, 45, 46, 0], [], [], [], [], [], [], [], [], [], [51, 58, 59, 60, 0, 0], [52, 53, 54, 55, 56, 57, 0], [], [], [], [], [], [], [], [], [], [62, 69, 70, 71, 0, 0], [63, 64, 65, 66, 67, 68, 0], [], [], [], [], [], [], [], [], [], [73, 80, 81, 82, 0, 0], [74, 75, 76, 77, 78, 79, 0], [], [], [], [], [], [], [], [], [], [4, 84, 85, 86, 87, 88, 89], [], [], [], [], [], [], [4, 83, 91, 92, 93, 94, 95, 96, 97, 98, 99, 100, 101, 0], [], [], [], [], [], [], [], [], [], [], []]
def jx_G1 : jxG := (fun c => (jx_kd1[c]?).getD (9, 0), fun c k => (((jx_rf1[c]?).getD [])[k]?).getD 0)
def jx_n1 : Nat := 101
def jx_kd2 : List (Nat × Nat) := [(9, 0), (0, 7), (1, 305), (1, 1830), (1, 20), (1, 21), (1, 119), (1, 2380), (1, 2380), (1, 2380), (1, 119), (1, 17), (1, 16), (1, 16), (1, 119), (2, 119)]
def jx_rf2 : List (List Nat) := [[], [2, 3, 0, 4, 0, 0, 0, 5, 6, 7, 8, 9, 10, 11, 0, 12, 13, 14, 15], [], [], [], [], [], [], [], [], [], [], [], [], [], []]
def jx_G2 : jxG := (fun c => (jx_kd2[c]?).getD (9, 0), fun c k => (((jx_rf2[c]?).getD [])[k]?).getD 0)
def jx_n2 : Nat := 15
end
section
/-! THE TABLES: links, constants, methods; each row with its place in lw_tbl; written by wip/whole/gen_tables.py -/
def jx_cn (o : Nat) : String := ([RX0, RX1, RX2, RX3, RX4, RX5, RX6, RX7, RJ7][o]?).getD ""
def jx_F (ci : Nat) : u_T := match vwCl[ci]? with
  | some q => q.2.1
  | none => fun _ => ("", "", "", false)
def jx_fl : List (Nat × Nat × Nat × Nat × Nat) := [(0, 9, 0, 0, 71), (0, 15, 0, 1, 73), (0, 18, 0, 2, 76), (0, 21, 0, 3, 78), (0, 24, 0, 4, 80), (0, 27, 0, 5, 81), (0, 36, 0, 6, 83), (0, 40, 5, 1, 175), (0, 45, 5, 0, 171), (1, 11, 1, 0, 190), (1, 18, 1, 1, 191), (1, 26, 1, 2, 192), (2, 9, 2, 1, 137), (2, 15, 2, 2, 138), (2, 18, 2, 3, 140), (2, 21, 2, 4, 142), (2, 24, 2, 5, 144), (2, 27, 2, 6, 146), (2, 30, 2, 0, 136), (2, 43, 3, 5, 114), (2, 53, 3, 4, 111), (2, 60, 3, 0, 103), (2, 64, 0, 6, 84), (2, 69, 0, 1, 74), (2, 76, 0, 3, 79), (3, 12, 3, 0, 102), (3, 18, 3, 1, 105), (3, 22, 3, 2, 107), (3, 25, 3, 3, 108), (3, 28, 3, 4, 110), (3, 42, 3, 5, 115), (3, 45, 5, 1, 174), (3, 50, 5, 0, 170), (3, 59, 0, 1, 75), (3, 62, 0, 0, 72), (4, 9, 4, 2, 209), (4, 15, 4, 3, 210), (4, 18, 4, 4, 211), (4, 21, 4, 5, 212), (4, 24, 4, 6, 213), (4, 27, 4, 7, 214), (4, 30, 4, 8, 215), (4, 33, 4, 9, 216), (4, 36, 4, 10, 217), (4, 39, 4, 11, 218), (4, 42, 4, 12, 220), (4, 45, 4, 0, 207), (4, 49, 4, 1, 208), (4, 62, 3, 5, 113), (4, 79, 2, 2, 139), (4, 88, 2, 5, 145), (4, 95, 2, 6, 147), (4, 106, 2, 4, 143), (4, 129, 4, 13, 222), (4, 132, 2, 3, 141), (5, 9, 5, 0, 169), (5, 15, 5, 1, 172), (6, 20, 6, 0, 253), (6, 24, 6, 1, 254), (6, 31, 6, 2, 255), (6, 35, 6, 3, 256), (6, 44, 6, 4, 257), (6, 48, 6, 5, 258), (6, 56, 5, 1, 173), (6, 64, 3, 0, 104), (6, 74, 0, 6, 85), (6, 95, 0, 2, 77), (6, 103, 0, 5, 82), (6, 114, 3, 1, 106), (6, 117, 3, 4, 112), (6, 127, 3, 5, 116), (6, 133, 3, 3, 109), (6, 162, 4, 13, 223), (6, 168, 4, 11, 219), (6, 171, 4, 12, 221), (6, 202, 1, 2, 193), (7, 7, 7, 0, 621), (7, 13, 7, 1, 622), (7, 16, 7, 3, 624), (7, 19, 7, 7, 628), (7, 22, 7, 8, 629), (7, 25, 7, 9, 630), (7, 28, 7, 10, 631), (7, 31, 7, 11, 632), (7, 34, 7, 12, 633), (7, 37, 7, 13, 634), (7, 40, 7, 15, 636), (7, 43, 7, 16, 637), (7, 46, 7, 17, 638), (7, 49, 7, 18, 639), (7, 53, 7, 2, 623), (7, 57, 7, 5, 626), (7, 65, 7, 4, 625), (7, 96, 7, 6, 627), (7, 133, 7, 14, 635)]
def jx_pl : List (Nat × Nat × Nat × Nat × Int × Nat) := [(0, 36, 0, 6, 0, 83), (1, 18, 1, 1, 0, 191), (1, 26, 1, 2, 0, 192), (3, 28, 3, 4, 0, 110), (3, 42, 3, 5, 0, 115), (4, 129, 4, 13, 0, 222), (5, 15, 5, 1, 0, 172), (6, 48, 6, 5, 1, 258), (6, 56, 5, 1, 0, 173), (6, 117, 3, 4, 0, 112), (7, 53, 7, 2, 0, 623), (7, 57, 7, 5, 1, 626), (7, 65, 7, 4, 0, 625), (7, 96, 7, 6, 0, 627), (7, 133, 7, 14, 0, 635)]
def jx_cs : List (Nat × Nat × Int × Nat) := [(4, 72, 1000000, 466), (4, 112, 1000000000, 485), (6, 177, 1000000, 565), (7, 102, 1000000000, 805), (7, 139, 100000000, 850)]
def jx_ml : List (Nat × Nat × Nat × Nat × Nat) := [(0, 48, 3, 0, 347), (0, 52, 4, 0, 295), (1, 22, 16, 0, 316), (2, 34, 12, 0, 439), (2, 37, 127, 1, 443), (2, 49, 13, 0, 444), (2, 56, 14, 0, 450), (2, 72, 19, 0, 448), (2, 77, 6, 0, 449), (2, 81, 20, 0, 454), (3, 32, 0, 0, 320), (3, 53, 127, 1, 400), (4, 53, 22, 0, 462), (4, 56, 24, 0, 478), (4, 59, 26, 0, 486), (4, 68, 27, 0, 490), (4, 73, 127, 1, 467), (4, 84, 15, 0, 468), (4, 91, 23, 0, 472), (4, 103, 18, 0, 476), (4, 109, 25, 1, 482), (4, 113, 28, 0, 494), (4, 116, 30, 0, 502), (4, 119, 31, 0, 506), (4, 122, 32, 0, 510), (4, 126, 29, 0, 498), (4, 135, 39, 0, 561), (5, 19, 45, 0, 303), (6, 52, 79, 1, 276), (6, 60, 43, 0, 279), (6, 68, 5, 0, 291), (6, 77, 44, 0, 299), (6, 81, 72, 0, 308), (6, 84, 1, 0, 331), (6, 88, 75, 0, 339), (6, 92, 2, 0, 343), (6, 99, 6, 0, 363), (6, 106, 4, 0, 378), (6, 110, 18, 0, 383), (6, 120, 45, 0, 395), (6, 123, 17, 0, 396), (6, 130, 77, 0, 411), (6, 136, 76, 0, 419), (6, 139, 19, 0, 423), (6, 143, 73, 0, 431), (6, 147, 33, 0, 514), (6, 150, 78, 1, 522), (6, 153, 35, 0, 525), (6, 156, 36, 0, 529), (6, 159, 37, 0, 537), (6, 165, 74, 0, 545), (6, 174, 40, 0, 557), (6, 178, 41, 0, 570), (6, 181, 42, 0, 574), (6, 184, 34, 0, 582), (6, 187, 38, 0, 590), (6, 190, 7, 0, 594), (6, 193, 8, 0, 602), (6, 196, 127, 1, 606), (6, 203, 10, 0, 611), (6, 206, 9, 0, 312), (6, 209, 11, 0, 435), (6, 212, 21, 0, 458), (7, 61, 80, 1, 688), (7, 68, 86, 1, 699), (7, 72, 88, 0, 702), (7, 76, 85, 0, 706), (7, 79, 81, 0, 710), (7, 82, 87, 0, 718), (7, 85, 93, 0, 734), (7, 88, 97, 0, 750), (7, 92, 103, 0, 774), (7, 99, 105, 0, 794), (7, 103, 107, 0, 798), (7, 106, 108, 0, 810), (7, 109, 110, 0, 786), (7, 112, 109, 0, 814), (7, 115, 112, 0, 818), (7, 119, 111, 1, 802), (7, 122, 106, 0, 790), (7, 126, 113, 0, 806), (7, 130, 114, 0, 782), (7, 136, 117, 0, 830), (7, 140, 121, 0, 846)]
def jx_nest : Nat × Nat × Nat := (5, 23, 79)
def jx_cpl : List (Nat × Nat × Nat) := [(0, 30, 324), (3, 36, 327)]
def jx_maxl : List (Nat × Nat × Nat) := [(0, 56, 367)]
def jx_minl : List (Nat × Nat × Nat) := [(1, 29, 328), (4, 98, 477)]
abbrev jxR : Type := MethodName × ByteArray × Nat × Option FieldType × Nat × Nat × List Nat
def kp_D_copyFrom : List Nat := [0, 1, 4, 5, 6, 9, 10, 11, 14, 15, 18, 19, 22, 23, 24, 27, 28, 30, 33, 34, 37, 38, 39, 42, 43, 45, 48, 49, 52, 53, 54, 57, 58, 60, 63, 64, 67, 68, 69, 72, 73, 75, 78, 79, 82, 83, 84, 87, 88, 90, 93, 94, 95, 98, 101]
def kp_D_append : List Nat := [0, 1, 4, 6, 8, 10, 13, 14, 17, 19, 22, 23, 24, 27, 28, 29, 32, 34, 36, 37, 38, 41, 44, 45, 48, 50, 51, 54, 55, 56, 59, 61, 62, 63, 64, 67, 69, 70, 71, 72, 75, 77, 79, 80, 81, 84, 86, 87, 88, 89, 90, 93, 94, 95, 98]
def kp_D_drop : List Nat := [0, 1, 2, 3, 4, 5, 6, 9, 12, 13, 14, 15, 16, 19, 22, 25, 26, 27, 30, 31, 32, 35]
def kp_D_moveDown : List Nat := [0, 1, 2, 3, 4, 5, 8, 9, 11, 12, 13, 16, 17, 19, 20, 22, 25, 26, 29, 30, 31, 34, 35, 36, 37, 38, 41, 42, 43, 46, 47, 48, 49, 50, 53, 54, 55, 58, 59, 60, 61, 62, 65, 66, 67, 70, 71, 72, 73, 74, 77, 78, 79, 82, 83, 84, 85]
def kp_D_beginsWith : List Nat := [0, 1, 4, 5, 8, 9, 10, 13, 14, 15, 16, 17, 18, 19, 22, 25, 26, 29, 30, 32, 33, 34, 35, 36, 37, 40, 41, 42, 45, 46, 47, 50, 53, 54]
def kp_D_holds : List Nat := [0, 1, 3, 5, 6, 9, 12, 13, 16, 18, 19, 20, 23, 24, 27, 29, 30, 31, 34, 35, 38, 40, 41, 42, 45, 48, 49, 51, 52, 55, 58, 59, 60, 63, 66, 67]
def kp_D_presentCost : List Nat := [0, 1, 2, 5, 6, 7, 8, 9, 12, 13, 14, 15, 16, 19]
def kp_D_learn : List Nat := [0, 1, 4, 5, 6, 8, 11, 12, 13, 14, 17, 18, 19, 20, 21, 22, 23, 24]
def kp_D_sumOfUses : List Nat := [0, 1, 2, 3, 4, 5, 6, 9, 12, 13, 14, 17, 18, 19, 20, 21, 24, 27, 28]
def kp_H_keep : List Nat := [0, 1, 4, 5, 8, 9, 10, 11, 14, 15, 16, 17, 20, 21, 22, 25, 26, 29, 30, 33, 34, 37, 38, 39, 42, 43, 44, 47, 48, 49, 51, 54, 57]
def kp_H_bringBack : List Nat := [0, 1, 4, 7, 8, 11, 12, 15, 16, 17, 18, 19, 22, 23, 24, 25, 26, 29, 30, 33, 36, 37, 38, 39, 42, 43, 44, 47, 48, 49, 52, 53, 54, 57]
def kp_L_build : List Nat := [0, 1, 4, 5, 8, 9, 12, 13, 14, 15, 16, 19, 22, 25, 26, 27, 30, 31, 32, 33, 34, 35, 37, 38, 39, 42, 45, 48, 51, 54]
def kp_L_sortByLength : List Nat := [0, 1, 4, 7, 8, 9, 10, 12, 13, 14, 17, 18, 20, 22, 23, 26, 29, 30, 33, 35, 36, 37, 40, 41, 43, 46, 47, 50, 51, 53, 54, 57, 60, 63, 66, 69]
def kp_L_addEntriesAt : List Nat := [0, 1, 4, 7, 8, 9, 10, 11, 12, 15, 18, 19, 22, 23, 24, 26, 27, 30, 32, 33, 36, 39, 40, 41, 42, 43, 46, 48, 49, 50, 52, 53, 56, 58, 59, 60, 62, 65, 68, 71, 74]
def kp_L_addSlot : List Nat := [0, 1, 4, 5, 6, 8, 11, 12, 15, 16, 17, 20, 23, 24, 25, 27, 28, 29, 32, 33, 34, 35, 37, 38, 41, 43, 44, 45, 46, 49, 51, 52, 53, 54, 57, 59, 61, 62, 63, 66, 68, 70, 71, 72, 75, 76, 77, 78, 79, 80, 81]
def kp_L_stateBehind : List Nat := [0, 1, 4, 5, 6, 8, 9, 10, 13, 14, 15, 16]
def kp_M_copyFrom : List Nat := [0, 1, 4, 5, 8, 11, 12, 15, 16, 17, 20, 21, 22, 25, 26, 29, 30, 33, 34, 35, 38, 39, 41, 44, 45, 48, 49, 50, 53, 54, 56, 59, 60, 61, 64, 67, 68, 69, 72, 75]
def kp_M_takeInput : List Nat := [0, 1, 4, 6, 9, 10, 11, 14, 15, 16, 19, 20, 21, 24, 27, 28, 29, 32, 35, 36, 39, 40, 43]
def kp_M_connection : List Nat := [0, 1, 4, 5, 7, 8, 9, 10, 11]
def kp_M_standsAt : List Nat := [0, 1, 4, 7, 8, 9, 10, 11, 12, 13, 14, 17, 20, 21, 22, 23, 25, 27, 28, 31, 32, 35, 38, 39, 41, 42, 44, 45, 46, 47, 50, 51, 53, 54, 55, 58, 59, 60, 63, 66, 67]
def kp_M_allowsSegment : List Nat := [0, 1, 4, 5, 6, 7, 10, 11, 12, 13, 14, 15, 16, 17, 18, 21, 22, 25, 26, 27, 28, 31, 32, 33, 36, 39, 40]
def kp_R_build : List Nat := [0, 1, 4, 5, 8, 9, 12, 13, 16, 19, 20, 21, 22, 23, 26, 27, 28, 29, 31, 34, 35, 36, 37, 40, 43, 46, 49, 52]
def kp_R_findLeastTo : List Nat := [0, 1, 4, 6, 9, 10, 13, 15, 16, 17, 18, 19, 20, 21, 24, 27, 30, 31, 32, 33, 34, 37, 40, 41, 42, 45, 46, 48, 49, 50, 51, 52, 53, 56, 57, 60, 62, 63, 64, 65, 68, 71, 72, 73, 76, 77, 80, 83, 84, 85, 86, 88, 89, 92, 94, 95, 98, 100, 101, 103, 106, 107, 110, 113, 116, 119]
def kp_R_leastBefore : List Nat := [0, 2, 3, 4, 6, 8, 10, 13, 14, 17, 18, 20, 21, 23, 24, 25, 26, 29, 31, 32, 35, 36, 38, 39, 41, 44, 45, 48, 51, 52]
def kp_R_countPaths : List Nat := [0, 1, 4, 5, 8, 11, 12, 13, 14, 17, 20, 21, 22, 23, 24, 27, 28, 29, 30, 31, 32, 33, 36, 39, 40, 41, 44, 45, 46, 49, 50, 53, 56, 57, 59, 60, 61, 62, 63, 64, 67, 68, 71, 74, 75, 78, 79, 80, 81, 84, 87]
def kp_R_cappedSum : List Nat := [0, 1, 2, 3, 5, 8]
def kp_R_listEnds : List Nat := [0, 1, 4, 5, 8, 9, 10, 11, 13, 16, 17, 20, 23, 25, 26, 27, 28, 29, 30, 33, 34, 35, 37, 40, 41, 44, 45, 46, 47, 48, 51, 52, 54, 55, 56, 59, 60, 62, 65, 66, 67, 70, 71, 72, 73, 76, 79]
def kp_R_listState : List Nat := [0, 1, 3, 4, 5, 6, 7, 8, 11, 12, 13, 15, 18, 19, 20, 21, 22, 25, 26, 27, 28, 31, 32, 34, 36, 38, 41, 42, 43, 46, 48, 50, 53, 56, 57, 58, 59, 61, 64, 67, 70]
def kp_R_openHeads : List Nat := [0, 1, 2, 3, 4, 7, 10, 11, 12, 15, 16, 18, 19, 20, 21, 23, 24, 27, 28, 29, 32, 35, 37, 38, 41, 42, 45, 48, 50, 51, 52, 54, 55, 58, 59, 60, 61, 62, 65, 66, 68, 70, 71, 72, 75, 77, 80, 83, 84, 87, 88, 91, 94]
def kp_R_leastFrom : List Nat := [0, 1, 4, 5, 6, 9, 10, 13, 14, 16, 17, 18, 21, 23]
def kp_R_countBestWays : List Nat := [0, 1, 2, 5, 6, 7, 9, 10, 13, 14, 16, 18, 19, 22, 25, 26, 27, 30, 31, 34, 36, 37, 38, 41, 42, 43, 46, 48, 49, 52, 53, 56, 57, 59, 60, 62, 63, 66, 67, 70, 72, 75, 78, 79, 82, 83, 85, 86]
def kp_R_cheapestHead : List Nat := [0, 1, 2, 4, 5, 6, 8, 10, 11, 14, 17, 18, 19, 22, 23, 26, 28, 29, 30, 33, 34, 37, 39, 40, 41, 43, 44, 47, 50, 51]
def kp_R_takeHead : List Nat := [0, 1, 3, 4, 5, 8, 9, 10, 11, 13, 14, 16, 17, 18, 19, 21, 22, 25, 26, 27, 29, 30, 33, 35, 36, 39, 40, 41, 42, 43, 46, 48, 50, 51, 52, 55, 57, 59, 60, 61, 64, 65, 66, 67, 68, 69, 70, 71, 74, 76, 79, 81, 82, 85, 86, 88, 89, 90, 91, 93, 94, 95, 96, 99, 101, 102, 105, 107, 109, 110, 112, 113, 116, 117, 118, 119, 120, 123, 125, 127, 128, 129, 130, 131, 132, 135, 137, 139, 140, 141, 142, 143, 144, 147, 148, 151, 152, 154, 155]
def kp_R_allPaths : List Nat := [0, 1, 4, 5, 6]
def kp_R_bestPaths : List Nat := [0, 1, 4, 6, 7]
def kp_R_hasRank : List Nat := [0, 1, 2, 5, 7, 8, 11, 12, 15, 16]
def kp_R_costAtRank : List Nat := [0, 1, 4, 6, 7, 8, 9]
def kp_R_walk : List Nat := [0, 2, 3, 4, 5, 6, 8, 9, 10, 13, 15, 16, 19, 22, 25, 26, 29, 31, 34, 35, 37, 38, 39, 40, 42, 43, 46, 48, 49, 51, 52, 55, 56, 59, 61, 62, 63, 66, 67, 70, 71, 74, 77, 79, 80, 81, 82, 83, 86, 87, 88, 91, 92, 95, 97, 100, 101, 102, 105, 107, 108, 109, 110, 113, 116, 118, 119, 121, 124]
def kp_R_trailHolds : List Nat := [0, 1, 2, 3, 4, 7, 10, 11, 14, 15, 16, 17, 20, 21, 22, 25, 28, 29]
def kp_R_leastThroughSlot : List Nat := [0, 1, 2, 3, 6, 9, 10, 11, 14, 15, 18, 21, 22, 23, 24, 25, 26, 29, 30, 33, 36, 37]
def kp_R_leastThroughEntry : List Nat := [0, 1, 2, 3, 4, 7, 10, 11, 12, 15, 16, 18, 19, 20, 21, 23, 24, 27, 30, 32, 33, 34, 37, 39, 40, 41, 43, 46, 49, 50, 53, 56, 58]
def kp_R_leastEndingAt : List Nat := [0, 2, 3, 4, 5, 6, 8, 11, 12, 14, 15, 16, 17, 19, 20, 21, 24, 26, 27, 28, 30, 33, 34, 37, 38, 41, 44, 45]
def kp_R_leastCrossing : List Nat := [0, 2, 3, 4, 5, 6, 7, 10, 11, 13, 15, 16, 19, 22, 23, 24, 27, 28, 30, 31, 33, 34, 36, 37, 40, 43, 45, 46, 47, 50, 51, 52, 53, 55, 58, 61, 62, 65, 68, 71, 74, 75]
def kp_T_push : List Nat := [0, 1, 4, 6, 9, 10, 13, 14, 17, 18, 19, 20, 21, 24, 25, 26, 29]
def kp_T_readingError : List Nat := [0, 1, 4, 7, 8, 11, 12, 14, 17]
def kp_T_firstError : List Nat := [0, 1, 2, 3, 4, 7, 10, 11, 12, 15, 16, 19, 20, 21, 23, 25, 28, 31, 32, 33, 36, 39, 40]
def kp_C_appendCharacter : List Nat := [0, 1, 2, 5, 8, 11, 12, 13, 14, 17, 20, 22, 25, 27, 28, 29, 32, 33, 36, 37, 40, 43]
def kp_C_clearText : List Nat := [0, 1, 4, 7, 8, 9, 12, 13, 16, 17]
def kp_C_addEntry : List Nat := [0, 1, 2, 4, 7, 10, 11, 12, 13, 16, 19, 20, 21, 23, 26, 29, 30, 31, 32, 35, 38, 40, 42, 43, 46, 47, 48, 51, 54, 56, 57, 59, 62, 64, 67, 69, 70, 71, 74, 77, 79, 81, 82, 85, 87, 89, 90, 91, 92, 95, 97, 98, 101, 102, 103, 104, 107, 108, 111, 112, 115, 117, 120, 121, 122]
def kp_C_removeEntry : List Nat := [0, 1, 2, 5, 8, 9, 10, 11, 14, 15, 18, 21, 22, 25, 26, 29, 32, 35]
def kp_C_entryCount : List Nat := [0, 1, 4, 7, 10]
def kp_C_wordOf : List Nat := [0, 1, 2, 5, 8, 9, 10, 11, 14, 17, 20, 21, 22]
def kp_C_costOf : List Nat := [0, 1, 2, 5, 8, 9, 10, 11, 14, 17, 18, 21]
def kp_C_useCount : List Nat := [0, 1, 2, 5, 8, 9, 10, 11, 14, 17, 20, 21, 22]
def kp_C_entriesWithPrefix : List Nat := [0, 1, 4, 7, 8, 9, 10, 11, 12, 13, 14, 17, 20, 21, 22, 23, 26, 29, 32, 35, 38, 41, 42]
def kp_C_setConnection : List Nat := [0, 1, 2, 4, 7, 10, 11, 12, 14, 17, 20, 21, 22, 24, 27, 30, 31, 32, 33, 36, 37, 40, 41, 42, 45, 47, 48, 51, 54, 55, 57, 58, 59, 60, 61, 62, 64]
def kp_C_setUnknownCost : List Nat := [0, 1, 2, 5, 8, 11, 12, 13, 14, 17, 18, 21, 24, 25, 26, 29, 30, 33, 34]
def kp_C_setInput : List Nat := [0, 1, 4, 6, 9, 10, 11, 12, 15, 17, 18, 19, 20, 21, 24, 25, 28, 29, 32, 35, 36, 39, 40, 43, 44, 47, 50]
def kp_C_inputLength : List Nat := [0, 1, 4, 7]
def kp_C_setConstraint : List Nat := [0, 1, 2, 5, 8, 9, 10, 11, 14, 17, 18, 19, 20, 23, 24, 27, 30, 31, 32, 33, 34, 37, 40, 41, 42, 43, 44]
def kp_C_segmentsAt : List Nat := [0, 1, 2, 5, 8, 9, 10, 11, 12, 13, 14, 15, 16, 19, 22, 25, 28, 29, 32, 33, 34, 37, 40, 43, 46, 49, 50]
def kp_C_pathCount : List Nat := [0, 1, 4, 7]
def kp_C_pathCost : List Nat := [0, 1, 4, 7, 8, 9, 10, 13, 14, 15, 16, 19, 22, 23, 24, 27, 30, 32]
def kp_C_segmentCount : List Nat := [0, 1, 4, 7, 8, 9, 10, 13, 14, 15, 16, 19, 22, 24, 25, 26, 27, 30, 31, 34]
def kp_C_segmentStart : List Nat := [0, 1, 4, 7, 8, 11, 12, 13, 14, 15, 16, 19, 22, 23, 26, 29, 30, 31, 34, 36]
def kp_C_segmentEntry : List Nat := [0, 1, 4, 7, 8, 11, 12, 13, 14, 15, 16, 19, 22, 23, 26, 29, 30, 31, 34, 36]
def kp_C_bestThrough : List Nat := [0, 1, 2, 5, 8, 9, 10, 13, 16, 17, 18, 19, 22, 23, 24, 27, 28, 29, 31, 34, 35, 38, 40]
def kp_C_boundaryInBest : List Nat := [0, 1, 2, 5, 8, 9, 10, 11, 14, 15, 16, 17, 20, 21, 22, 23, 26, 28, 29, 31, 34, 36, 38, 41, 43, 44, 45, 47, 50, 51, 52, 53, 55, 58, 59, 62, 63]
def kp_C_bestCount : List Nat := [0, 1, 4, 7]
def kp_C_choose : List Nat := [0, 1, 4, 7, 8, 9, 10, 13, 14, 15, 16, 19, 22, 24, 25, 26, 27, 30, 31, 34, 35, 36, 37, 39, 41, 42, 45, 48, 51, 54, 55, 57, 60, 63, 64, 67, 70, 72, 75, 78, 81, 84, 87, 88]
def kp_C_forget : List Nat := [0, 1, 4, 7, 10, 11, 12, 15, 17, 18, 19, 22, 23, 26, 29, 32, 33, 36, 37]
def kp_C_undo : List Nat := [0, 1, 4, 7, 10, 12, 13, 14, 17, 18, 21, 24, 25, 26, 29, 30, 33, 36]
def kp_C_beginEdit : List Nat := [0, 1, 4, 5, 8, 11, 12, 13, 16]
def kp_C_presentPaths : List Nat := [0, 1, 4, 7, 8, 11, 14, 15, 18, 21, 22, 23, 26, 27, 30]
def kp_C_findSegment : List Nat := [0, 1, 4, 5, 6, 7, 10, 13, 14, 15, 16, 17, 20, 21, 22, 25, 28, 29, 32, 33]
def kp_C_isNoEntry : List Nat := [0, 1, 2, 3, 6, 9, 12, 13, 14, 17]
def kp_C_isNoGap : List Nat := [0, 1, 2, 3, 6, 9, 12]
def kp_C_isNoInnerGap : List Nat := [0, 1, 2, 3, 6, 9, 10, 11, 14]
def kp_C_isNoRank : List Nat := [0, 1, 2, 4, 7]
def kp_C_isOutside : List Nat := [0, 1, 2, 5, 6, 7, 10, 11, 14, 15]
def kp_F_in : List Nat := [0, 1, 2, 5, 6, 7, 10, 11, 14, 15]
def kp_F_save : List Nat := [0, 1, 4, 6, 9, 10, 11, 12, 15, 18, 19, 22, 23, 24, 27, 28, 31, 32, 33, 34, 37, 40, 41, 42, 45, 46, 47, 50, 51, 52, 53, 56, 59, 60, 63, 66, 67, 70, 71, 72, 73, 74, 77, 78, 79, 80, 83, 86, 87, 88, 91, 92, 93, 96, 97, 98, 101]
def kp_F_undo : List Nat := [0, 1, 4, 7, 9, 10, 11, 12, 15, 16, 17, 20, 21, 22, 23, 26, 29, 30, 33, 34, 35, 38, 41, 42, 45, 46, 47, 48, 49, 50, 53, 56, 57, 58, 61, 62, 65]
def kp_F_appendCharacter : List Nat := [0, 1, 2, 5, 8, 11, 12, 13, 14, 17, 19, 22, 24, 25, 26, 29, 30, 33, 34, 35, 36, 37, 40, 41, 42, 45, 46, 49]
def kp_F_clearText : List Nat := [0, 1, 4, 5, 6, 7, 10, 11]
def kp_F_fault : List Nat := [0, 1, 2, 3, 4, 7, 10, 11, 12, 15, 16, 19, 20, 21, 23, 25, 28, 31, 32, 33, 36, 39, 41]
def kp_F_at : List Nat := [0, 1, 3, 4, 5, 6]
def kp_F_isEntry : List Nat := [0, 1, 2, 3, 6, 7, 8, 9, 10, 13]
def kp_F_begins : List Nat := [0, 1, 4, 5, 8, 9, 12, 13, 16, 17, 20, 21, 22, 23, 24, 25, 26, 29, 32, 33, 36, 37, 40, 41, 42, 43, 46, 47, 50, 51, 52, 53, 54, 55, 58, 59, 62, 63, 64, 67, 70, 71]
def kp_F_addEntry : List Nat := [0, 1, 2, 4, 7, 10, 11, 12, 13, 16, 19, 20, 21, 23, 26, 29, 30, 31, 32, 34, 36, 37, 40, 41, 42, 45, 46, 49, 51, 54, 55, 56, 59, 62, 63, 65, 68, 71, 72, 75, 77, 80, 82, 83, 84, 85, 88, 89, 92, 94, 97, 99, 100, 101, 102, 105, 107, 108, 111, 114, 115, 118, 119, 120, 122, 125, 127, 128, 129, 132, 135, 136, 139, 140, 142, 145, 147, 149, 151, 154, 156, 158, 159, 160, 161, 164, 165, 168, 169, 170, 173, 175, 176, 179, 181, 182, 185, 186, 187, 189, 191, 193, 196, 197, 200, 202, 203, 204, 206, 207, 209, 210, 213, 216, 217, 220, 222, 223, 226, 227, 228, 231, 234, 235, 238, 240, 242, 243, 244, 245, 246, 249, 251, 253, 254, 255, 256, 257, 260, 262, 264, 265, 266, 267, 268, 271, 273, 275, 276, 277, 278, 279, 282, 283, 284, 285, 286, 287, 288, 289, 290, 293, 294, 297, 298, 299, 300, 301]
def kp_F_removeEntry : List Nat := [0, 1, 2, 5, 8, 9, 10, 11, 14, 15, 18, 19, 20, 21, 22, 23, 24, 25, 28, 29, 30, 31, 34, 35, 36, 39, 42, 43, 46, 47, 48, 51, 52, 54, 55, 56, 57, 60, 63, 64, 67, 68, 69]
def kp_F_entryCount : List Nat := [0, 1, 4, 5, 6]
def kp_F_wordOf : List Nat := [0, 1, 2, 5, 8, 9, 12, 13, 16, 18, 19, 20, 23, 24]
def kp_F_price : List Nat := [0, 1, 4, 5, 8, 10, 11, 12, 13, 14, 17, 18, 21, 23, 24, 25, 26, 27, 28, 29, 32, 33, 36, 37]
def kp_F_costOf : List Nat := [0, 1, 2, 5, 8, 9, 10, 13, 16, 17]
def kp_F_useCount : List Nat := [0, 1, 2, 5, 8, 9, 12, 13, 16, 18, 19, 20, 23, 24]
def kp_F_entriesWithPrefix : List Nat := [0, 1, 2, 3, 4, 5, 6, 9, 10, 11, 14, 15, 16, 17, 20, 23, 24, 27, 28, 29, 30, 33, 36, 37]
def kp_F_changed : List Nat := [0, 1, 4, 5, 8, 9, 10, 11, 12, 15, 16, 17, 18, 19]
def kp_F_setConnection : List Nat := [0, 1, 2, 4, 7, 10, 11, 12, 14, 17, 20, 21, 22, 24, 27, 30, 31, 34, 36, 37, 38, 39, 40, 41, 42, 45, 48, 49]
def kp_F_setUnknownCost : List Nat := [0, 1, 2, 5, 8, 11, 12, 15, 16, 19, 22, 23]
def kp_F_setInput : List Nat := [0, 1, 3, 6, 7, 8, 10, 13, 15, 16, 17, 18, 19, 22, 23, 26, 29, 30, 33, 34, 35, 36, 37, 39, 42, 43, 46, 49, 50, 51, 52, 53, 56, 59, 60, 63, 64, 65, 68, 69, 70, 73, 76, 77, 78, 79, 81, 84, 85, 88, 91, 92, 93, 94, 95, 98, 101, 102, 103, 106, 107, 110, 113, 114]
def kp_F_inputLength : List Nat := [0, 1, 4, 7, 8]
def kp_F_setConstraint : List Nat := [0, 1, 2, 3, 6, 9, 10, 11, 12, 15, 18, 19, 20, 21, 24, 27, 28, 31, 32, 33, 34, 37, 40, 41]
def kp_F_stands : List Nat := [0, 1, 4, 5, 8, 9, 10, 11, 12, 13, 14, 17, 20, 21, 24, 25, 28, 29, 31, 32, 34, 36, 37, 40, 42, 45, 46, 49, 50, 53, 54, 55, 57, 58, 59, 60, 63, 66, 67, 68, 70, 71, 72, 75, 76, 79, 80, 82, 85, 88, 90]
def kp_F_segmentsAt : List Nat := [0, 1, 2, 3, 6, 9, 10, 13, 16, 17, 18, 19, 20, 21, 22, 23, 24, 27, 28, 29, 32, 33, 34, 35, 36, 39, 42, 43, 46, 47, 48, 49, 52, 55, 56]
def kp_F_mayCover : List Nat := [0, 1, 2, 5, 8, 9, 12, 13, 16, 19, 20, 21, 22, 23, 26, 27, 30, 31, 32, 33, 34, 35, 37, 39, 40, 43, 44, 47, 48, 51, 54, 56, 57, 58, 59, 62, 63, 66, 67, 68, 71, 74, 75]
def kp_F_findSegments : List Nat := [0, 1, 2, 5, 7, 8, 9, 12, 13, 14, 15, 16, 19, 20, 21, 24, 25, 28, 29, 32, 33, 34, 37, 38, 39, 40, 43, 46, 47, 48, 49, 50, 51, 54, 57, 58, 61, 62, 65, 66, 67, 68, 69, 72, 73, 74, 77, 80, 83, 86, 89, 90, 91, 92, 93, 94, 97, 100, 101, 104, 105, 108, 110, 111, 112, 113, 116, 117, 118, 121]
def kp_F_endOf : List Nat := [0, 1, 3, 6, 7, 8, 9, 12, 13, 14, 17, 18, 21, 22, 23]
def kp_F_classOf : List Nat := [0, 1, 3, 6, 7, 10, 11, 14, 15, 18, 20, 21, 22]
def kp_F_segmentCost : List Nat := [0, 1, 3, 6, 7, 10, 13, 14, 17, 18, 19, 22]
def kp_F_between : List Nat := [0, 1, 4, 7, 9, 10, 11, 12, 13, 14, 15]
def kp_F_capped : List Nat := [0, 1, 2, 3, 5, 8, 10, 13, 14, 15, 16]
def kp_F_insert : List Nat := [0, 1, 4, 5, 6, 8, 10, 12, 15, 16, 17, 20, 22, 23, 24, 26, 27, 28, 29, 30, 33, 34, 36, 38, 41, 43, 46, 48, 50, 52, 55, 56, 59, 61, 62, 63, 65, 66, 67, 68, 69, 70, 73, 74, 77, 79, 80, 81, 83, 84, 85, 88, 90, 91, 92, 94, 95, 96, 97, 98, 99, 100, 103, 105, 106, 107, 109, 110, 111, 114, 116, 117, 118, 120, 121, 122, 123, 124, 125, 126, 129, 131, 132, 133, 135, 136, 137, 140, 142, 143, 144, 146, 147, 148, 149, 150, 151, 154, 157, 158, 161, 163, 164, 165, 167, 168, 169, 170, 171, 174, 176, 177, 178, 180, 181, 182, 183, 184, 187, 189, 190, 191, 193, 194, 196, 197, 198, 201, 202, 204, 206, 209, 211, 212, 213, 216, 218, 219]
def kp_F_layPlace : List Nat := [0, 2, 3, 4, 5, 6, 7, 8, 11, 12, 13, 14, 15, 18, 19, 20, 21, 22, 24, 26, 27, 30, 33, 34, 37, 39, 40, 42, 44, 45, 47, 48, 51, 52, 53, 55, 58, 59, 61, 62, 63, 64, 66, 69, 72, 73, 75, 78, 79, 81, 82, 84, 86, 87, 90, 92, 93, 96, 97, 98, 100, 101, 104, 106, 108, 109, 111, 112, 113, 114, 116, 118, 121, 124, 127, 130, 133, 134, 136, 138, 139, 142, 145, 146, 149, 151, 152, 154, 156, 157, 159, 160, 163, 164, 165, 167, 170, 171, 173, 174, 175, 176, 178, 181, 184, 185, 187, 190, 191, 193, 194, 197, 199, 200, 203, 205, 206, 209, 211, 213, 214, 215, 216, 217, 220, 222, 223, 224, 225, 228, 229, 232, 233, 235, 236, 239, 240, 242, 245, 246, 249, 250, 251, 252, 255, 257, 258, 261, 264, 265, 268, 269, 270, 271, 274, 277]
def kp_F_lay : List Nat := [0, 1, 4, 7, 8, 9, 12, 15, 16, 17, 18, 19, 20, 22, 25, 27, 28, 29, 30, 31, 32, 33, 36, 37, 38, 39, 40, 43, 45, 46, 47, 48, 49, 51, 54, 55, 56, 59, 61, 62, 63, 65, 66, 67, 70, 71, 72, 73, 76, 79, 80, 83, 84, 85, 86, 87, 88, 89, 90, 91, 94, 95, 96, 99, 100, 103, 104, 105, 106, 107, 108, 109, 110, 113, 116, 117, 120, 121, 122, 125, 126, 127, 128, 131, 132, 133, 136, 137, 138, 139, 142, 143, 146, 147, 150, 153, 154, 155, 156, 158, 161, 162, 163, 164, 167, 170, 173, 176, 179, 180, 181, 184]
def kp_F_pathCount : List Nat := [0, 1, 4, 5, 8, 9, 10]
def kp_F_pathCost : List Nat := [0, 1, 2, 4, 7, 10, 11, 12, 13, 16, 17, 18, 21, 23, 24, 27, 28, 31, 33, 34, 35, 36, 39, 41]
def kp_F_follow : List Nat := [0, 1, 4, 5, 6, 9, 10, 11, 14, 16, 17, 20, 21, 22, 23, 24, 26, 27, 28, 29, 30, 31, 34, 37, 38, 41, 42, 45, 46, 47, 49, 50, 53, 54, 57, 58, 59, 60, 63, 64, 67, 69, 70, 71, 72, 75, 76, 77, 80, 81, 83, 84, 87, 88, 90, 92, 93, 94, 95, 97, 100, 101, 102, 103, 106, 107, 108, 109, 110, 113, 114]
def kp_F_segmentCount : List Nat := [0, 1, 2, 4, 7, 10, 11, 12, 13, 14, 17, 20, 21, 24, 27, 29]
def kp_F_segmentStart : List Nat := [0, 1, 2, 4, 7, 10, 11, 14, 15, 16, 17, 18, 21, 24, 25, 26, 29, 32, 33, 36, 37, 38, 41, 43]
def kp_F_segmentEntry : List Nat := [0, 1, 2, 4, 7, 10, 11, 14, 15, 16, 17, 18, 21, 24, 25, 26, 29, 32, 33, 36, 37, 38, 41, 43]
def kp_F_layAhead : List Nat := [0, 1, 2, 3, 5, 8, 9, 12, 13, 15, 16, 19, 22, 23, 26, 28, 29, 30, 31, 32, 33, 34, 37, 40, 41, 44, 45, 46, 49, 50, 51, 52, 53, 56, 59, 60, 63, 64, 65, 66, 68, 69, 70, 71, 74, 75, 76, 77, 80, 81, 83, 84, 86, 88, 90, 93, 94, 97, 99, 100, 101, 103, 104, 105, 106, 108, 109, 110, 113, 116, 117, 118, 119, 122, 123, 125, 126, 129, 131, 133, 134, 137, 139, 140, 143, 145, 148, 149, 152, 154, 155, 156, 159, 162, 165, 168, 171, 174]
def kp_F_bestThrough : List Nat := [0, 1, 2, 5, 8, 9, 10, 11, 14, 17, 18, 21, 24, 25, 26, 27, 28, 29, 32, 35, 36, 37, 38, 39, 40, 43, 46, 49, 51, 52, 53, 56, 57, 60, 62, 63, 64, 65, 68, 69, 70, 71, 74, 75, 76, 78, 80, 81, 83, 85, 87, 90, 91, 94, 96, 97, 98, 100, 101, 102, 103, 105, 106, 107, 110, 113, 114, 116, 118, 120, 123, 125, 128, 130, 132, 135, 138, 140, 142, 145, 146, 149, 150, 151, 154, 156, 159, 161, 162, 163, 166, 167, 168, 171, 173, 174, 175, 176, 177]
def kp_F_boundaryInBest : List Nat := [0, 1, 2, 3, 6, 9, 10, 11, 12, 15, 18, 19, 20, 21, 24, 25, 28, 30, 31, 34, 36, 37, 38, 39, 40, 42, 45, 46, 49, 50, 51, 53, 56, 57, 60, 61, 62, 65, 68, 69, 70, 71, 72, 73, 75, 77, 79, 80, 83, 86, 87, 88, 91, 92, 95, 97, 98, 101, 104, 106, 108, 109, 111, 112, 115, 117, 118, 121, 122, 125, 126, 127, 128, 130, 133, 134, 136, 138, 139, 142, 145, 146, 149, 151, 152, 154, 156, 157, 159, 161, 164, 165, 166, 168, 171, 172, 174, 175, 177, 179, 180, 181, 183, 186, 189, 190, 192, 195, 196, 198, 199, 202, 204, 205, 208, 210, 211, 214, 216, 218, 219, 220, 221, 222, 225, 227, 229, 230, 231, 234, 235, 238, 240, 241, 242, 243, 246, 248, 249, 252, 253, 255, 257, 260, 261, 264, 265, 268, 269, 270, 273, 276, 279, 282, 283, 286, 287, 290, 291, 294, 295, 298, 299]
def kp_F_bestCount : List Nat := [0, 1, 4, 5, 8, 10, 11, 14, 15, 18, 19, 22, 24, 25]
def kp_F_choose : List Nat := [0, 1, 2, 4, 7, 10, 11, 12, 13, 14, 17, 20, 22, 23, 24, 27, 28, 29, 30, 31, 32, 33, 36, 39, 40, 43, 44, 45, 47, 50, 51, 54, 55, 57, 58, 60, 62, 63, 66, 68, 71, 72, 75, 77, 78, 79, 82, 83, 84, 87, 88, 91, 92, 94, 97, 100, 102, 105, 106, 109, 110, 113, 114, 115, 118, 120, 121, 122, 124, 127, 128, 131, 132, 135, 136, 137, 140, 142, 143, 144, 145, 146, 147, 148, 151, 154, 157, 158]
def kp_F_forget : List Nat := [0, 1, 2, 3, 4, 5, 6, 9, 10, 11, 14, 15, 16, 19, 20, 23, 25, 26, 27, 28, 29, 32, 35, 36, 39, 41, 42, 43, 46, 47, 48, 49, 50, 53, 54, 55, 58, 59, 62, 63, 66, 68, 69, 70, 71, 74, 77, 78]
def kp_J_fill : List Nat := [0, 1, 2, 3, 4, 5, 6, 7, 10, 11, 12, 13, 14, 17, 20]
def jx_mt : List jxR := [(yX0_copyFrom, prog_2_method_2_code, 2, none, 0, 1, kp_D_copyFrom),
  (yX0_append, prog_2_method_3_code, 6, none, 0, 4, kp_D_append),
  (yX0_drop, prog_2_method_4_code, 3, none, 0, 1, kp_D_drop),
  (yX0_moveDown, prog_2_method_5_code, 3, none, 0, 1, kp_D_moveDown),
  (yX0_beginsWith, prog_2_method_6_code, 4, (some .boolean), 0, 2, kp_D_beginsWith),
  (yX0_holds, prog_2_method_7_code, 5, (some .boolean), 0, 3, kp_D_holds),
  (yX0_presentCost, prog_2_method_8_code, 2, (some .int), 0, 1, kp_D_presentCost),
  (yX0_learn, prog_2_method_9_code, 2, (some .boolean), 0, 1, kp_D_learn),
  (yX0_sumOfUses, prog_2_method_10_code, 3, (some .int), 0, 0, kp_D_sumOfUses),
  (yX1_keep, prog_3_method_2_code, 3, none, 1, 1, kp_H_keep),
  (yX1_bringBack, prog_3_method_3_code, 4, none, 1, 1, kp_H_bringBack),
  (yX2_build, prog_4_method_2_code, 2, none, 2, 0, kp_L_build),
  (yX2_sortByLength, prog_4_method_3_code, 5, none, 2, 0, kp_L_sortByLength),
  (yX2_addEntriesAt, prog_4_method_4_code, 5, none, 2, 1, kp_L_addEntriesAt),
  (yX2_addSlot, prog_4_method_5_code, 7, none, 2, 5, kp_L_addSlot),
  (yX2_stateBehind, prog_4_method_6_code, 2, (some .int), 2, 1, kp_L_stateBehind),
  (yX3_copyFrom, prog_5_method_2_code, 2, none, 3, 1, kp_M_copyFrom),
  (yX3_takeInput, prog_5_method_3_code, 2, none, 3, 1, kp_M_takeInput),
  (yX3_connection, prog_5_method_4_code, 3, (some .int), 3, 2, kp_M_connection),
  (yX3_standsAt, prog_5_method_5_code, 5, (some .boolean), 3, 2, kp_M_standsAt),
  (yX3_allowsSegment, prog_5_method_6_code, 4, (some .boolean), 3, 2, kp_M_allowsSegment),
  (yX4_build, prog_6_method_2_code, 3, none, 4, 0, kp_R_build),
  (yX4_findLeastTo, prog_6_method_3_code, 6, none, 4, 0, kp_R_findLeastTo),
  (yX4_leastBefore, prog_6_method_4_code, 6, (some .int), 4, 2, kp_R_leastBefore),
  (yX4_countPaths, prog_6_method_5_code, 4, none, 4, 0, kp_R_countPaths),
  (yX4_cappedSum, prog_6_method_6_code, 2, (some .int), 4, 2, kp_R_cappedSum),
  (yX4_listEnds, prog_6_method_7_code, 3, none, 4, 0, kp_R_listEnds),
  (yX4_listState, prog_6_method_8_code, 6, none, 4, 2, kp_R_listState),
  (yX4_openHeads, prog_6_method_9_code, 6, none, 4, 2, kp_R_openHeads),
  (yX4_leastFrom, prog_6_method_10_code, 2, (some .int), 4, 1, kp_R_leastFrom),
  (yX4_countBestWays, prog_6_method_11_code, 6, none, 4, 2, kp_R_countBestWays),
  (yX4_cheapestHead, prog_6_method_12_code, 5, (some .int), 4, 1, kp_R_cheapestHead),
  (yX4_takeHead, prog_6_method_13_code, 9, none, 4, 3, kp_R_takeHead),
  (yX4_allPaths, prog_6_method_14_code, 1, (some .int), 4, 0, kp_R_allPaths),
  (yX4_bestPaths, prog_6_method_15_code, 1, (some .int), 4, 0, kp_R_bestPaths),
  (yX4_hasRank, prog_6_method_16_code, 2, (some .boolean), 4, 1, kp_R_hasRank),
  (yX4_costAtRank, prog_6_method_17_code, 2, (some .int), 4, 1, kp_R_costAtRank),
  (yX4_walk, prog_6_method_18_code, 7, none, 4, 1, kp_R_walk),
  (yX4_trailHolds, prog_6_method_19_code, 3, (some .boolean), 4, 1, kp_R_trailHolds),
  (yX4_leastThroughSlot, prog_6_method_20_code, 3, (some .int), 4, 2, kp_R_leastThroughSlot),
  (yX4_leastThroughEntry, prog_6_method_21_code, 5, (some .int), 4, 2, kp_R_leastThroughEntry),
  (yX4_leastEndingAt, prog_6_method_22_code, 5, (some .int), 4, 1, kp_R_leastEndingAt),
  (yX4_leastCrossing, prog_6_method_23_code, 6, (some .int), 4, 1, kp_R_leastCrossing),
  (yX5_push, prog_7_method_2_code, 2, none, 5, 1, kp_T_push),
  (yX5_readingError, prog_7_method_3_code, 1, (some .int), 5, 0, kp_T_readingError),
  (yX5_firstError, prog_7_method_4_code, 3, (some .int), 5, 1, kp_T_firstError),
  (yX6_appendCharacter, prog_1_method_2_code, 2, (some .int), 6, 1, kp_C_appendCharacter),
  (yX6_clearText, prog_1_method_3_code, 2, (some .int), 6, 0, kp_C_clearText),
  (yX6_addEntry, prog_1_method_4_code, 6, (some .int), 6, 3, kp_C_addEntry),
  (yX6_removeEntry, prog_1_method_5_code, 2, (some .int), 6, 1, kp_C_removeEntry),
  (yX6_entryCount, prog_1_method_6_code, 1, (some .int), 6, 0, kp_C_entryCount),
  (yX6_wordOf, prog_1_method_7_code, 2, (some .int), 6, 1, kp_C_wordOf),
  (yX6_costOf, prog_1_method_8_code, 2, (some .int), 6, 1, kp_C_costOf),
  (yX6_useCount, prog_1_method_9_code, 2, (some .int), 6, 1, kp_C_useCount),
  (yX6_entriesWithPrefix, prog_1_method_10_code, 4, (some .int), 6, 0, kp_C_entriesWithPrefix),
  (yX6_setConnection, prog_1_method_11_code, 5, (some .int), 6, 3, kp_C_setConnection),
  (yX6_setUnknownCost, prog_1_method_12_code, 3, (some .int), 6, 1, kp_C_setUnknownCost),
  (yX6_setInput, prog_1_method_13_code, 2, (some .int), 6, 0, kp_C_setInput),
  (yX6_inputLength, prog_1_method_14_code, 1, (some .int), 6, 0, kp_C_inputLength),
  (yX6_setConstraint, prog_1_method_15_code, 4, (some .int), 6, 2, kp_C_setConstraint),
  (yX6_segmentsAt, prog_1_method_16_code, 4, (some .int), 6, 1, kp_C_segmentsAt),
  (yX6_pathCount, prog_1_method_17_code, 1, (some .int), 6, 0, kp_C_pathCount),
  (yX6_pathCost, prog_1_method_18_code, 3, (some .int), 6, 1, kp_C_pathCost),
  (yX6_segmentCount, prog_1_method_19_code, 3, (some .int), 6, 1, kp_C_segmentCount),
  (yX6_segmentStart, prog_1_method_20_code, 3, (some .int), 6, 2, kp_C_segmentStart),
  (yX6_segmentEntry, prog_1_method_21_code, 3, (some .int), 6, 2, kp_C_segmentEntry),
  (yX6_bestThrough, prog_1_method_22_code, 4, (some .int), 6, 2, kp_C_bestThrough),
  (yX6_boundaryInBest, prog_1_method_23_code, 5, (some .int), 6, 1, kp_C_boundaryInBest),
  (yX6_bestCount, prog_1_method_24_code, 1, (some .int), 6, 0, kp_C_bestCount),
  (yX6_choose, prog_1_method_25_code, 5, (some .int), 6, 1, kp_C_choose),
  (yX6_forget, prog_1_method_26_code, 2, (some .int), 6, 0, kp_C_forget),
  (yX6_undo, prog_1_method_27_code, 1, (some .int), 6, 0, kp_C_undo),
  (yX6_beginEdit, prog_1_method_28_code, 1, none, 6, 0, kp_C_beginEdit),
  (yX6_presentPaths, prog_1_method_29_code, 1, (some (.object "ReadingConverter$Ranking")), 6, 0, kp_C_presentPaths),
  (yX6_findSegment, prog_1_method_30_code, 4, (some .boolean), 6, 2, kp_C_findSegment),
  (yX6_isNoEntry, prog_1_method_31_code, 2, (some .boolean), 6, 1, kp_C_isNoEntry),
  (yX6_isNoGap, prog_1_method_32_code, 2, (some .boolean), 6, 1, kp_C_isNoGap),
  (yX6_isNoInnerGap, prog_1_method_33_code, 2, (some .boolean), 6, 1, kp_C_isNoInnerGap),
  (yX6_isNoRank, prog_1_method_34_code, 1, (some .boolean), 6, 1, kp_C_isNoRank),
  (yX6_isOutside, prog_1_method_35_code, 3, (some .boolean), 6, 3, kp_C_isOutside),
  (yX7_in, prog_9_method_3_code, 3, (some .boolean), 7, 3, kp_F_in),
  (yX7_save, prog_9_method_4_code, 2, none, 7, 0, kp_F_save),
  (yX7_undo, prog_9_method_5_code, 2, (some .int), 7, 0, kp_F_undo),
  (yX7_appendCharacter, prog_9_method_6_code, 2, (some .int), 7, 1, kp_F_appendCharacter),
  (yX7_clearText, prog_9_method_7_code, 2, (some .int), 7, 0, kp_F_clearText),
  (yX7_fault, prog_9_method_8_code, 3, (some .int), 7, 1, kp_F_fault),
  (yX7_at, prog_9_method_9_code, 1, (some .int), 7, 1, kp_F_at),
  (yX7_isEntry, prog_9_method_10_code, 2, (some .boolean), 7, 1, kp_F_isEntry),
  (yX7_begins, prog_9_method_11_code, 4, (some .boolean), 7, 1, kp_F_begins),
  (yX7_addEntry, prog_9_method_12_code, 7, (some .int), 7, 3, kp_F_addEntry),
  (yX7_removeEntry, prog_9_method_13_code, 3, (some .int), 7, 1, kp_F_removeEntry),
  (yX7_entryCount, prog_9_method_14_code, 1, (some .int), 7, 0, kp_F_entryCount),
  (yX7_wordOf, prog_9_method_15_code, 2, (some .int), 7, 1, kp_F_wordOf),
  (yX7_price, prog_9_method_16_code, 3, (some .int), 7, 1, kp_F_price),
  (yX7_costOf, prog_9_method_17_code, 2, (some .int), 7, 1, kp_F_costOf),
  (yX7_useCount, prog_9_method_18_code, 2, (some .int), 7, 1, kp_F_useCount),
  (yX7_entriesWithPrefix, prog_9_method_19_code, 3, (some .int), 7, 0, kp_F_entriesWithPrefix),
  (yX7_changed, prog_9_method_20_code, 4, (some .int), 7, 2, kp_F_changed),
  (yX7_setConnection, prog_9_method_21_code, 4, (some .int), 7, 3, kp_F_setConnection),
  (yX7_setUnknownCost, prog_9_method_22_code, 2, (some .int), 7, 1, kp_F_setUnknownCost),
  (yX7_setInput, prog_9_method_23_code, 3, (some .int), 7, 0, kp_F_setInput),
  (yX7_inputLength, prog_9_method_24_code, 1, (some .int), 7, 0, kp_F_inputLength),
  (yX7_setConstraint, prog_9_method_25_code, 3, (some .int), 7, 2, kp_F_setConstraint),
  (yX7_stands, prog_9_method_26_code, 6, (some .boolean), 7, 2, kp_F_stands),
  (yX7_segmentsAt, prog_9_method_27_code, 4, (some .int), 7, 1, kp_F_segmentsAt),
  (yX7_mayCover, prog_9_method_28_code, 5, (some .boolean), 7, 2, kp_F_mayCover),
  (yX7_findSegments, prog_9_method_29_code, 4, none, 7, 1, kp_F_findSegments),
  (yX7_endOf, prog_9_method_30_code, 3, (some .int), 7, 2, kp_F_endOf),
  (yX7_classOf, prog_9_method_31_code, 2, (some .int), 7, 1, kp_F_classOf),
  (yX7_segmentCost, prog_9_method_32_code, 2, (some .int), 7, 1, kp_F_segmentCost),
  (yX7_between, prog_9_method_33_code, 3, (some .int), 7, 2, kp_F_between),
  (yX7_capped, prog_9_method_34_code, 2, (some .int), 7, 2, kp_F_capped),
  (yX7_insert, prog_9_method_35_code, 7, none, 7, 4, kp_F_insert),
  (yX7_layPlace, prog_9_method_36_code, 9, none, 7, 2, kp_F_layPlace),
  (yX7_lay, prog_9_method_37_code, 4, none, 7, 0, kp_F_lay),
  (yX7_pathCount, prog_9_method_38_code, 1, (some .int), 7, 0, kp_F_pathCount),
  (yX7_pathCost, prog_9_method_39_code, 2, (some .int), 7, 1, kp_F_pathCost),
  (yX7_follow, prog_9_method_40_code, 5, (some .boolean), 7, 1, kp_F_follow),
  (yX7_segmentCount, prog_9_method_41_code, 2, (some .int), 7, 1, kp_F_segmentCount),
  (yX7_segmentStart, prog_9_method_42_code, 3, (some .int), 7, 2, kp_F_segmentStart),
  (yX7_segmentEntry, prog_9_method_43_code, 3, (some .int), 7, 2, kp_F_segmentEntry),
  (yX7_layAhead, prog_9_method_44_code, 7, none, 7, 0, kp_F_layAhead),
  (yX7_bestThrough, prog_9_method_45_code, 7, (some .int), 7, 2, kp_F_bestThrough),
  (yX7_boundaryInBest, prog_9_method_46_code, 10, (some .int), 7, 1, kp_F_boundaryInBest),
  (yX7_bestCount, prog_9_method_47_code, 1, (some .int), 7, 0, kp_F_bestCount),
  (yX7_choose, prog_9_method_48_code, 6, (some .int), 7, 1, kp_F_choose),
  (yX7_forget, prog_9_method_49_code, 3, (some .int), 7, 0, kp_F_forget),
  (yJ7_fill_53178, prog_12_method_103_code, 4, none, 8, 2, kp_J_fill)]
def jx_m (y : Nat) : jxR := (jx_mt[y]?).getD (⟨"", "", ""⟩, ⟨#[]⟩, 0, none, 0, 0, [])
/-- the pure instruction is the one that stands in the code -/
def jx_xok (o : Nat) (bz : Bool) (pcs : List Nat) (k : Nat) (ins : Instr) (len : Nat) (x : jxI) : Bool :=
  let nx := (pcs.getD (k + 1) 0 == pcs.getD k 0 + len)
  let tg := fun (off : Int) => ((pcs.getD k 0 : Int) + off == (pcs.getD x.2.1 0 : Int))
  match ins with
  | .iconst n => x == (0, 0, 0, n) && len == 1 && nx && decide (-1 ≤ n ∧ n ≤ 5)
  | .bipush n => x == (0, 0, 0, n) && len == 2 && nx && ((Int8.ofInt n).toInt32 == Int32.ofInt n)
  | .sipush n => x == (0, 0, 0, n) && len == 3 && nx && ((Int16.ofInt n).toInt32 == Int32.ofInt n)
  | .ldc i => x == (0, 0, 0, x.2.2.2) && len == 2 && nx && jx_cs.any (fun q => q.1 == o && q.2.1 == i && q.2.2.1 == x.2.2.2)
  | .iload_n i => x == (1, i.val, 0, 0) && len == 1 && nx
  | .iload i => x == (1, i, 0, 0) && len == 2 && nx
  | .aload_n i => x == (1, i.val, 1, 0) && len == 1 && nx
  | .aload i => x == (1, i, 1, 0) && len == 2 && nx
  | .istore_n i => x == (2, i.val, 0, 0) && len == 1 && nx
  | .istore i => x == (2, i, 0, 0) && len == 2 && nx
  | .astore_n i => x == (2, i.val, 1, 0) && len == 1 && nx
  | .astore i => x == (2, i, 1, 0) && len == 2 && nx
  | .iinc i n => x == (3, i, 0, n) && len == 3 && nx
  | .iadd => x == (4, 0, 0, 0) && len == 1 && nx
  | .isub => x == (5, 0, 0, 0) && len == 1 && nx
  | .imul => x == (6, 0, 0, 0) && len == 1 && nx
  | .idiv => x == (7, 0, 0, 0) && len == 1 && nx
  | .irem => x == (8, 0, 0, 0) && len == 1 && nx
  | .dup => x == (9, 0, 0, 0) && len == 1 && nx
  | .dup2 => x == (10, 0, 0, 0) && len == 1 && nx
  | .goto off => x == (11, x.2.1, 0, 0) && len == 3 && tg off
  | .ifCond .eq off => x == (12, x.2.1, 0, 0) && len == 3 && nx && tg off
  | .ifCond .ne off => x == (12, x.2.1, 1, 0) && len == 3 && nx && tg off
  | .ifCond .lt off => x == (12, x.2.1, 2, 0) && len == 3 && nx && tg off
  | .ifCond .ge off => x == (12, x.2.1, 3, 0) && len == 3 && nx && tg off
  | .ifCond .gt off => x == (12, x.2.1, 4, 0) && len == 3 && nx && tg off
  | .ifCond .le off => x == (12, x.2.1, 5, 0) && len == 3 && nx && tg off
  | .if_icmp .eq off => x == (13, x.2.1, 0, 0) && len == 3 && nx && tg off
  | .if_icmp .ne off => x == (13, x.2.1, 1, 0) && len == 3 && nx && tg off
  | .if_icmp .lt off => x == (13, x.2.1, 2, 0) && len == 3 && nx && tg off
  | .if_icmp .ge off => x == (13, x.2.1, 3, 0) && len == 3 && nx && tg off
  | .if_icmp .gt off => x == (13, x.2.1, 4, 0) && len == 3 && nx && tg off
  | .if_icmp .le off => x == (13, x.2.1, 5, 0) && len == 3 && nx && tg off
  | .getfield i => x == (14, x.2.1, x.2.2.1, 0) && len == 3 && nx && jx_fl.any (fun q => q.1 == o && q.2.1 == i && q.2.2.1 == x.2.1 && q.2.2.2.1 == x.2.2.1)
  | .putfield i => x == (15, x.2.1, x.2.2.1, x.2.2.2) && len == 3 && nx && jx_pl.any (fun q => q.1 == o && q.2.1 == i && q.2.2.1 == x.2.1 && q.2.2.2.1 == x.2.2.1 && q.2.2.2.2.1 == x.2.2.2)
  | .iaload => x == (16, 0, 0, 0) && len == 1 && nx
  | .iastore => x == (17, 0, 0, 0) && len == 1 && nx
  | .arraylength => x == (18, 0, 0, 0) && len == 1 && nx
  | .aaload => x == (19, 0, 0, 0) && len == 1 && nx
  | .baload => x == (20, 0, 0, 0) && len == 1 && nx
  | .bastore => x == (21, 0, 0, 0) && len == 1 && nx
  | .ifnull _ => x == (22, x.2.1, 0, 0) && len == 3 && nx
  | .ifnonnull off => x == (23, x.2.1, 0, 0) && len == 3 && tg off
  | .invokestatic i => (x == (24, x.2.1, (jx_m x.2.1).2.2.2.2.2.1, 0) && len == 3 && nx && (jx_ml.any (fun q => q.1 == o && q.2.1 == i && q.2.2.1 == x.2.1 && q.2.2.2.1 == 1) || decide (jx_nest = (o, i, x.2.1)))) ||
      (x == (26, 0, 0, 0) && len == 3 && nx && jx_cpl.any (fun q => q.1 == o && q.2.1 == i)) ||
      (x == (30, 0, 0, 0) && len == 3 && nx && jx_maxl.any (fun q => q.1 == o && q.2.1 == i)) ||
      (x == (31, 0, 0, 0) && len == 3 && nx && jx_minl.any (fun q => q.1 == o && q.2.1 == i))
  | .invokevirtual i => x == (25, x.2.1, (jx_m x.2.1).2.2.2.2.2.1, ((jx_m x.2.1).2.2.2.2.1 : Int)) && len == 3 && nx && jx_ml.any (fun q => q.1 == o && q.2.1 == i && q.2.2.1 == x.2.1 && q.2.2.2.1 == 0)
  | .ireturn => x == (27, if bz then 1 else 0, 0, 0) && len == 1
  | .return_ => x == (28, 0, 0, 0) && len == 1
  | .areturn => x == (29, 0, 0, 0) && len == 1
  | _ => false
def jx_chk (y : Nat) : Bool := (List.range (jx_T y).2.length).all (fun k => match decode (jx_m y).2.1 ((jx_m y).2.2.2.2.2.2.getD k 0) with
  | .ok (ins, len) => jx_xok (jx_m y).2.2.2.2.1 (decide ((jx_m y).2.2.2.1 = some .boolean)) (jx_m y).2.2.2.2.2.2 k ins len ((jx_T y).2.getD k (99, 0, 0, 0))
  | _ => false)
theorem jx_gin {w : Cond} (j : Nat) (h : lw_tbl[j]? = some w) (hg : goodWord w = true) : w ∈ jx_gw := List.mem_filter.mpr ⟨List.mem_of_getElem? h, hg⟩
theorem jx_fl_ok : jx_fl.all (fun q => decide (lw_tbl[q.2.2.2.2]? = some (Cond.fieldLink (jx_cn q.1) q.2.1 (jx_F q.2.2.1 q.2.2.2.1).1 (jx_F q.2.2.1 q.2.2.2.1).2.1 (jx_F q.2.2.1 q.2.2.2.1).2.2.1)) && decide (q.2.2.2.1 < jx_N q.2.2.1)) = true := by decide +kernel
theorem jx_pl_ok : jx_pl.all (fun q => decide (lw_tbl[q.2.2.2.2.2]? = some (Cond.fieldLink (jx_cn q.1) q.2.1 (jx_F q.2.2.1 q.2.2.2.1).1 (jx_F q.2.2.1 q.2.2.2.1).2.1 (jx_F q.2.2.1 q.2.2.2.1).2.2.1)) && decide (q.2.2.2.1 < jx_N q.2.2.1) && decide ((jx_F q.2.2.1 q.2.2.2.1).2.2.2 = false) && decide (parseFieldDescriptor (jx_F q.2.2.1 q.2.2.2.1).2.2.1 = some (if q.2.2.2.2.1 = 1 then .boolean else .int))) = true := by decide +kernel
theorem jx_cs_ok : jx_cs.all (fun q => decide (lw_tbl[q.2.2.2]? = some (Cond.constant (jx_cn q.1) q.2.1 (Int32.ofInt q.2.2.1))) && decide (jx_r q.2.2.1)) = true := by decide +kernel
theorem jx_cpl_ok : jx_cpl.all (fun q => decide (lw_tbl[q.2.2]? = some (Cond.methodLink (jx_cn q.1) q.2.1 arraycopyName))) = true := by decide +kernel
theorem jx_maxl_ok : jx_maxl.all (fun q => decide (lw_tbl[q.2.2]? = some (Cond.methodLink (jx_cn q.1) q.2.1 Lib.Math.max.name))) = true := by decide +kernel
theorem jx_minl_ok : jx_minl.all (fun q => decide (lw_tbl[q.2.2]? = some (Cond.methodLink (jx_cn q.1) q.2.1 Lib.Math.min.name))) = true := by decide +kernel
theorem jx_max_w : Cond.static Lib.Math.max.name ∈ jx_gw ∧ Cond.code Lib.Math.max.name Lib.Math.max.code 2 (some .int) ∈ jx_gw := ⟨jx_gin 368 (by decide +kernel) rfl, jx_gin 369 (by decide +kernel) rfl⟩
theorem jx_min_w : Cond.static Lib.Math.min.name ∈ jx_gw ∧ Cond.code Lib.Math.min.name Lib.Math.min.code 2 (some .int) ∈ jx_gw := ⟨jx_gin 329 (by decide +kernel) rfl, jx_gin 330 (by decide +kernel) rfl⟩
theorem jx_math_w : Cond.initialized "java/lang/Math" ∈ jx_gw := jx_gin 49 (by decide +kernel) rfl
theorem jx_cp_w : Cond.native arraycopyName ∈ jx_gw ∧ Cond.static arraycopyName ∈ jx_gw ∧ Cond.initialized "java/lang/System" ∈ jx_gw := ⟨jx_gin 326 (by decide +kernel) rfl, jx_gin 325 (by decide +kernel) rfl, jx_gin 48 (by decide +kernel) rfl⟩
theorem jx_ml_ok : jx_ml.all (fun q => decide (lw_tbl[q.2.2.2.2]? = some (Cond.methodLink (jx_cn q.1) q.2.1 (jx_m q.2.2.1).1)) && decide (q.2.2.1 < 128)) = true := by decide +kernel
/-- what is asked of a method's row; js: the places of its own words: code, initialized, then instanceMethod and selects, or static (st) -/
def jx_mok (y : Nat) (st : Bool) : Prop := Cond.code (jx_m y).1 (jx_m y).2.1 (jx_m y).2.2.1 (jx_m y).2.2.2.1 ∈ jx_gw ∧ Cond.initialized (jx_m y).1.cls ∈ jx_gw ∧ (if st then Cond.static (jx_m y).1 ∈ jx_gw else Cond.instanceMethod (jx_m y).1 ∈ jx_gw ∧ Cond.selects (jx_m y).1.cls (jx_m y).1 (jx_m y).1 ∈ jx_gw) ∧
  (plainName (jx_m y).1.cls = true ∧ (jx_m y).1.cls ≠ "java/lang/invoke/MethodHandle" ∧ (jx_m y).1.cls ≠ "java/lang/invoke/VarHandle" ∧ (parseMethodDescriptor (jx_m y).1.desc).map (fun d => d.parameters.length) = some (jx_m y).2.2.2.2.2.1 ∧ jx_cn (jx_m y).2.2.2.2.1 = (jx_m y).1.cls ∧ (jx_m y).2.2.1 ≤ 17 ∧ (jx_T y).1 = (jx_m y).2.2.1 ∧ (jx_m y).2.2.2.2.2.2.getD 0 0 = 0) ∧ jx_chk y = true
theorem mo_D_copyFrom : jx_mok 0 false := ⟨jx_gin 323 (by decide +kernel) rfl, jx_gin 42 (by decide +kernel) rfl, ⟨jx_gin 321 (by decide +kernel) rfl, jx_gin 322 (by decide +kernel) rfl⟩, by decide +kernel, by decide +kernel⟩
theorem mo_D_append : jx_mok 1 false := ⟨jx_gin 334 (by decide +kernel) rfl, jx_gin 42 (by decide +kernel) rfl, ⟨jx_gin 332 (by decide +kernel) rfl, jx_gin 333 (by decide +kernel) rfl⟩, by decide +kernel, by decide +kernel⟩
theorem mo_D_drop : jx_mok 2 false := ⟨jx_gin 346 (by decide +kernel) rfl, jx_gin 42 (by decide +kernel) rfl, ⟨jx_gin 344 (by decide +kernel) rfl, jx_gin 345 (by decide +kernel) rfl⟩, by decide +kernel, by decide +kernel⟩
theorem mo_D_moveDown : jx_mok 3 false := ⟨jx_gin 350 (by decide +kernel) rfl, jx_gin 42 (by decide +kernel) rfl, ⟨jx_gin 349 (by decide +kernel) rfl, jx_gin 2 (by decide +kernel) rfl⟩, by decide +kernel, by decide +kernel⟩
theorem mo_D_beginsWith : jx_mok 4 false := ⟨jx_gin 298 (by decide +kernel) rfl, jx_gin 42 (by decide +kernel) rfl, ⟨jx_gin 296 (by decide +kernel) rfl, jx_gin 297 (by decide +kernel) rfl⟩, by decide +kernel, by decide +kernel⟩
theorem mo_D_holds : jx_mok 5 false := ⟨jx_gin 294 (by decide +kernel) rfl, jx_gin 42 (by decide +kernel) rfl, ⟨jx_gin 292 (by decide +kernel) rfl, jx_gin 293 (by decide +kernel) rfl⟩, by decide +kernel, by decide +kernel⟩
theorem mo_D_presentCost : jx_mok 6 false := ⟨jx_gin 366 (by decide +kernel) rfl, jx_gin 42 (by decide +kernel) rfl, ⟨jx_gin 364 (by decide +kernel) rfl, jx_gin 365 (by decide +kernel) rfl⟩, by decide +kernel, by decide +kernel⟩
theorem mo_D_learn : jx_mok 7 false := ⟨jx_gin 597 (by decide +kernel) rfl, jx_gin 42 (by decide +kernel) rfl, ⟨jx_gin 595 (by decide +kernel) rfl, jx_gin 596 (by decide +kernel) rfl⟩, by decide +kernel, by decide +kernel⟩
theorem mo_D_sumOfUses : jx_mok 8 false := ⟨jx_gin 605 (by decide +kernel) rfl, jx_gin 42 (by decide +kernel) rfl, ⟨jx_gin 603 (by decide +kernel) rfl, jx_gin 604 (by decide +kernel) rfl⟩, by decide +kernel, by decide +kernel⟩
theorem mo_H_keep : jx_mok 9 false := ⟨jx_gin 315 (by decide +kernel) rfl, jx_gin 45 (by decide +kernel) rfl, ⟨jx_gin 313 (by decide +kernel) rfl, jx_gin 314 (by decide +kernel) rfl⟩, by decide +kernel, by decide +kernel⟩
theorem mo_H_bringBack : jx_mok 10 false := ⟨jx_gin 614 (by decide +kernel) rfl, jx_gin 45 (by decide +kernel) rfl, ⟨jx_gin 612 (by decide +kernel) rfl, jx_gin 613 (by decide +kernel) rfl⟩, by decide +kernel, by decide +kernel⟩
theorem mo_L_build : jx_mok 11 false := ⟨jx_gin 438 (by decide +kernel) rfl, jx_gin 43 (by decide +kernel) rfl, ⟨jx_gin 436 (by decide +kernel) rfl, jx_gin 437 (by decide +kernel) rfl⟩, by decide +kernel, by decide +kernel⟩
theorem mo_L_sortByLength : jx_mok 12 false := ⟨jx_gin 442 (by decide +kernel) rfl, jx_gin 43 (by decide +kernel) rfl, ⟨jx_gin 441 (by decide +kernel) rfl, jx_gin 6 (by decide +kernel) rfl⟩, by decide +kernel, by decide +kernel⟩
theorem mo_L_addEntriesAt : jx_mok 13 false := ⟨jx_gin 447 (by decide +kernel) rfl, jx_gin 43 (by decide +kernel) rfl, ⟨jx_gin 446 (by decide +kernel) rfl, jx_gin 7 (by decide +kernel) rfl⟩, by decide +kernel, by decide +kernel⟩
theorem mo_L_addSlot : jx_mok 14 false := ⟨jx_gin 453 (by decide +kernel) rfl, jx_gin 43 (by decide +kernel) rfl, ⟨jx_gin 452 (by decide +kernel) rfl, jx_gin 8 (by decide +kernel) rfl⟩, by decide +kernel, by decide +kernel⟩
theorem mo_L_stateBehind : jx_mok 15 false := ⟨jx_gin 471 (by decide +kernel) rfl, jx_gin 43 (by decide +kernel) rfl, ⟨jx_gin 469 (by decide +kernel) rfl, jx_gin 470 (by decide +kernel) rfl⟩, by decide +kernel, by decide +kernel⟩
theorem mo_M_copyFrom : jx_mok 16 false := ⟨jx_gin 319 (by decide +kernel) rfl, jx_gin 41 (by decide +kernel) rfl, ⟨jx_gin 317 (by decide +kernel) rfl, jx_gin 318 (by decide +kernel) rfl⟩, by decide +kernel, by decide +kernel⟩
theorem mo_M_takeInput : jx_mok 17 false := ⟨jx_gin 399 (by decide +kernel) rfl, jx_gin 41 (by decide +kernel) rfl, ⟨jx_gin 397 (by decide +kernel) rfl, jx_gin 398 (by decide +kernel) rfl⟩, by decide +kernel, by decide +kernel⟩
theorem mo_M_connection : jx_mok 18 false := ⟨jx_gin 386 (by decide +kernel) rfl, jx_gin 41 (by decide +kernel) rfl, ⟨jx_gin 384 (by decide +kernel) rfl, jx_gin 385 (by decide +kernel) rfl⟩, by decide +kernel, by decide +kernel⟩
theorem mo_M_standsAt : jx_mok 19 false := ⟨jx_gin 426 (by decide +kernel) rfl, jx_gin 41 (by decide +kernel) rfl, ⟨jx_gin 424 (by decide +kernel) rfl, jx_gin 425 (by decide +kernel) rfl⟩, by decide +kernel, by decide +kernel⟩
theorem mo_M_allowsSegment : jx_mok 20 false := ⟨jx_gin 457 (by decide +kernel) rfl, jx_gin 41 (by decide +kernel) rfl, ⟨jx_gin 455 (by decide +kernel) rfl, jx_gin 456 (by decide +kernel) rfl⟩, by decide +kernel, by decide +kernel⟩
theorem mo_R_build : jx_mok 21 false := ⟨jx_gin 461 (by decide +kernel) rfl, jx_gin 46 (by decide +kernel) rfl, ⟨jx_gin 459 (by decide +kernel) rfl, jx_gin 460 (by decide +kernel) rfl⟩, by decide +kernel, by decide +kernel⟩
theorem mo_R_findLeastTo : jx_mok 22 false := ⟨jx_gin 465 (by decide +kernel) rfl, jx_gin 46 (by decide +kernel) rfl, ⟨jx_gin 464 (by decide +kernel) rfl, jx_gin 9 (by decide +kernel) rfl⟩, by decide +kernel, by decide +kernel⟩
theorem mo_R_leastBefore : jx_mok 23 false := ⟨jx_gin 475 (by decide +kernel) rfl, jx_gin 46 (by decide +kernel) rfl, ⟨jx_gin 474 (by decide +kernel) rfl, jx_gin 10 (by decide +kernel) rfl⟩, by decide +kernel, by decide +kernel⟩
theorem mo_R_countPaths : jx_mok 24 false := ⟨jx_gin 481 (by decide +kernel) rfl, jx_gin 46 (by decide +kernel) rfl, ⟨jx_gin 480 (by decide +kernel) rfl, jx_gin 11 (by decide +kernel) rfl⟩, by decide +kernel, by decide +kernel⟩
theorem mo_R_cappedSum : jx_mok 25 true := ⟨jx_gin 484 (by decide +kernel) rfl, jx_gin 46 (by decide +kernel) rfl, jx_gin 483 (by decide +kernel) rfl, by decide +kernel, by decide +kernel⟩
theorem mo_R_listEnds : jx_mok 26 false := ⟨jx_gin 489 (by decide +kernel) rfl, jx_gin 46 (by decide +kernel) rfl, ⟨jx_gin 488 (by decide +kernel) rfl, jx_gin 12 (by decide +kernel) rfl⟩, by decide +kernel, by decide +kernel⟩
theorem mo_R_listState : jx_mok 27 false := ⟨jx_gin 493 (by decide +kernel) rfl, jx_gin 46 (by decide +kernel) rfl, ⟨jx_gin 492 (by decide +kernel) rfl, jx_gin 13 (by decide +kernel) rfl⟩, by decide +kernel, by decide +kernel⟩
theorem mo_R_openHeads : jx_mok 28 false := ⟨jx_gin 497 (by decide +kernel) rfl, jx_gin 46 (by decide +kernel) rfl, ⟨jx_gin 496 (by decide +kernel) rfl, jx_gin 14 (by decide +kernel) rfl⟩, by decide +kernel, by decide +kernel⟩
theorem mo_R_leastFrom : jx_mok 29 false := ⟨jx_gin 501 (by decide +kernel) rfl, jx_gin 46 (by decide +kernel) rfl, ⟨jx_gin 500 (by decide +kernel) rfl, jx_gin 15 (by decide +kernel) rfl⟩, by decide +kernel, by decide +kernel⟩
theorem mo_R_countBestWays : jx_mok 30 false := ⟨jx_gin 505 (by decide +kernel) rfl, jx_gin 46 (by decide +kernel) rfl, ⟨jx_gin 504 (by decide +kernel) rfl, jx_gin 16 (by decide +kernel) rfl⟩, by decide +kernel, by decide +kernel⟩
theorem mo_R_cheapestHead : jx_mok 31 false := ⟨jx_gin 509 (by decide +kernel) rfl, jx_gin 46 (by decide +kernel) rfl, ⟨jx_gin 508 (by decide +kernel) rfl, jx_gin 17 (by decide +kernel) rfl⟩, by decide +kernel, by decide +kernel⟩
theorem mo_R_takeHead : jx_mok 32 false := ⟨jx_gin 513 (by decide +kernel) rfl, jx_gin 46 (by decide +kernel) rfl, ⟨jx_gin 512 (by decide +kernel) rfl, jx_gin 18 (by decide +kernel) rfl⟩, by decide +kernel, by decide +kernel⟩
theorem mo_R_allPaths : jx_mok 33 false := ⟨jx_gin 517 (by decide +kernel) rfl, jx_gin 46 (by decide +kernel) rfl, ⟨jx_gin 515 (by decide +kernel) rfl, jx_gin 516 (by decide +kernel) rfl⟩, by decide +kernel, by decide +kernel⟩
theorem mo_R_bestPaths : jx_mok 34 false := ⟨jx_gin 585 (by decide +kernel) rfl, jx_gin 46 (by decide +kernel) rfl, ⟨jx_gin 583 (by decide +kernel) rfl, jx_gin 584 (by decide +kernel) rfl⟩, by decide +kernel, by decide +kernel⟩
theorem mo_R_hasRank : jx_mok 35 false := ⟨jx_gin 528 (by decide +kernel) rfl, jx_gin 46 (by decide +kernel) rfl, ⟨jx_gin 526 (by decide +kernel) rfl, jx_gin 527 (by decide +kernel) rfl⟩, by decide +kernel, by decide +kernel⟩
theorem mo_R_costAtRank : jx_mok 36 false := ⟨jx_gin 532 (by decide +kernel) rfl, jx_gin 46 (by decide +kernel) rfl, ⟨jx_gin 530 (by decide +kernel) rfl, jx_gin 531 (by decide +kernel) rfl⟩, by decide +kernel, by decide +kernel⟩
theorem mo_R_walk : jx_mok 37 false := ⟨jx_gin 540 (by decide +kernel) rfl, jx_gin 46 (by decide +kernel) rfl, ⟨jx_gin 538 (by decide +kernel) rfl, jx_gin 539 (by decide +kernel) rfl⟩, by decide +kernel, by decide +kernel⟩
theorem mo_R_trailHolds : jx_mok 38 false := ⟨jx_gin 593 (by decide +kernel) rfl, jx_gin 46 (by decide +kernel) rfl, ⟨jx_gin 591 (by decide +kernel) rfl, jx_gin 592 (by decide +kernel) rfl⟩, by decide +kernel, by decide +kernel⟩
theorem mo_R_leastThroughSlot : jx_mok 39 false := ⟨jx_gin 564 (by decide +kernel) rfl, jx_gin 46 (by decide +kernel) rfl, ⟨jx_gin 563 (by decide +kernel) rfl, jx_gin 20 (by decide +kernel) rfl⟩, by decide +kernel, by decide +kernel⟩
theorem mo_R_leastThroughEntry : jx_mok 40 false := ⟨jx_gin 560 (by decide +kernel) rfl, jx_gin 46 (by decide +kernel) rfl, ⟨jx_gin 558 (by decide +kernel) rfl, jx_gin 559 (by decide +kernel) rfl⟩, by decide +kernel, by decide +kernel⟩
theorem mo_R_leastEndingAt : jx_mok 41 false := ⟨jx_gin 573 (by decide +kernel) rfl, jx_gin 46 (by decide +kernel) rfl, ⟨jx_gin 571 (by decide +kernel) rfl, jx_gin 572 (by decide +kernel) rfl⟩, by decide +kernel, by decide +kernel⟩
theorem mo_R_leastCrossing : jx_mok 42 false := ⟨jx_gin 577 (by decide +kernel) rfl, jx_gin 46 (by decide +kernel) rfl, ⟨jx_gin 575 (by decide +kernel) rfl, jx_gin 576 (by decide +kernel) rfl⟩, by decide +kernel, by decide +kernel⟩
theorem mo_T_push : jx_mok 43 false := ⟨jx_gin 282 (by decide +kernel) rfl, jx_gin 44 (by decide +kernel) rfl, ⟨jx_gin 280 (by decide +kernel) rfl, jx_gin 281 (by decide +kernel) rfl⟩, by decide +kernel, by decide +kernel⟩
theorem mo_T_readingError : jx_mok 44 false := ⟨jx_gin 302 (by decide +kernel) rfl, jx_gin 44 (by decide +kernel) rfl, ⟨jx_gin 300 (by decide +kernel) rfl, jx_gin 301 (by decide +kernel) rfl⟩, by decide +kernel, by decide +kernel⟩
theorem mo_T_firstError : jx_mok 45 false := ⟨jx_gin 306 (by decide +kernel) rfl, jx_gin 44 (by decide +kernel) rfl, ⟨jx_gin 304 (by decide +kernel) rfl, jx_gin 305 (by decide +kernel) rfl⟩, by decide +kernel, by decide +kernel⟩
theorem mo_C_appendCharacter : jx_mok 46 false := ⟨jx_gin 275 (by decide +kernel) rfl, jx_gin 40 (by decide +kernel) rfl, ⟨jx_gin 273 (by decide +kernel) rfl, jx_gin 274 (by decide +kernel) rfl⟩, by decide +kernel, by decide +kernel⟩
theorem mo_C_clearText : jx_mok 47 false := ⟨jx_gin 286 (by decide +kernel) rfl, jx_gin 40 (by decide +kernel) rfl, ⟨jx_gin 284 (by decide +kernel) rfl, jx_gin 285 (by decide +kernel) rfl⟩, by decide +kernel, by decide +kernel⟩
theorem mo_C_addEntry : jx_mok 48 false := ⟨jx_gin 290 (by decide +kernel) rfl, jx_gin 40 (by decide +kernel) rfl, ⟨jx_gin 288 (by decide +kernel) rfl, jx_gin 289 (by decide +kernel) rfl⟩, by decide +kernel, by decide +kernel⟩
theorem mo_C_removeEntry : jx_mok 49 false := ⟨jx_gin 338 (by decide +kernel) rfl, jx_gin 40 (by decide +kernel) rfl, ⟨jx_gin 336 (by decide +kernel) rfl, jx_gin 337 (by decide +kernel) rfl⟩, by decide +kernel, by decide +kernel⟩
theorem mo_C_entryCount : jx_mok 50 false := ⟨jx_gin 354 (by decide +kernel) rfl, jx_gin 40 (by decide +kernel) rfl, ⟨jx_gin 352 (by decide +kernel) rfl, jx_gin 353 (by decide +kernel) rfl⟩, by decide +kernel, by decide +kernel⟩
theorem mo_C_wordOf : jx_mok 51 false := ⟨jx_gin 358 (by decide +kernel) rfl, jx_gin 40 (by decide +kernel) rfl, ⟨jx_gin 356 (by decide +kernel) rfl, jx_gin 357 (by decide +kernel) rfl⟩, by decide +kernel, by decide +kernel⟩
theorem mo_C_costOf : jx_mok 52 false := ⟨jx_gin 362 (by decide +kernel) rfl, jx_gin 40 (by decide +kernel) rfl, ⟨jx_gin 360 (by decide +kernel) rfl, jx_gin 361 (by decide +kernel) rfl⟩, by decide +kernel, by decide +kernel⟩
theorem mo_C_useCount : jx_mok 53 false := ⟨jx_gin 373 (by decide +kernel) rfl, jx_gin 40 (by decide +kernel) rfl, ⟨jx_gin 371 (by decide +kernel) rfl, jx_gin 372 (by decide +kernel) rfl⟩, by decide +kernel, by decide +kernel⟩
theorem mo_C_entriesWithPrefix : jx_mok 54 false := ⟨jx_gin 377 (by decide +kernel) rfl, jx_gin 40 (by decide +kernel) rfl, ⟨jx_gin 375 (by decide +kernel) rfl, jx_gin 376 (by decide +kernel) rfl⟩, by decide +kernel, by decide +kernel⟩
theorem mo_C_setConnection : jx_mok 55 false := ⟨jx_gin 382 (by decide +kernel) rfl, jx_gin 40 (by decide +kernel) rfl, ⟨jx_gin 380 (by decide +kernel) rfl, jx_gin 381 (by decide +kernel) rfl⟩, by decide +kernel, by decide +kernel⟩
theorem mo_C_setUnknownCost : jx_mok 56 false := ⟨jx_gin 390 (by decide +kernel) rfl, jx_gin 40 (by decide +kernel) rfl, ⟨jx_gin 388 (by decide +kernel) rfl, jx_gin 389 (by decide +kernel) rfl⟩, by decide +kernel, by decide +kernel⟩
theorem mo_C_setInput : jx_mok 57 false := ⟨jx_gin 394 (by decide +kernel) rfl, jx_gin 40 (by decide +kernel) rfl, ⟨jx_gin 392 (by decide +kernel) rfl, jx_gin 393 (by decide +kernel) rfl⟩, by decide +kernel, by decide +kernel⟩
theorem mo_C_inputLength : jx_mok 58 false := ⟨jx_gin 406 (by decide +kernel) rfl, jx_gin 40 (by decide +kernel) rfl, ⟨jx_gin 404 (by decide +kernel) rfl, jx_gin 405 (by decide +kernel) rfl⟩, by decide +kernel, by decide +kernel⟩
theorem mo_C_setConstraint : jx_mok 59 false := ⟨jx_gin 410 (by decide +kernel) rfl, jx_gin 40 (by decide +kernel) rfl, ⟨jx_gin 408 (by decide +kernel) rfl, jx_gin 409 (by decide +kernel) rfl⟩, by decide +kernel, by decide +kernel⟩
theorem mo_C_segmentsAt : jx_mok 60 false := ⟨jx_gin 418 (by decide +kernel) rfl, jx_gin 40 (by decide +kernel) rfl, ⟨jx_gin 416 (by decide +kernel) rfl, jx_gin 417 (by decide +kernel) rfl⟩, by decide +kernel, by decide +kernel⟩
theorem mo_C_pathCount : jx_mok 61 false := ⟨jx_gin 430 (by decide +kernel) rfl, jx_gin 40 (by decide +kernel) rfl, ⟨jx_gin 428 (by decide +kernel) rfl, jx_gin 429 (by decide +kernel) rfl⟩, by decide +kernel, by decide +kernel⟩
theorem mo_C_pathCost : jx_mok 62 false := ⟨jx_gin 521 (by decide +kernel) rfl, jx_gin 40 (by decide +kernel) rfl, ⟨jx_gin 519 (by decide +kernel) rfl, jx_gin 520 (by decide +kernel) rfl⟩, by decide +kernel, by decide +kernel⟩
theorem mo_C_segmentCount : jx_mok 63 false := ⟨jx_gin 536 (by decide +kernel) rfl, jx_gin 40 (by decide +kernel) rfl, ⟨jx_gin 534 (by decide +kernel) rfl, jx_gin 535 (by decide +kernel) rfl⟩, by decide +kernel, by decide +kernel⟩
theorem mo_C_segmentStart : jx_mok 64 false := ⟨jx_gin 544 (by decide +kernel) rfl, jx_gin 40 (by decide +kernel) rfl, ⟨jx_gin 542 (by decide +kernel) rfl, jx_gin 543 (by decide +kernel) rfl⟩, by decide +kernel, by decide +kernel⟩
theorem mo_C_segmentEntry : jx_mok 65 false := ⟨jx_gin 552 (by decide +kernel) rfl, jx_gin 40 (by decide +kernel) rfl, ⟨jx_gin 550 (by decide +kernel) rfl, jx_gin 551 (by decide +kernel) rfl⟩, by decide +kernel, by decide +kernel⟩
theorem mo_C_bestThrough : jx_mok 66 false := ⟨jx_gin 556 (by decide +kernel) rfl, jx_gin 40 (by decide +kernel) rfl, ⟨jx_gin 554 (by decide +kernel) rfl, jx_gin 555 (by decide +kernel) rfl⟩, by decide +kernel, by decide +kernel⟩
theorem mo_C_boundaryInBest : jx_mok 67 false := ⟨jx_gin 569 (by decide +kernel) rfl, jx_gin 40 (by decide +kernel) rfl, ⟨jx_gin 567 (by decide +kernel) rfl, jx_gin 568 (by decide +kernel) rfl⟩, by decide +kernel, by decide +kernel⟩
theorem mo_C_bestCount : jx_mok 68 false := ⟨jx_gin 581 (by decide +kernel) rfl, jx_gin 40 (by decide +kernel) rfl, ⟨jx_gin 579 (by decide +kernel) rfl, jx_gin 580 (by decide +kernel) rfl⟩, by decide +kernel, by decide +kernel⟩
theorem mo_C_choose : jx_mok 69 false := ⟨jx_gin 589 (by decide +kernel) rfl, jx_gin 40 (by decide +kernel) rfl, ⟨jx_gin 587 (by decide +kernel) rfl, jx_gin 588 (by decide +kernel) rfl⟩, by decide +kernel, by decide +kernel⟩
theorem mo_C_forget : jx_mok 70 false := ⟨jx_gin 601 (by decide +kernel) rfl, jx_gin 40 (by decide +kernel) rfl, ⟨jx_gin 599 (by decide +kernel) rfl, jx_gin 600 (by decide +kernel) rfl⟩, by decide +kernel, by decide +kernel⟩
theorem mo_C_undo : jx_mok 71 false := ⟨jx_gin 610 (by decide +kernel) rfl, jx_gin 40 (by decide +kernel) rfl, ⟨jx_gin 608 (by decide +kernel) rfl, jx_gin 609 (by decide +kernel) rfl⟩, by decide +kernel, by decide +kernel⟩
theorem mo_C_beginEdit : jx_mok 72 false := ⟨jx_gin 311 (by decide +kernel) rfl, jx_gin 40 (by decide +kernel) rfl, ⟨jx_gin 310 (by decide +kernel) rfl, jx_gin 0 (by decide +kernel) rfl⟩, by decide +kernel, by decide +kernel⟩
theorem mo_C_presentPaths : jx_mok 73 false := ⟨jx_gin 434 (by decide +kernel) rfl, jx_gin 40 (by decide +kernel) rfl, ⟨jx_gin 433 (by decide +kernel) rfl, jx_gin 5 (by decide +kernel) rfl⟩, by decide +kernel, by decide +kernel⟩
theorem mo_C_findSegment : jx_mok 74 false := ⟨jx_gin 548 (by decide +kernel) rfl, jx_gin 40 (by decide +kernel) rfl, ⟨jx_gin 547 (by decide +kernel) rfl, jx_gin 19 (by decide +kernel) rfl⟩, by decide +kernel, by decide +kernel⟩
theorem mo_C_isNoEntry : jx_mok 75 false := ⟨jx_gin 342 (by decide +kernel) rfl, jx_gin 40 (by decide +kernel) rfl, ⟨jx_gin 341 (by decide +kernel) rfl, jx_gin 1 (by decide +kernel) rfl⟩, by decide +kernel, by decide +kernel⟩
theorem mo_C_isNoGap : jx_mok 76 false := ⟨jx_gin 422 (by decide +kernel) rfl, jx_gin 40 (by decide +kernel) rfl, ⟨jx_gin 421 (by decide +kernel) rfl, jx_gin 4 (by decide +kernel) rfl⟩, by decide +kernel, by decide +kernel⟩
theorem mo_C_isNoInnerGap : jx_mok 77 false := ⟨jx_gin 414 (by decide +kernel) rfl, jx_gin 40 (by decide +kernel) rfl, ⟨jx_gin 413 (by decide +kernel) rfl, jx_gin 3 (by decide +kernel) rfl⟩, by decide +kernel, by decide +kernel⟩
theorem mo_C_isNoRank : jx_mok 78 true := ⟨jx_gin 524 (by decide +kernel) rfl, jx_gin 40 (by decide +kernel) rfl, jx_gin 523 (by decide +kernel) rfl, by decide +kernel, by decide +kernel⟩
theorem mo_C_isOutside : jx_mok 79 true := ⟨jx_gin 278 (by decide +kernel) rfl, jx_gin 40 (by decide +kernel) rfl, jx_gin 277 (by decide +kernel) rfl, by decide +kernel, by decide +kernel⟩
theorem mo_F_in : jx_mok 80 true := ⟨jx_gin 690 (by decide +kernel) rfl, jx_gin 47 (by decide +kernel) rfl, jx_gin 689 (by decide +kernel) rfl, by decide +kernel, by decide +kernel⟩
theorem mo_F_save : jx_mok 81 false := ⟨jx_gin 713 (by decide +kernel) rfl, jx_gin 47 (by decide +kernel) rfl, ⟨jx_gin 712 (by decide +kernel) rfl, jx_gin 23 (by decide +kernel) rfl⟩, by decide +kernel, by decide +kernel⟩
theorem mo_F_undo : jx_mok 82 false := ⟨jx_gin 683 (by decide +kernel) rfl, jx_gin 47 (by decide +kernel) rfl, ⟨jx_gin 681 (by decide +kernel) rfl, jx_gin 682 (by decide +kernel) rfl⟩, by decide +kernel, by decide +kernel⟩
theorem mo_F_appendCharacter : jx_mok 83 false := ⟨jx_gin 687 (by decide +kernel) rfl, jx_gin 47 (by decide +kernel) rfl, ⟨jx_gin 685 (by decide +kernel) rfl, jx_gin 686 (by decide +kernel) rfl⟩, by decide +kernel, by decide +kernel⟩
theorem mo_F_clearText : jx_mok 84 false := ⟨jx_gin 694 (by decide +kernel) rfl, jx_gin 47 (by decide +kernel) rfl, ⟨jx_gin 692 (by decide +kernel) rfl, jx_gin 693 (by decide +kernel) rfl⟩, by decide +kernel, by decide +kernel⟩
theorem mo_F_fault : jx_mok 85 false := ⟨jx_gin 709 (by decide +kernel) rfl, jx_gin 47 (by decide +kernel) rfl, ⟨jx_gin 708 (by decide +kernel) rfl, jx_gin 22 (by decide +kernel) rfl⟩, by decide +kernel, by decide +kernel⟩
theorem mo_F_at : jx_mok 86 true := ⟨jx_gin 701 (by decide +kernel) rfl, jx_gin 47 (by decide +kernel) rfl, jx_gin 700 (by decide +kernel) rfl, by decide +kernel, by decide +kernel⟩
theorem mo_F_isEntry : jx_mok 87 false := ⟨jx_gin 721 (by decide +kernel) rfl, jx_gin 47 (by decide +kernel) rfl, ⟨jx_gin 720 (by decide +kernel) rfl, jx_gin 24 (by decide +kernel) rfl⟩, by decide +kernel, by decide +kernel⟩
theorem mo_F_begins : jx_mok 88 false := ⟨jx_gin 705 (by decide +kernel) rfl, jx_gin 47 (by decide +kernel) rfl, ⟨jx_gin 704 (by decide +kernel) rfl, jx_gin 21 (by decide +kernel) rfl⟩, by decide +kernel, by decide +kernel⟩
theorem mo_F_addEntry : jx_mok 89 false := ⟨jx_gin 698 (by decide +kernel) rfl, jx_gin 47 (by decide +kernel) rfl, ⟨jx_gin 696 (by decide +kernel) rfl, jx_gin 697 (by decide +kernel) rfl⟩, by decide +kernel, by decide +kernel⟩
theorem mo_F_removeEntry : jx_mok 90 false := ⟨jx_gin 717 (by decide +kernel) rfl, jx_gin 47 (by decide +kernel) rfl, ⟨jx_gin 715 (by decide +kernel) rfl, jx_gin 716 (by decide +kernel) rfl⟩, by decide +kernel, by decide +kernel⟩
theorem mo_F_entryCount : jx_mok 91 false := ⟨jx_gin 725 (by decide +kernel) rfl, jx_gin 47 (by decide +kernel) rfl, ⟨jx_gin 723 (by decide +kernel) rfl, jx_gin 724 (by decide +kernel) rfl⟩, by decide +kernel, by decide +kernel⟩
theorem mo_F_wordOf : jx_mok 92 false := ⟨jx_gin 729 (by decide +kernel) rfl, jx_gin 47 (by decide +kernel) rfl, ⟨jx_gin 727 (by decide +kernel) rfl, jx_gin 728 (by decide +kernel) rfl⟩, by decide +kernel, by decide +kernel⟩
theorem mo_F_price : jx_mok 93 false := ⟨jx_gin 737 (by decide +kernel) rfl, jx_gin 47 (by decide +kernel) rfl, ⟨jx_gin 736 (by decide +kernel) rfl, jx_gin 25 (by decide +kernel) rfl⟩, by decide +kernel, by decide +kernel⟩
theorem mo_F_costOf : jx_mok 94 false := ⟨jx_gin 733 (by decide +kernel) rfl, jx_gin 47 (by decide +kernel) rfl, ⟨jx_gin 731 (by decide +kernel) rfl, jx_gin 732 (by decide +kernel) rfl⟩, by decide +kernel, by decide +kernel⟩
theorem mo_F_useCount : jx_mok 95 false := ⟨jx_gin 741 (by decide +kernel) rfl, jx_gin 47 (by decide +kernel) rfl, ⟨jx_gin 739 (by decide +kernel) rfl, jx_gin 740 (by decide +kernel) rfl⟩, by decide +kernel, by decide +kernel⟩
theorem mo_F_entriesWithPrefix : jx_mok 96 false := ⟨jx_gin 745 (by decide +kernel) rfl, jx_gin 47 (by decide +kernel) rfl, ⟨jx_gin 743 (by decide +kernel) rfl, jx_gin 744 (by decide +kernel) rfl⟩, by decide +kernel, by decide +kernel⟩
theorem mo_F_changed : jx_mok 97 false := ⟨jx_gin 753 (by decide +kernel) rfl, jx_gin 47 (by decide +kernel) rfl, ⟨jx_gin 752 (by decide +kernel) rfl, jx_gin 26 (by decide +kernel) rfl⟩, by decide +kernel, by decide +kernel⟩
theorem mo_F_setConnection : jx_mok 98 false := ⟨jx_gin 749 (by decide +kernel) rfl, jx_gin 47 (by decide +kernel) rfl, ⟨jx_gin 747 (by decide +kernel) rfl, jx_gin 748 (by decide +kernel) rfl⟩, by decide +kernel, by decide +kernel⟩
theorem mo_F_setUnknownCost : jx_mok 99 false := ⟨jx_gin 757 (by decide +kernel) rfl, jx_gin 47 (by decide +kernel) rfl, ⟨jx_gin 755 (by decide +kernel) rfl, jx_gin 756 (by decide +kernel) rfl⟩, by decide +kernel, by decide +kernel⟩
theorem mo_F_setInput : jx_mok 100 false := ⟨jx_gin 761 (by decide +kernel) rfl, jx_gin 47 (by decide +kernel) rfl, ⟨jx_gin 759 (by decide +kernel) rfl, jx_gin 760 (by decide +kernel) rfl⟩, by decide +kernel, by decide +kernel⟩
theorem mo_F_inputLength : jx_mok 101 false := ⟨jx_gin 765 (by decide +kernel) rfl, jx_gin 47 (by decide +kernel) rfl, ⟨jx_gin 763 (by decide +kernel) rfl, jx_gin 764 (by decide +kernel) rfl⟩, by decide +kernel, by decide +kernel⟩
theorem mo_F_setConstraint : jx_mok 102 false := ⟨jx_gin 769 (by decide +kernel) rfl, jx_gin 47 (by decide +kernel) rfl, ⟨jx_gin 767 (by decide +kernel) rfl, jx_gin 768 (by decide +kernel) rfl⟩, by decide +kernel, by decide +kernel⟩
theorem mo_F_stands : jx_mok 103 false := ⟨jx_gin 777 (by decide +kernel) rfl, jx_gin 47 (by decide +kernel) rfl, ⟨jx_gin 776 (by decide +kernel) rfl, jx_gin 27 (by decide +kernel) rfl⟩, by decide +kernel, by decide +kernel⟩
theorem mo_F_segmentsAt : jx_mok 104 false := ⟨jx_gin 773 (by decide +kernel) rfl, jx_gin 47 (by decide +kernel) rfl, ⟨jx_gin 771 (by decide +kernel) rfl, jx_gin 772 (by decide +kernel) rfl⟩, by decide +kernel, by decide +kernel⟩
theorem mo_F_mayCover : jx_mok 105 false := ⟨jx_gin 797 (by decide +kernel) rfl, jx_gin 47 (by decide +kernel) rfl, ⟨jx_gin 796 (by decide +kernel) rfl, jx_gin 31 (by decide +kernel) rfl⟩, by decide +kernel, by decide +kernel⟩
theorem mo_F_findSegments : jx_mok 106 false := ⟨jx_gin 793 (by decide +kernel) rfl, jx_gin 47 (by decide +kernel) rfl, ⟨jx_gin 792 (by decide +kernel) rfl, jx_gin 30 (by decide +kernel) rfl⟩, by decide +kernel, by decide +kernel⟩
theorem mo_F_endOf : jx_mok 107 false := ⟨jx_gin 801 (by decide +kernel) rfl, jx_gin 47 (by decide +kernel) rfl, ⟨jx_gin 800 (by decide +kernel) rfl, jx_gin 32 (by decide +kernel) rfl⟩, by decide +kernel, by decide +kernel⟩
theorem mo_F_classOf : jx_mok 108 false := ⟨jx_gin 813 (by decide +kernel) rfl, jx_gin 47 (by decide +kernel) rfl, ⟨jx_gin 812 (by decide +kernel) rfl, jx_gin 34 (by decide +kernel) rfl⟩, by decide +kernel, by decide +kernel⟩
theorem mo_F_segmentCost : jx_mok 109 false := ⟨jx_gin 817 (by decide +kernel) rfl, jx_gin 47 (by decide +kernel) rfl, ⟨jx_gin 816 (by decide +kernel) rfl, jx_gin 35 (by decide +kernel) rfl⟩, by decide +kernel, by decide +kernel⟩
theorem mo_F_between : jx_mok 110 false := ⟨jx_gin 789 (by decide +kernel) rfl, jx_gin 47 (by decide +kernel) rfl, ⟨jx_gin 788 (by decide +kernel) rfl, jx_gin 29 (by decide +kernel) rfl⟩, by decide +kernel, by decide +kernel⟩
theorem mo_F_capped : jx_mok 111 true := ⟨jx_gin 804 (by decide +kernel) rfl, jx_gin 47 (by decide +kernel) rfl, jx_gin 803 (by decide +kernel) rfl, by decide +kernel, by decide +kernel⟩
theorem mo_F_insert : jx_mok 112 false := ⟨jx_gin 821 (by decide +kernel) rfl, jx_gin 47 (by decide +kernel) rfl, ⟨jx_gin 820 (by decide +kernel) rfl, jx_gin 36 (by decide +kernel) rfl⟩, by decide +kernel, by decide +kernel⟩
theorem mo_F_layPlace : jx_mok 113 false := ⟨jx_gin 809 (by decide +kernel) rfl, jx_gin 47 (by decide +kernel) rfl, ⟨jx_gin 808 (by decide +kernel) rfl, jx_gin 33 (by decide +kernel) rfl⟩, by decide +kernel, by decide +kernel⟩
theorem mo_F_lay : jx_mok 114 false := ⟨jx_gin 785 (by decide +kernel) rfl, jx_gin 47 (by decide +kernel) rfl, ⟨jx_gin 784 (by decide +kernel) rfl, jx_gin 28 (by decide +kernel) rfl⟩, by decide +kernel, by decide +kernel⟩
theorem mo_F_pathCount : jx_mok 115 false := ⟨jx_gin 781 (by decide +kernel) rfl, jx_gin 47 (by decide +kernel) rfl, ⟨jx_gin 779 (by decide +kernel) rfl, jx_gin 780 (by decide +kernel) rfl⟩, by decide +kernel, by decide +kernel⟩
theorem mo_F_pathCost : jx_mok 116 false := ⟨jx_gin 825 (by decide +kernel) rfl, jx_gin 47 (by decide +kernel) rfl, ⟨jx_gin 823 (by decide +kernel) rfl, jx_gin 824 (by decide +kernel) rfl⟩, by decide +kernel, by decide +kernel⟩
theorem mo_F_follow : jx_mok 117 false := ⟨jx_gin 833 (by decide +kernel) rfl, jx_gin 47 (by decide +kernel) rfl, ⟨jx_gin 832 (by decide +kernel) rfl, jx_gin 37 (by decide +kernel) rfl⟩, by decide +kernel, by decide +kernel⟩
theorem mo_F_segmentCount : jx_mok 118 false := ⟨jx_gin 829 (by decide +kernel) rfl, jx_gin 47 (by decide +kernel) rfl, ⟨jx_gin 827 (by decide +kernel) rfl, jx_gin 828 (by decide +kernel) rfl⟩, by decide +kernel, by decide +kernel⟩
theorem mo_F_segmentStart : jx_mok 119 false := ⟨jx_gin 837 (by decide +kernel) rfl, jx_gin 47 (by decide +kernel) rfl, ⟨jx_gin 835 (by decide +kernel) rfl, jx_gin 836 (by decide +kernel) rfl⟩, by decide +kernel, by decide +kernel⟩
theorem mo_F_segmentEntry : jx_mok 120 false := ⟨jx_gin 841 (by decide +kernel) rfl, jx_gin 47 (by decide +kernel) rfl, ⟨jx_gin 839 (by decide +kernel) rfl, jx_gin 840 (by decide +kernel) rfl⟩, by decide +kernel, by decide +kernel⟩
theorem mo_F_layAhead : jx_mok 121 false := ⟨jx_gin 849 (by decide +kernel) rfl, jx_gin 47 (by decide +kernel) rfl, ⟨jx_gin 848 (by decide +kernel) rfl, jx_gin 38 (by decide +kernel) rfl⟩, by decide +kernel, by decide +kernel⟩
theorem mo_F_bestThrough : jx_mok 122 false := ⟨jx_gin 845 (by decide +kernel) rfl, jx_gin 47 (by decide +kernel) rfl, ⟨jx_gin 843 (by decide +kernel) rfl, jx_gin 844 (by decide +kernel) rfl⟩, by decide +kernel, by decide +kernel⟩
theorem mo_F_boundaryInBest : jx_mok 123 false := ⟨jx_gin 854 (by decide +kernel) rfl, jx_gin 47 (by decide +kernel) rfl, ⟨jx_gin 852 (by decide +kernel) rfl, jx_gin 853 (by decide +kernel) rfl⟩, by decide +kernel, by decide +kernel⟩
theorem mo_F_bestCount : jx_mok 124 false := ⟨jx_gin 858 (by decide +kernel) rfl, jx_gin 47 (by decide +kernel) rfl, ⟨jx_gin 856 (by decide +kernel) rfl, jx_gin 857 (by decide +kernel) rfl⟩, by decide +kernel, by decide +kernel⟩
theorem mo_F_choose : jx_mok 125 false := ⟨jx_gin 862 (by decide +kernel) rfl, jx_gin 47 (by decide +kernel) rfl, ⟨jx_gin 860 (by decide +kernel) rfl, jx_gin 861 (by decide +kernel) rfl⟩, by decide +kernel, by decide +kernel⟩
theorem mo_F_forget : jx_mok 126 false := ⟨jx_gin 866 (by decide +kernel) rfl, jx_gin 47 (by decide +kernel) rfl, ⟨jx_gin 864 (by decide +kernel) rfl, jx_gin 865 (by decide +kernel) rfl⟩, by decide +kernel, by decide +kernel⟩
theorem mo_J_fill : jx_mok 127 true := ⟨jx_gin 402 (by decide +kernel) rfl, jx_gin 50 (by decide +kernel) rfl, jx_gin 401 (by decide +kernel) rfl, by decide +kernel, by decide +kernel⟩
def jx_st (y : Nat) : Bool := (([false, false, false, false, false, false, false, false, false, false, false, false, false, false, false, false, false, false, false, false, false, false, false, false, false, true, false, false, false, false, false, false, false, false, false, false, false, false, false, false, false, false, false, false, false, false, false, false, false, false, false, false, false, false, false, false, false, false, false, false, false, false, false, false, false, false, false, false, false, false, false, false, false, false, false, false, false, false, true, true, true, false, false, false, false, false, true, false, false, false, false, false, false, false, false, false, false, false, false, false, false, false, false, false, false, false, false, false, false, false, false, true, false, false, false, false, false, false, false, false, false, false, false, false, false, false, false, true] : List Bool)[y]?).getD false
theorem jx_mall : ∀ y, y < 128 → jx_mok y (jx_st y)
  | 0, _ => mo_D_copyFrom
  | 1, _ => mo_D_append
  | 2, _ => mo_D_drop
  | 3, _ => mo_D_moveDown
  | 4, _ => mo_D_beginsWith
  | 5, _ => mo_D_holds
  | 6, _ => mo_D_presentCost
  | 7, _ => mo_D_learn
  | 8, _ => mo_D_sumOfUses
  | 9, _ => mo_H_keep
  | 10, _ => mo_H_bringBack
  | 11, _ => mo_L_build
  | 12, _ => mo_L_sortByLength
  | 13, _ => mo_L_addEntriesAt
  | 14, _ => mo_L_addSlot
  | 15, _ => mo_L_stateBehind
  | 16, _ => mo_M_copyFrom
  | 17, _ => mo_M_takeInput
  | 18, _ => mo_M_connection
  | 19, _ => mo_M_standsAt
  | 20, _ => mo_M_allowsSegment
  | 21, _ => mo_R_build
  | 22, _ => mo_R_findLeastTo
  | 23, _ => mo_R_leastBefore
  | 24, _ => mo_R_countPaths
  | 25, _ => mo_R_cappedSum
  | 26, _ => mo_R_listEnds
  | 27, _ => mo_R_listState
  | 28, _ => mo_R_openHeads
  | 29, _ => mo_R_leastFrom
  | 30, _ => mo_R_countBestWays
  | 31, _ => mo_R_cheapestHead
  | 32, _ => mo_R_takeHead
  | 33, _ => mo_R_allPaths
  | 34, _ => mo_R_bestPaths
  | 35, _ => mo_R_hasRank
  | 36, _ => mo_R_costAtRank
  | 37, _ => mo_R_walk
  | 38, _ => mo_R_trailHolds
  | 39, _ => mo_R_leastThroughSlot
  | 40, _ => mo_R_leastThroughEntry
  | 41, _ => mo_R_leastEndingAt
  | 42, _ => mo_R_leastCrossing
  | 43, _ => mo_T_push
  | 44, _ => mo_T_readingError
  | 45, _ => mo_T_firstError
  | 46, _ => mo_C_appendCharacter
  | 47, _ => mo_C_clearText
  | 48, _ => mo_C_addEntry
  | 49, _ => mo_C_removeEntry
  | 50, _ => mo_C_entryCount
  | 51, _ => mo_C_wordOf
  | 52, _ => mo_C_costOf
  | 53, _ => mo_C_useCount
  | 54, _ => mo_C_entriesWithPrefix
  | 55, _ => mo_C_setConnection
  | 56, _ => mo_C_setUnknownCost
  | 57, _ => mo_C_setInput
  | 58, _ => mo_C_inputLength
  | 59, _ => mo_C_setConstraint
  | 60, _ => mo_C_segmentsAt
  | 61, _ => mo_C_pathCount
  | 62, _ => mo_C_pathCost
  | 63, _ => mo_C_segmentCount
  | 64, _ => mo_C_segmentStart
  | 65, _ => mo_C_segmentEntry
  | 66, _ => mo_C_bestThrough
  | 67, _ => mo_C_boundaryInBest
  | 68, _ => mo_C_bestCount
  | 69, _ => mo_C_choose
  | 70, _ => mo_C_forget
  | 71, _ => mo_C_undo
  | 72, _ => mo_C_beginEdit
  | 73, _ => mo_C_presentPaths
  | 74, _ => mo_C_findSegment
  | 75, _ => mo_C_isNoEntry
  | 76, _ => mo_C_isNoGap
  | 77, _ => mo_C_isNoInnerGap
  | 78, _ => mo_C_isNoRank
  | 79, _ => mo_C_isOutside
  | 80, _ => mo_F_in
  | 81, _ => mo_F_save
  | 82, _ => mo_F_undo
  | 83, _ => mo_F_appendCharacter
  | 84, _ => mo_F_clearText
  | 85, _ => mo_F_fault
  | 86, _ => mo_F_at
  | 87, _ => mo_F_isEntry
  | 88, _ => mo_F_begins
  | 89, _ => mo_F_addEntry
  | 90, _ => mo_F_removeEntry
  | 91, _ => mo_F_entryCount
  | 92, _ => mo_F_wordOf
  | 93, _ => mo_F_price
  | 94, _ => mo_F_costOf
  | 95, _ => mo_F_useCount
  | 96, _ => mo_F_entriesWithPrefix
  | 97, _ => mo_F_changed
  | 98, _ => mo_F_setConnection
  | 99, _ => mo_F_setUnknownCost
  | 100, _ => mo_F_setInput
  | 101, _ => mo_F_inputLength
  | 102, _ => mo_F_setConstraint
  | 103, _ => mo_F_stands
  | 104, _ => mo_F_segmentsAt
  | 105, _ => mo_F_mayCover
  | 106, _ => mo_F_findSegments
  | 107, _ => mo_F_endOf
  | 108, _ => mo_F_classOf
  | 109, _ => mo_F_segmentCost
  | 110, _ => mo_F_between
  | 111, _ => mo_F_capped
  | 112, _ => mo_F_insert
  | 113, _ => mo_F_layPlace
  | 114, _ => mo_F_lay
  | 115, _ => mo_F_pathCount
  | 116, _ => mo_F_pathCost
  | 117, _ => mo_F_follow
  | 118, _ => mo_F_segmentCount
  | 119, _ => mo_F_segmentStart
  | 120, _ => mo_F_segmentEntry
  | 121, _ => mo_F_layAhead
  | 122, _ => mo_F_bestThrough
  | 123, _ => mo_F_boundaryInBest
  | 124, _ => mo_F_bestCount
  | 125, _ => mo_F_choose
  | 126, _ => mo_F_forget
  | 127, _ => mo_J_fill
  | n + 128, h => absurd h (by omega)
end
section
/-! THE PURE MACHINE IS SOUND: a call that comes back there is met by the bytecode -/
theorem jx_sub {ws : List Cond} (ps : List Nat) (h : ws = ps.filterMap (fun i => lw_tbl[i]?)) (hg : ws.all goodWord = true) : ∀ w ∈ ws, w ∈ jx_gw := by
  intro w hw
  have h1 := List.all_eq_true.mp hg w hw
  rw [h] at hw
  obtain ⟨i, -, hi⟩ := List.mem_filterMap.mp hw
  exact List.mem_filter.mpr ⟨List.mem_of_getElem? hi, h1⟩
def jx_cls (ci : Nat) : Prop := ∃ (Cn : String) (T : u_T) (N : Nat) (ty0 : Nat → FieldType), vwCl[ci]? = some (Cn, T, N) ∧ jx_F ci = T ∧ jx_N ci = N ∧ (∀ w ∈ u_ws Cn T N, w ∈ jx_gw) ∧ (∀ k, k < N → parseFieldDescriptor (T k).2.2.1 = some (ty0 k)) ∧ (∀ a, a < N → ∀ b, b < N → a ≠ b → (T a).2.1 ≠ (T b).2.1)
theorem jx_cls0 : jx_cls 0 := ⟨RX0, TX0, 7, tyX0, rfl, rfl, rfl, jx_sub [86, 88, 90, 92, 94, 96, 98] (by decide +kernel) (by decide +kernel), tyX0_ok, nmX0⟩
theorem jx_cls1 : jx_cls 1 := ⟨RX1, TX1, 3, tyX1, rfl, rfl, rfl, jx_sub [194, 196, 198] (by decide +kernel) (by decide +kernel), tyX1_ok, nmX1⟩
theorem jx_cls2 : jx_cls 2 := ⟨RX2, TX2, 7, tyX2, rfl, rfl, rfl, jx_sub [148, 150, 152, 154, 156, 158, 160] (by decide +kernel) (by decide +kernel), tyX2_ok, nmX2⟩
theorem jx_cls3 : jx_cls 3 := ⟨RX3, TX3, 6, tyX3, rfl, rfl, rfl, jx_sub [117, 119, 121, 123, 125, 127] (by decide +kernel) (by decide +kernel), tyX3_ok, nmX3⟩
theorem jx_cls4 : jx_cls 4 := ⟨RX4, TX4, 14, tyX4, rfl, rfl, rfl, jx_sub [224, 226, 228, 230, 232, 234, 236, 238, 240, 242, 244, 246, 248, 250] (by decide +kernel) (by decide +kernel), tyX4_ok, nmX4⟩
theorem jx_cls5 : jx_cls 5 := ⟨RX5, TX5, 2, tyX5, rfl, rfl, rfl, jx_sub [176, 178] (by decide +kernel) (by decide +kernel), tyX5_ok, nmX5⟩
theorem jx_cls6 : jx_cls 6 := ⟨RX6, TX6, 6, tyX6, rfl, rfl, rfl, jx_sub [259, 261, 263, 265, 267, 269] (by decide +kernel) (by decide +kernel), tyX6_ok, nmX6⟩
theorem jx_cls7 : jx_cls 7 := ⟨RX7, TX7, 19, tyX7, rfl, rfl, rfl, jx_sub [640, 642, 644, 646, 648, 650, 652, 654, 656, 658, 660, 662, 664, 666, 668, 670, 672, 674, 676] (by decide +kernel) (by decide +kernel), tyX7_ok, nmX7⟩
theorem jx_clsA : ∀ ci, jx_N ci ≠ 0 → jx_cls ci
  | 0, _ => jx_cls0
  | 1, _ => jx_cls1
  | 2, _ => jx_cls2
  | 3, _ => jx_cls3
  | 4, _ => jx_cls4
  | 5, _ => jx_cls5
  | 6, _ => jx_cls6
  | 7, _ => jx_cls7
  | n + 8, h => absurd rfl h
theorem jx_npok : ∀ y, y < 128 → (jx_m y).2.2.2.2.2.1 + (if jx_st y then 0 else 1) ≤ (jx_T y).1 := by decide +kernel
theorem jx_mlst : jx_ml.all (fun q => jx_st q.2.2.1 == (q.2.2.2.1 == 1)) = true := by decide +kernel
theorem jx_nestst : jx_st jx_nest.2.2 = true ∧ jx_nest.2.2 < 128 := by decide +kernel
def jx_nw : Cond := Cond.methodLinkNest (jx_cn jx_nest.1) jx_nest.2.1 (jx_m jx_nest.2.2).1 "ReadingConverter"
def jx_ws (y : Nat) : List Cond := Cond.code (jx_m y).1 (jx_m y).2.1 (jx_m y).2.2.1 (jx_m y).2.2.2.1 :: jx_gw
def jx_rm (d : Nat) : Room := { frames := d, cells := 0, slots := 0, locals := 36 * d }
theorem jx_good : ∀ w ∈ jx_gw, w ∈ jx_gw ∧ ((w.onTables && w.keeps) = true ∨ ∃ ty, w = .arrayClass ty) := fun w h => ⟨h, good_of_word (List.mem_filter.mp h).2⟩
theorem jx_goodIn {y : Nat} (h : Cond.code (jx_m y).1 (jx_m y).2.1 (jx_m y).2.2.1 (jx_m y).2.2.2.1 ∈ jx_gw) : GoodIn jx_gw (jx_ws y) := by
  intro w hw
  rcases List.mem_cons.mp hw with rfl | hw
  · exact jx_good _ h
  · exact jx_good _ hw
def jx_lr (ad : Nat → Nat) (la : Array Slot) (nL : Nat) (ls : List jxV) : Prop := la.size = nL ∧ lv_wf la ∧ ∀ (i : Nat) (v : jxV), ls[i]? = some v → jx_ok v = true → la[i]? = some (.val (jx_v ad v))
def jx_kn (ad : Nat → Nat) (ls : List jxV) : List (Nat × Value) := (List.range ls.length).filterMap (fun i => match ls[i]? with
  | some v => if jx_ok v = true then some (i, jx_v ad v) else none
  | none => none)
theorem jx_kn_mem {ad : Nat → Nat} {ls : List jxV} {i : Nat} {v : jxV} (h : ls[i]? = some v) (ho : jx_ok v = true) : (i, jx_v ad v) ∈ jx_kn ad ls := by
  unfold jx_kn
  refine List.mem_filterMap.mpr ⟨i, List.mem_range.mpr (List.getElem?_eq_some_iff.mp h).1, ?_⟩
  rw [h]
  simp [ho]
theorem jx_kn_has {ad : Nat → Nat} {la : Array Slot} {nL : Nat} {ls : List jxV} (h : jx_lr ad la nL ls) : lv_has la nL (jx_kn ad ls) := by
  refine ⟨h.1, h.2.1, fun q hq => ?_⟩
  unfold jx_kn at hq
  obtain ⟨i, -, hi⟩ := List.mem_filterMap.mp hq
  cases hv : ls[i]? with
  | none => rw [hv] at hi; simp at hi
  | some v =>
    rw [hv] at hi
    by_cases ho : jx_ok v = true
    · simp [ho] at hi
      rw [← hi]
      exact h.2.2 i v hv ho
    · simp [ho] at hi
theorem jx_v_cat (ad : Nat → Nat) (v : jxV) : (jx_v ad v).category = 1 := by cases v <;> rfl
theorem jx_lr_store {ad : Nat → Nat} {la' : Array Slot} {nL a : Nat} {ls : List jxV} {v : jxV} (h' : lv_has la' nL ((a, jx_v ad v) :: (jx_kn ad ls).filter (fun q => !(q.1 == a) && !(q.1 + 1 == a && q.2.category == 2)))) : jx_lr ad la' nL (ls.set a v) := by
  refine ⟨h'.1, h'.2.1, fun i w hw ho => ?_⟩
  rw [List.getElem?_set] at hw
  by_cases hi : a = i
  · rw [if_pos hi] at hw
    subst hi
    by_cases hl : a < ls.length
    · rw [if_pos hl] at hw
      cases hw
      exact h'.2.2 (a, jx_v ad v) List.mem_cons_self
    · rw [if_neg hl] at hw
      cases hw
  · rw [if_neg hi] at hw
    refine h'.2.2 (i, jx_v ad w) (List.mem_cons_of_mem _ (List.mem_filter.mpr ⟨jx_kn_mem hw ho, ?_⟩))
    simp only [jx_v_cat]
    have : (i == a) = false := by simp; exact fun q => hi q.symm
    rw [this]
    simp
def jx_AW (p : Program) (l : Launch) (e : Env) (R : Room) (s : State) (m : MethodId) (args : Array Value) (below : List Frame) (meth : Method) (c : Code) (D : va_G) (ad : Nat → Nat) (cA : ClassId × ClassId × ClassId) (G : jxG) (n nL : Nat) (pcs : List Nat) (Q : State → Prop) : jxX := fun pc ls st M =>
  jx_rl ls → jx_rl st → jx_rM M → ls.length = nL → ∀ (H : Heap) (locs : List Loc) (la : Array Slot), jx_lr ad la nL ls → va_P D vwCl (jx_wl ad cA G n M) H → va_S (jx_A ad n) s.heap H locs → W p l e R s m args below meth c H locs 0 0 Q (F0 m (pcs.getD pc 0) la (st.map (jx_v ad)))
def jx_cx (p : Program) (s : State) (m : MethodId) (args : Array Value) (meth : Method) (c : Code) (D : va_G) (cA : ClassId × ClassId × ClassId) (y : Nat) : Prop :=
  p.tables.exec = Jvm.exec ∧ c.code = (jx_m y).2.1 ∧ c.maxLocals = (jx_m y).2.2.1 ∧ s.vm.findClass (jx_cn (jx_m y).2.2.2.2.1) = some m.cls ∧ meth.sig.returnType = (jx_m y).2.2.2.1 ∧ meth.locks = false ∧ (∀ w ∈ jx_gw, w.before args s = true) ∧ va_K D vwCl (jx_ty cA) s ∧ va_Nw jx_nw s
def jx_pre (D : va_G) (ad : Nat → Nat) (cA : ClassId × ClassId × ClassId) (G : jxG) (n : Nat) (as : List jxV) (M : jxM) : Array Value → State → Prop := va_Pc (as.map (jx_v ad)) (fun U => jx_rl as ∧ jx_rM M ∧ va_P D vwCl (jx_wl ad cA G n M) U.heap ∧ va_K D vwCl (jx_ty cA) U ∧ va_Nw jx_nw U)
def jx_post (D : va_G) (ad : Nat → Nat) (cA : ClassId × ClassId × ClassId) (G : jxG) (n : Nat) (K : jxK) : Array Value → State → Outcome → State → Prop := fun _ st oc t => (∃ (r : Option jxV) (M' : jxM), oc = .returned (r.map (jx_v ad)) ∧ K r M' ∧ (∀ v, r = some v → jx_rv v) ∧ jx_rM M' ∧ va_P D vwCl (jx_wl ad cA G n M') t.heap) ∧ va_F (jx_A ad n) st t
def jx_met (l : Launch) (D : va_G) (ad : Nat → Nat) (cA : ClassId × ClassId × ClassId) (G : jxG) (n d y : Nat) (as : List jxV) (M : jxM) (K : jxK) : Prop := Met l (jx_m y).1 (jx_ws y) (jx_rm d) (jx_pre D ad cA G n as M) (jx_post D ad cA G n K) 0 0 (jx_A ad n)
theorem jx_rl_cons {v : jxV} {l : List jxV} (h : jx_rv v) (hl : jx_rl l) : jx_rl (v :: l) := fun w hw => by
  rcases List.mem_cons.mp hw with rfl | hw
  · exact h
  · exact hl w hw
theorem jx_rl_tl {v : jxV} {l : List jxV} (h : jx_rl (v :: l)) : jx_rl l := fun w hw => h w (List.mem_cons_of_mem _ hw)
theorem jx_rl_hd {v : jxV} {l : List jxV} (h : jx_rl (v :: l)) : jx_rv v := h v List.mem_cons_self
theorem jx_rl_set {v : jxV} {l : List jxV} {a : Nat} (h : jx_rv v) (hl : jx_rl l) : jx_rl (l.set a v) := fun w hw => by
  rcases List.mem_or_eq_of_mem_set hw with hw | rfl
  · exact hl w hw
  · exact h
theorem jx_rM_up {M : jxM} {c : Nat} {x v : Int} (h : jx_rM M) (hv : jx_r v) : jx_rM (jx_up M c x v) := fun c' x' => by
  unfold jx_up
  split
  · exact hv
  · exact h c' x'
theorem jx_rM_cp {M : jxM} {a b : Nat} {sp dp k : Int} (h : jx_rM M) : jx_rM (jx_cp M a sp b dp k) := fun c' x' => by
  unfold jx_cp
  split
  · exact h _ _
  · exact h c' x'
theorem jx_up_off {M : jxM} {c : Nat} {x v : Int} : ∀ c' x', c' ≠ c → jx_up M c x v c' x' = M c' x' := fun c' x' h => by
  unfold jx_up
  rw [if_neg (fun q => h q.1)]
theorem jx_cp_off {M : jxM} {a b : Nat} {sp dp k : Int} : ∀ c' x', c' ≠ b → jx_cp M a sp b dp k c' x' = M c' x' := fun c' x' h => by
  unfold jx_cp
  rw [if_neg (fun q => h q.1)]
theorem jx_ent_put {ad : Nat → Nat} {cA : ClassId × ClassId × ClassId} {G : jxG} {M : jxM} {c ci k : Nat} {v : Int} (h : G.1 c = (0, ci)) (h2 : G.2 c k = 0) : jx_ent ad cA G (jx_up M c k v) c = .inr (ci, ((List.range (jx_N ci)).map (fun j => if G.2 c j = 0 then Value.int (Int32.ofInt (M c j)) else Value.ref (ad (G.2 c j)))).set k (.int (Int32.ofInt v))) := by
  unfold jx_ent
  rw [h]
  simp only
  congr 2
  apply List.ext_getElem?
  intro j
  rw [List.getElem?_set, List.getElem?_map, List.getElem?_map]
  by_cases hj : k = j
  · subst hj
    rw [if_pos rfl, List.length_map, List.length_range]
    by_cases hl : k < jx_N ci
    · rw [if_pos hl, List.getElem?_range hl]
      simp [jx_up, h2]
    · rw [if_neg hl, List.getElem?_eq_none (by simpa using hl)]
      rfl
  · rw [if_neg hj]
    by_cases hl : j < jx_N ci
    · rw [List.getElem?_range hl]
      have : ¬ ((j : Int) = (k : Int)) := by omega
      simp [jx_up, this]
    · rw [List.getElem?_eq_none (by simpa using hl)]
      rfl
theorem jx_arr_up {M : jxM} {c : Nat} {x v : Int} (h0 : 0 ≤ x) : (fun j : Nat => Int32.ofInt (jx_up M c x v c j)) = upd (fun j : Nat => Int32.ofInt (M c j)) x.toNat (Int32.ofInt v) := by
  funext j
  unfold jx_up upd
  by_cases hj : j = x.toNat
  · rw [if_pos hj, if_pos ⟨rfl, by omega⟩]
  · rw [if_neg hj, if_neg (fun q => hj (by have := q.2; omega))]
theorem jx_arr_cp {M : jxM} {a c : Nat} {sp dp k : Int} (h0 : 0 ≤ sp) (h1 : 0 ≤ dp) (h2 : 0 ≤ k) : (fun j : Nat => Int32.ofInt (jx_cp M a sp c dp k c j)) = va_cpy (fun j : Nat => Int32.ofInt (M a j)) (fun j : Nat => Int32.ofInt (M c j)) sp.toNat dp.toNat k.toNat := by
  funext j
  unfold jx_cp va_cpy
  by_cases hj : dp.toNat ≤ j ∧ j < dp.toNat + k.toNat
  · rw [if_pos hj, if_pos ⟨rfl, by omega, by omega⟩]
    show Int32.ofInt (M a (sp + ((j : Int) - dp))) = Int32.ofInt (M a ((sp.toNat + (j - dp.toNat) : Nat) : Int))
    rw [show sp + ((j : Int) - dp) = ((sp.toNat + (j - dp.toNat) : Nat) : Int) by omega]
  · rw [if_neg hj, if_neg (fun q => hj ⟨by omega, by omega⟩)]
theorem jx_cats (ad : Nat → Nat) (r : List jxV) : ((r.map (jx_v ad)).map fun v => v.category).sum = r.length := by
  induction r with
  | nil => rfl
  | cons v r ih => simp only [List.map_cons, List.sum_cons, jx_v_cat, ih, List.length_cons]; omega
section JS
variable {p : Program} {l : Launch} {e : Env} {R : Room} {s : State} {m : MethodId} {args : Array Value} {below : List Frame} {meth : Method} {c : Code} {Q : State → Prop}
variable {D : va_G} {ad : Nat → Nat} {cA : ClassId × ClassId × ClassId} {G : jxG} {n : Nat} {H : Heap} {locs : List Loc}
theorem jx_gocall {pc : Nat} {la : Array Slot} {rest st0 : List Value} {K' : jxK} {a : Array Value} (hr : va_Run p l e R s m args below meth c H locs 0 0 0 0 (F0 m pc la st0) rest (jx_post D ad cA G n K' a) (jx_A ad n)) (hS : va_S (jx_A ad n) s.heap H locs)
    (kk : ∀ (r : Option jxV) (M' : jxM) (H1 : Heap) (locs1 : List Loc), K' r M' → (∀ v, r = some v → jx_rv v) → jx_rM M' → va_P D vwCl (jx_wl ad cA G n M') H1 → va_S (jx_A ad n) s.heap H1 locs1 → W p l e R s m args below meth c H1 locs1 0 0 Q (F0 m (pc + 3) la ((r.map (jx_v ad)).toList ++ rest))) : W p l e R s m args below meth c H locs 0 0 Q (F0 m pc la st0) := by
  intro T hT X
  obtain ⟨v, st₀, t, T', L, h0, X', hL, e1, e2, ⟨⟨r, M', hv, hk, hrv, hrm, hp⟩, hz, hkk⟩, st⟩ := hr T hT X
  have hv : v = r.map (jx_v ad) := Outcome.returned.inj hv
  subst hv
  rw [h0] at hz hkk
  obtain ⟨t2, a1, b1⟩ := kk r M' T'.heap (locs ++ L) hk hrv hrm (by rw [e1]; exact hp)
    ⟨Nat.le_trans hS.1 (by rw [e1]; exact hz), fun q h1 h2 => by rw [e1, hkk q (Nat.lt_of_lt_of_le h1 hS.1) h2]; exact hS.2.1 q h1 h2, fun q hq => by
      rcases List.mem_append.mp hq with h | h
      · exact hS.2.2 q h
      · exact hL q h⟩ T' rfl X'
  exact ⟨t2, st t2 a1, b1⟩
theorem jx_blind {as : List jxV} {M : jxM} : FrameBlind (jx_pre D ad cA G n as M) := by
  intro a U g mk q
  obtain ⟨h0, h1, h2, h3, h4, h5⟩ := q
  exact ⟨h0, h1, h2, h3, va_K.moved (u := U) (U := U.calling g mk a) (Vm.Alike.refl U.vm) h4, va_Nw.same rfl rfl h5⟩
theorem jx_warm {as : List jxV} {M : jxM} (h1 : jx_rl as) (h2 : jx_rM M) (h3 : va_P D vwCl (jx_wl ad cA G n M) H) (h4 : va_K D vwCl (jx_ty cA) s) (h5 : va_Nw jx_nw s) : ∀ U : State, U.heap = H → s.WarmedH U.vm → jx_pre D ad cA G n as M (as.map (jx_v ad)).toArray U := fun U hU hW => ⟨rfl, h1, h2, by rw [hU]; exact h3, va_K.moved hW.alike h4, va_Nw.warmM hW h5⟩
end JS
end
section
section JT
variable {p : Program} {l : Launch} {e : Env} {s : State} {m : MethodId} {args : Array Value} {below : List Frame} {meth : Method} {c : Code}
variable {D : va_G} {ad : Nat → Nat} {cA : ClassId × ClassId × ClassId} {G : jxG} {n : Nat}
abbrev jx_IH (l : Launch) (D : va_G) (ad : Nat → Nat) (cA : ClassId × ClassId × ClassId) (G : jxG) (n d : Nat) : Prop := ∀ (d' y : Nat) (as : List jxV) (M : jxM) (K : jxK), d = d' + 1 → y < 128 → as.length ≤ (jx_T y).1 → jx_call G jx_T d y as M K → jx_met l D ad cA G n d' y as M K
theorem jx_hR {d d' y : Nat} (hd : d = d' + 1) (hy : jx_mok y (jx_st y)) : (jx_rm d').frames + 1 ≤ (jx_rm d).frames ∧ 8 + ((jx_m y).2.2.1 + 11) + (jx_rm d').locals ≤ (jx_rm d).locals := by
  obtain ⟨-, -, -, ⟨-, -, -, -, -, h, -⟩, -⟩ := hy
  subst hd
  refine ⟨Nat.le_refl _, ?_⟩
  show 8 + ((jx_m y).2.2.1 + 11) + 36 * d' ≤ 36 * (d' + 1)
  omega
theorem jx_call_pos {T : Nat → Nat × List jxI} {d y : Nat} {as : List jxV} {M : jxM} {K : jxK} (h : jx_call G T d y as M K) : ∃ d', d = d' + 1 := by
  cases d with
  | zero => exact h.elim
  | succ d => exact ⟨d, rfl⟩
/-- an invokestatic -/
theorem ja_cs {y d : Nat} (cx : jx_cx p s m args meth c D cA y) (IH : jx_IH l D ad cA G n d) {Q : State → Prop} {pcs : List Nat} {nL k i x1 x2 : Nat} (hnL : (jx_m y).2.2.1 = nL) {ls st : List jxV} {M : jxM} (hdec : decode (jx_m y).2.1 (pcs.getD k 0) = .ok (.invokestatic i, 3)) (hn : pcs.getD (k + 1) 0 = pcs.getD k 0 + 3)
    (hx2 : x2 = (jx_m x1).2.2.2.2.2.1) (hl : (∃ j, (jx_ml.any (fun q => q.1 == (jx_m y).2.2.2.2.1 && q.2.1 == i && q.2.2.1 == x1 && q.2.2.2.1 == 1) = true) ∧ j = 0) ∨ jx_nest = ((jx_m y).2.2.2.2.1, i, x1))
    (h : x2 ≤ st.length ∧ st.length ≤ x2 + 8 ∧ jx_call G jx_T d x1 (st.take x2).reverse M (fun r M' => jx_AW p l e (jx_rm d) s m args below meth c D ad cA G n nL pcs Q (k + 1) ls (r.toList ++ st.drop x2) M')) : jx_AW p l e (jx_rm d) s m args below meth c D ad cA G n nL pcs Q k ls st M := by
  obtain ⟨hx, hb, hml, hown, hr, hlocks, hts, hK, hN⟩ := cx
  obtain ⟨g1, g2, g3⟩ := h
  obtain ⟨d', hd'⟩ := jx_call_pos g3
  have hy : x1 < 128 ∧ jx_st x1 = true := by
    rcases hl with ⟨j, hj, -⟩ | hl
    · obtain ⟨q, hq, hq2⟩ := List.any_eq_true.mp hj
      simp only [Bool.and_eq_true, beq_iff_eq] at hq2
      have a1 := List.all_eq_true.mp jx_ml_ok q hq
      have a2 := List.all_eq_true.mp jx_mlst q hq
      simp only [Bool.and_eq_true, decide_eq_true_eq, beq_iff_eq] at a1 a2
      rw [hq2.2] at a2
      rw [← hq2.1.2]
      exact ⟨a1.2, by rw [a2]; rfl⟩
    · have := jx_nestst
      rw [hl] at this
      exact ⟨this.2, this.1⟩
  have hmk := jx_mall x1 hy.1
  have hmk0 := hmk
  rw [hy.2] at hmk
  obtain ⟨w1, w2, w3, ⟨w4, w5, w6, w7, w8, w9, w10, w11⟩, w12⟩ := hmk
  have hnp := jx_npok x1 hy.1
  rw [hy.2] at hnp
  have hlen : ((st.take x2).reverse).length = x2 := by rw [List.length_reverse, List.length_take]; omega
  have hM := IH d' x1 (st.take x2).reverse M _ hd' hy.1 (by rw [hlen, hx2]; simpa using hnp) g3
  intro a1 a2 a3 a4 H locs la h1 h2 h3
  have hast : jx_rl (st.take x2).reverse := fun v hv => a2 v (List.mem_of_mem_take (List.mem_reverse.mp hv))
  have hsplit : (F0 m (pcs.getD k 0) la (st.map (jx_v ad))).stack = (((st.take x2).reverse).map (jx_v ad)).reverse ++ (st.drop x2).map (jx_v ad) := by
    show st.map (jx_v ad) = _
    rw [← List.map_reverse, List.reverse_reverse, ← List.map_append, List.take_append_drop]
  have hroom : 2 * (F0 m (pcs.getD k 0) la (st.map (jx_v ad))).monitorRoom + (((st.drop x2).map (jx_v ad)).map fun v => v.category).sum ≤ 8 := lv_room (by rw [jx_cats, List.length_drop]; omega)
  have hfin : ∀ (r : Option jxV) (M' : jxM) (H1 : Heap) (locs1 : List Loc), jx_AW p l e (jx_rm d) s m args below meth c D ad cA G n nL pcs Q (k + 1) ls (r.toList ++ st.drop x2) M' → (∀ v, r = some v → jx_rv v) → jx_rM M' → va_P D vwCl (jx_wl ad cA G n M') H1 → va_S (jx_A ad n) s.heap H1 locs1 → W p l e (jx_rm d) s m args below meth c H1 locs1 0 0 Q (F0 m (pcs.getD k 0 + 3) la ((r.map (jx_v ad)).toList ++ (st.drop x2).map (jx_v ad))) := by
    intro r M' H1 locs1 q1 q2 q3 q4 q5
    have q6 := q1 a1 (fun v hv => by
      rcases List.mem_append.mp hv with hv | hv
      · exact q2 v (by simpa using hv)
      · exact a2 v (List.mem_of_mem_drop hv)) q3 a4 H1 locs1 la h1 q4 q5
    rw [hn, List.map_append] at q6
    cases r <;> exact q6
  have hsz : (F0 m (pcs.getD k 0) la (st.map (jx_v ad))).locals.size = nL := h1.1
  rcases hl with ⟨j, hj, -⟩ | hl
  · obtain ⟨q, hq, hq2⟩ := List.any_eq_true.mp hj
    simp only [Bool.and_eq_true, beq_iff_eq] at hq2
    have b1 := List.all_eq_true.mp jx_ml_ok q hq
    simp only [Bool.and_eq_true, decide_eq_true_eq] at b1
    obtain ⟨⟨⟨c1, c2⟩, c3⟩, c4⟩ := hq2
    rw [c1, c2, c3] at b1
    have hlk := hts _ (jx_gin _ b1.1 rfl)
    exact jx_gocall (va_runS (Ts := jx_gw) ⟨hx, hb, hml.trans hnL, hown, hts⟩ hM ⟨callB_of (jx_m x1).2.2.2.2.2.1 hts (jx_goodIn w1) rfl rfl rfl (hts _ w2) hlk ⟨w5, w6, w7⟩ (jx_hR hd' hmk0), hts _ w3⟩ ⟨jx_blind, jx_warm hast a3 h2 hK hN⟩ rfl (by rw [List.length_map, hlen, hx2]) hsz hsplit hroom hdec ⟨Nat.le_refl _, Nat.le_refl _⟩) h3 hfin
  · have hlk : va_Nw (Cond.methodLinkNest (jx_cn (jx_m y).2.2.2.2.1) i (jx_m x1).1 "ReadingConverter") s := by
      unfold jx_nw at hN
      rw [hl] at hN
      exact hN
    exact jx_gocall (va_runSN (Ts := jx_gw) ⟨hx, hb, hml.trans hnL, hown, hts⟩ hM ⟨va_cnB (jx_m x1).2.2.2.2.2.1 hts (jx_goodIn w1) rfl rfl rfl hlk (hts _ w2) ⟨w5, w6, w7⟩ (jx_hR hd' hmk0), hts _ w3, trivial⟩ ⟨jx_blind, jx_warm hast a3 h2 hK hN⟩ rfl (by rw [List.length_map, hlen, hx2]) hsz hsplit hroom hdec ⟨Nat.le_refl _, Nat.le_refl _⟩) h3 hfin
/-- an invokevirtual -/
theorem ja_cv (hG : jx_shape G n) {y d : Nat} (cx : jx_cx p s m args meth c D cA y) (IH : jx_IH l D ad cA G n d) {Q : State → Prop} {pcs : List Nat} {nL k i x1 x2 x3 : Nat} (hnL : (jx_m y).2.2.1 = nL) {ls st : List jxV} {M : jxM} (hdec : decode (jx_m y).2.1 (pcs.getD k 0) = .ok (.invokevirtual i, 3)) (hn : pcs.getD (k + 1) 0 = pcs.getD k 0 + 3)
    (hx2 : x2 = (jx_m x1).2.2.2.2.2.1) (hx3 : x3 = (jx_m x1).2.2.2.2.1) (hl : jx_ml.any (fun q => q.1 == (jx_m y).2.2.2.2.1 && q.2.1 == i && q.2.2.1 == x1 && q.2.2.2.1 == 0) = true)
    (h : x2 + 1 ≤ st.length ∧ st.length ≤ x2 + 1 + 8 ∧ (∃ cc, st[x2]? = some (.inr cc) ∧ G.1 cc = (0, x3)) ∧ jx_call G jx_T d x1 (st.take (x2 + 1)).reverse M (fun r M' => jx_AW p l e (jx_rm d) s m args below meth c D ad cA G n nL pcs Q (k + 1) ls (r.toList ++ st.drop (x2 + 1)) M')) : jx_AW p l e (jx_rm d) s m args below meth c D ad cA G n nL pcs Q k ls st M := by
  obtain ⟨hx, hb, hml, hown, hr, hlocks, hts, hK, hN⟩ := cx
  obtain ⟨g1, g2, ⟨cc, g4, g5⟩, g3⟩ := h
  obtain ⟨d', hd'⟩ := jx_call_pos g3
  obtain ⟨q, hq, hq2⟩ := List.any_eq_true.mp hl
  simp only [Bool.and_eq_true, beq_iff_eq] at hq2
  have b1 := List.all_eq_true.mp jx_ml_ok q hq
  have b2 := List.all_eq_true.mp jx_mlst q hq
  simp only [Bool.and_eq_true, decide_eq_true_eq, beq_iff_eq] at b1 b2
  obtain ⟨⟨⟨c1, c2⟩, c3⟩, c4⟩ := hq2
  rw [c1, c2, c3] at b1
  rw [c3, c4] at b2
  have hst : jx_st x1 = false := by rw [b2]; rfl
  have hmk := jx_mall x1 b1.2
  have hmk0 := hmk
  rw [hst] at hmk
  obtain ⟨w1, w2, w3, ⟨w4, w5, w6, w7, w8, w9, w10, w11⟩, w12⟩ := hmk
  have hnp := jx_npok x1 b1.2
  rw [hst] at hnp
  have hlt : x2 < st.length := by omega
  have hgx : st[x2] = .inr cc := by
    have := List.getElem?_eq_getElem hlt
    rw [this] at g4
    exact Option.some.inj g4
  have htk : (st.take (x2 + 1)).reverse = .inr cc :: (st.take x2).reverse := by
    rw [List.take_succ_eq_append_getElem hlt, hgx, List.reverse_append]
    rfl
  have hlen : ((st.take x2).reverse).length = x2 := by rw [List.length_reverse, List.length_take]; omega
  rw [htk] at g3
  have hM := IH d' x1 (.inr cc :: (st.take x2).reverse) M _ hd' b1.2 (by rw [List.length_cons, hlen, hx2]; simpa using hnp) g3
  intro a1 a2 a3 a4 H locs la h1 h2 h3
  have hast : jx_rl (.inr cc :: (st.take x2).reverse) := jx_rl_cons trivial (fun v hv => a2 v (List.mem_of_mem_take (List.mem_reverse.mp hv)))
  have hdrop : st.drop x2 = .inr cc :: st.drop (x2 + 1) := by rw [List.drop_eq_getElem_cons hlt, hgx]
  have hsplit : (F0 m (pcs.getD k 0) la (st.map (jx_v ad))).stack = (((st.take x2).reverse).map (jx_v ad)).reverse ++ .ref (ad cc) :: (st.drop (x2 + 1)).map (jx_v ad) := by
    show st.map (jx_v ad) = _
    rw [← List.map_reverse, List.reverse_reverse, show (Value.ref (ad cc) :: (st.drop (x2 + 1)).map (jx_v ad)) = (st.drop x2).map (jx_v ad) by rw [hdrop]; rfl, ← List.map_append, List.take_append_drop]
  have hroom : 2 * (F0 m (pcs.getD k 0) la (st.map (jx_v ad))).monitorRoom + (((st.drop (x2 + 1)).map (jx_v ad)).map fun v => v.category).sum ≤ 8 := lv_room (by rw [jx_cats, List.length_drop]; omega)
  have hfin : ∀ (r : Option jxV) (M' : jxM) (H1 : Heap) (locs1 : List Loc), jx_AW p l e (jx_rm d) s m args below meth c D ad cA G n nL pcs Q (k + 1) ls (r.toList ++ st.drop (x2 + 1)) M' → (∀ v, r = some v → jx_rv v) → jx_rM M' → va_P D vwCl (jx_wl ad cA G n M') H1 → va_S (jx_A ad n) s.heap H1 locs1 → W p l e (jx_rm d) s m args below meth c H1 locs1 0 0 Q (F0 m (pcs.getD k 0 + 3) la ((r.map (jx_v ad)).toList ++ (st.drop (x2 + 1)).map (jx_v ad))) := by
    intro r M' H1 locs1 q1 q2 q3 q4 q5
    have q6 := q1 a1 (fun v hv => by
      rcases List.mem_append.mp hv with hv | hv
      · exact q2 v (by simpa using hv)
      · exact a2 v (List.mem_of_mem_drop hv)) q3 a4 H1 locs1 la h1 q4 q5
    rw [hn, List.map_append] at q6
    cases r <;> exact q6
  have hsz : (F0 m (pcs.getD k 0) la (st.map (jx_v ad))).locals.size = nL := h1.1
  have hlk := hts _ (jx_gin _ b1.1 rfl)
  have hrec : ∃ cellB : Cell, H[ad cc]? = some cellB ∧ cellB.vm.isStatics = false ∧ s.vm.findClass (jx_m x1).1.cls = some cellB.cls := by
    obtain ⟨hc1, hc2⟩ := hG.1 cc (by rw [g5]; exact Nat.zero_lt_succ 8)
    have hat := jx_wl_at (ad := ad) (cA := cA) (G := G) (M := M) hc1 hc2
    have hent : jx_ent ad cA G M cc = .inr (x3, (List.range (jx_N x3)).map (fun k => if G.2 cc k = 0 then Value.int (Int32.ofInt (M cc k)) else Value.ref (ad (G.2 cc k)))) := by
      unfold jx_ent
      rw [g5]
      rfl
    rw [hent] at hat
    have hcn : ∃ q : vw_C, vwCl[x3]? = some q ∧ q.1 = (jx_m x1).1.cls := by
      have hx3' : x3 = (jx_m x1).2.2.2.2.1 := hx3
      rw [← w8, ← hx3']
      have hlt8 : x3 < 8 := by
        have hvp := hat
        rcases Nat.lt_or_ge x3 8 with q | q
        · exact q
        · exfalso
          obtain ⟨r, hr1, -⟩ := h2 _ _ hat
          have : vwCl[x3]? = none := List.getElem?_eq_none (by show 8 ≤ x3; exact q)
          rw [this] at hr1
          cases hr1
      match x3, hlt8 with
      | 0, _ => exact ⟨_, rfl, rfl⟩
      | 1, _ => exact ⟨_, rfl, rfl⟩
      | 2, _ => exact ⟨_, rfl, rfl⟩
      | 3, _ => exact ⟨_, rfl, rfl⟩
      | 4, _ => exact ⟨_, rfl, rfl⟩
      | 5, _ => exact ⟨_, rfl, rfl⟩
      | 6, _ => exact ⟨_, rfl, rfl⟩
      | 7, _ => exact ⟨_, rfl, rfl⟩
      | z + 8, hz => exact absurd hz (by omega)
    obtain ⟨q, hq1, hq2⟩ := hcn
    have := va_recv hK h2 hq1 hat
    rw [hq2] at this
    exact this
  exact jx_gocall (va_runV (Ts := jx_gw) (C := (jx_m x1).1.cls) (b := ad cc) (As := ((st.take x2).reverse).map (jx_v ad)) ⟨hx, hb, hml.trans hnL, hown, hts⟩ hM ⟨callB_of (jx_m x1).2.2.2.2.2.1 hts (jx_goodIn w1) rfl rfl rfl (hts _ w2) hlk ⟨w5, w6, w7⟩ (jx_hR hd' hmk0), hts _ w3.1, hts _ w3.2⟩ ⟨jx_blind, hrec, jx_warm hast a3 h2 hK hN⟩ rfl (by rw [List.length_map, hlen, hx2]) hsz hsplit hroom hdec ⟨Nat.le_refl _, Nat.le_refl _⟩) h3 hfin
end JT
end
section
theorem jx_ent0 {ad : Nat → Nat} {cA : ClassId × ClassId × ClassId} {G : jxG} {M : jxM} {c ci : Nat} (h : G.1 c = (0, ci)) : jx_ent ad cA G M c = .inr (ci, (List.range (jx_N ci)).map (fun k => if G.2 c k = 0 then Value.int (Int32.ofInt (M c k)) else Value.ref (ad (G.2 c k)))) := by
  unfold jx_ent
  rw [h]
  rfl
theorem jx_ent1 {ad : Nat → Nat} {cA : ClassId × ClassId × ClassId} {G : jxG} {M : jxM} {c k : Nat} (h : G.1 c = (1, k)) : jx_ent ad cA G M c = .inl (cA.1, k, .inl (fun j => Int32.ofInt (M c j))) := by
  unfold jx_ent
  rw [h]
  rfl
theorem jx_ent2 {ad : Nat → Nat} {cA : ClassId × ClassId × ClassId} {G : jxG} {M : jxM} {c k : Nat} (h : G.1 c = (2, k)) : jx_ent ad cA G M c = .inl (cA.2.1, k, .inl (fun j => Int32.ofInt (M c j))) := by
  unfold jx_ent
  rw [h]
  rfl
theorem jx_ent3 {ad : Nat → Nat} {cA : ClassId × ClassId × ClassId} {G : jxG} {M : jxM} {c k : Nat} (h : G.1 c = (3, k)) : jx_ent ad cA G M c = .inl (cA.2.2, k, .inr (.inr (.inr (.inr (fun j => some (ad (G.2 c j))))))) := by
  unfold jx_ent
  rw [h]
  rfl
theorem jx_i_z {x : Int} (hx : jx_r x) : Int32.ofInt x = 0 ↔ x = 0 := jx_i_eq hx (y := 0) (by unfold jx_r; omega)
theorem jx_i_lz {x : Int} (hx : jx_r x) : Int32.ofInt x < 0 ↔ x < 0 := jx_i_lt hx (y := 0) (by unfold jx_r; omega)
theorem jx_i_gz {x : Int} (hx : jx_r x) : 0 < Int32.ofInt x ↔ 0 < x := jx_i_lt (x := 0) (by unfold jx_r; omega) hx
theorem jx_i_lez {x : Int} (hx : jx_r x) : Int32.ofInt x ≤ 0 ↔ x ≤ 0 := jx_i_le hx (y := 0) (by unfold jx_r; omega)
theorem jx_i_gez {x : Int} (hx : jx_r x) : 0 ≤ Int32.ofInt x ↔ 0 ≤ x := jx_i_le (x := 0) (by unfold jx_r; omega) hx
section JU
variable {p : Program} {l : Launch} {e : Env} {s : State} {m : MethodId} {args : Array Value} {below : List Frame} {meth : Method} {c : Code}
variable {D : va_G} {ad : Nat → Nat} {cA : ClassId × ClassId × ClassId} {G : jxG} {n : Nat}
set_option maxHeartbeats 4000000 in
theorem jx_snd (hG : jx_shape G n) (hi : jx_inj ad n) {y d : Nat} (cx : jx_cx p s m args meth c D cA y) (IH : jx_IH l D ad cA G n d) {K : jxK} {pcs : List Nat} {nL k len : Nat} {ins : Instr} {x : jxI} (hnL : (jx_m y).2.2.1 = nL) (hpcs : (jx_m y).2.2.2.2.2.2 = pcs)
    (hret : (x.1 = 27 → (jx_m y).2.2.2.1 = some .int ∨ (jx_m y).2.2.2.1 = some .boolean) ∧ (x.1 = 28 → (jx_m y).2.2.2.1 = none) ∧ (x.1 = 29 → (jx_m y).2.2.2.1 = some (.object "ReadingConverter$Ranking")))
    (hdec : decode (jx_m y).2.1 (pcs.getD k 0) = .ok (ins, len)) (hck : jx_xok (jx_m y).2.2.2.2.1 (decide ((jx_m y).2.2.2.1 = some .boolean)) pcs k ins len x = true) {ls st : List jxV} {M : jxM}
    (h : jx_stp G d (jx_call G jx_T d) K (jx_AW p l e (jx_rm d) s m args below meth c D ad cA G n nL pcs (MQ below (jx_post D ad cA G n K) args s 0 0 (jx_A ad n))) x k ls st M) :
    jx_AW p l e (jx_rm d) s m args below meth c D ad cA G n nL pcs (MQ below (jx_post D ad cA G n K) args s 0 0 (jx_A ad n)) k ls st M := by
  have cx0 := cx
  obtain ⟨hx, hb, hml, hown, hr, hlocks, hts, hK, hN⟩ := cx
  obtain ⟨x0, x1, x2, x3⟩ := x
  cases ins
  case iconst v =>
    simp only [jx_xok, Bool.and_eq_true, beq_iff_eq, Prod.mk.injEq] at hck
    obtain ⟨⟨⟨⟨rfl, rfl, rfl, rfl⟩, rfl⟩, hn⟩, hv⟩ := hck
    intro a1 a2 a3 a4 H locs la h1 h2 h3
    have q := h.2 a1 (jx_rl_cons h.1 a2) a3 a4 H locs la h1 h2 h3
    rw [hn] at q
    exact lv_iconst hx hb hdec rfl q
  case bipush v =>
    simp only [jx_xok, Bool.and_eq_true, beq_iff_eq, Prod.mk.injEq] at hck
    obtain ⟨⟨⟨⟨rfl, rfl, rfl, rfl⟩, rfl⟩, hn⟩, hv⟩ := hck
    intro a1 a2 a3 a4 H locs la h1 h2 h3
    have q := h.2 a1 (jx_rl_cons h.1 a2) a3 a4 H locs la h1 h2 h3
    rw [hn] at q
    exact lv_bipush hx hb hdec hv q
  case sipush v =>
    simp only [jx_xok, Bool.and_eq_true, beq_iff_eq, Prod.mk.injEq] at hck
    obtain ⟨⟨⟨⟨rfl, rfl, rfl, rfl⟩, rfl⟩, hn⟩, hv⟩ := hck
    intro a1 a2 a3 a4 H locs la h1 h2 h3
    have q := h.2 a1 (jx_rl_cons h.1 a2) a3 a4 H locs la h1 h2 h3
    rw [hn] at q
    exact lv_sipush hx hb hdec hv q
  case ldc i =>
    simp only [jx_xok, Bool.and_eq_true, beq_iff_eq, Prod.mk.injEq] at hck
    obtain ⟨⟨⟨⟨rfl, rfl, rfl, -⟩, rfl⟩, hn⟩, hv⟩ := hck
    obtain ⟨q, hq, hq2⟩ := List.any_eq_true.mp hv
    simp only [Bool.and_eq_true, beq_iff_eq] at hq2
    have b1 := List.all_eq_true.mp jx_cs_ok q hq
    simp only [Bool.and_eq_true, decide_eq_true_eq] at b1
    obtain ⟨⟨c1, c2⟩, c3⟩ := hq2
    rw [c1, c2, c3] at b1
    intro a1 a2 a3 a4 H locs la h1 h2 h3
    have q := h.2 a1 (jx_rl_cons h.1 a2) a3 a4 H locs la h1 h2 h3
    rw [hn] at q
    exact lv_ldc hx hb hown (hts _ (jx_gin _ b1.1 rfl)) hdec q
  case iload_n i =>
    simp only [jx_xok, Bool.and_eq_true, beq_iff_eq, Prod.mk.injEq] at hck
    obtain ⟨⟨⟨rfl, rfl, rfl, rfl⟩, rfl⟩, hn⟩ := hck
    obtain ⟨v, g1, g2⟩ := h
    intro a1 a2 a3 a4 H locs la h1 h2 h3
    have q := g2 a1 (jx_rl_cons (a1 _ (List.mem_of_getElem? g1)) a2) a3 a4 H locs la h1 h2 h3
    rw [hn] at q
    exact lv_iload_n hx hb hdec rfl (h1.2.2 _ _ g1 rfl) q
  case iload i =>
    simp only [jx_xok, Bool.and_eq_true, beq_iff_eq, Prod.mk.injEq] at hck
    obtain ⟨⟨⟨rfl, rfl, rfl, rfl⟩, rfl⟩, hn⟩ := hck
    obtain ⟨v, g1, g2⟩ := h
    intro a1 a2 a3 a4 H locs la h1 h2 h3
    have q := g2 a1 (jx_rl_cons (a1 _ (List.mem_of_getElem? g1)) a2) a3 a4 H locs la h1 h2 h3
    rw [hn] at q
    exact lv_iload hx hb hdec (h1.2.2 _ _ g1 rfl) q
  case aload_n i =>
    simp only [jx_xok, Bool.and_eq_true, beq_iff_eq, Prod.mk.injEq] at hck
    obtain ⟨⟨⟨rfl, rfl, rfl, rfl⟩, rfl⟩, hn⟩ := hck
    obtain ⟨v, g1, g2⟩ := h
    intro a1 a2 a3 a4 H locs la h1 h2 h3
    have q := g2 a1 (jx_rl_cons (a1 _ (List.mem_of_getElem? g1)) a2) a3 a4 H locs la h1 h2 h3
    rw [hn] at q
    exact lv_aload_n hx hb hdec rfl (h1.2.2 _ _ g1 rfl) q
  case aload i =>
    simp only [jx_xok, Bool.and_eq_true, beq_iff_eq, Prod.mk.injEq] at hck
    obtain ⟨⟨⟨rfl, rfl, rfl, rfl⟩, rfl⟩, hn⟩ := hck
    obtain ⟨v, g1, g2⟩ := h
    intro a1 a2 a3 a4 H locs la h1 h2 h3
    have q := g2 a1 (jx_rl_cons (a1 _ (List.mem_of_getElem? g1)) a2) a3 a4 H locs la h1 h2 h3
    rw [hn] at q
    exact lv_aload hx hb hdec (h1.2.2 _ _ g1 rfl) q
  case istore_n i =>
    simp only [jx_xok, Bool.and_eq_true, beq_iff_eq, Prod.mk.injEq] at hck
    obtain ⟨⟨⟨rfl, rfl, rfl, rfl⟩, rfl⟩, hn⟩ := hck
    obtain ⟨v, r, rfl, g1, g2⟩ := h
    intro a1 a2 a3 a4 H locs la h1 h2 h3
    exact lv_istore_n (x := Int32.ofInt v) hx hb hdec rfl (jx_kn_has h1) (by rw [← a4]; exact g1) rfl (fun la' hl' => by
      have q := g2 (jx_rl_set (jx_rl_hd a2) a1) (jx_rl_tl a2) a3 (by rw [List.length_set]; exact a4) H locs la' (jx_lr_store hl') h2 h3
      rw [hn] at q
      exact q)
  case istore i =>
    simp only [jx_xok, Bool.and_eq_true, beq_iff_eq, Prod.mk.injEq] at hck
    obtain ⟨⟨⟨rfl, rfl, rfl, rfl⟩, rfl⟩, hn⟩ := hck
    obtain ⟨v, r, rfl, g1, g2⟩ := h
    intro a1 a2 a3 a4 H locs la h1 h2 h3
    exact lv_istore (x := Int32.ofInt v) hx hb hdec (jx_kn_has h1) (by rw [← a4]; exact g1) rfl (fun la' hl' => by
      have q := g2 (jx_rl_set (jx_rl_hd a2) a1) (jx_rl_tl a2) a3 (by rw [List.length_set]; exact a4) H locs la' (jx_lr_store hl') h2 h3
      rw [hn] at q
      exact q)
  case astore_n i =>
    simp only [jx_xok, Bool.and_eq_true, beq_iff_eq, Prod.mk.injEq] at hck
    obtain ⟨⟨⟨rfl, rfl, rfl, rfl⟩, rfl⟩, hn⟩ := hck
    obtain ⟨v, r, rfl, g1, g2⟩ := h
    intro a1 a2 a3 a4 H locs la h1 h2 h3
    exact lv_astore_n (x := ad v) hx hb hdec rfl (jx_kn_has h1) (by rw [← a4]; exact g1) rfl (fun la' hl' => by
      have q := g2 (jx_rl_set (jx_rl_hd a2) a1) (jx_rl_tl a2) a3 (by rw [List.length_set]; exact a4) H locs la' (jx_lr_store (v := .inr v) hl') h2 h3
      rw [hn] at q
      exact q)
  case astore i =>
    simp only [jx_xok, Bool.and_eq_true, beq_iff_eq, Prod.mk.injEq] at hck
    obtain ⟨⟨⟨rfl, rfl, rfl, rfl⟩, rfl⟩, hn⟩ := hck
    obtain ⟨v, r, rfl, g1, g2⟩ := h
    intro a1 a2 a3 a4 H locs la h1 h2 h3
    exact lv_astore (x := ad v) hx hb hdec (jx_kn_has h1) (by rw [← a4]; exact g1) rfl (fun la' hl' => by
      have q := g2 (jx_rl_set (jx_rl_hd a2) a1) (jx_rl_tl a2) a3 (by rw [List.length_set]; exact a4) H locs la' (jx_lr_store (v := .inr v) hl') h2 h3
      rw [hn] at q
      exact q)
  case iinc i v =>
    simp only [jx_xok, Bool.and_eq_true, beq_iff_eq, Prod.mk.injEq] at hck
    obtain ⟨⟨⟨rfl, rfl, rfl, rfl⟩, rfl⟩, hn⟩ := hck
    obtain ⟨w, g1, g3, g2⟩ := h
    intro a1 a2 a3 a4 H locs la h1 h2 h3
    obtain ⟨kk, hkk⟩ := List.getElem?_of_mem (jx_kn_mem (ad := ad) g1 rfl)
    have hlt : x1 < nL := by rw [← a4]; exact (List.getElem?_eq_some_iff.mp g1).1
    exact lv_iinc (k := kk) (x := Int32.ofInt w) (v := Int32.ofInt (w + x3)) hx hb hdec (jx_kn_has h1) hkk (jx_i_add _ _) hlt rfl (fun la' hl' => by
      have q := g2 (jx_rl_set (v := .inl (w + x3)) g3 a1) a2 a3 (by rw [List.length_set]; exact a4) H locs la' (jx_lr_store (v := .inl (w + x3)) hl') h2 h3
      rw [hn] at q
      exact q)
  case iadd =>
    simp only [jx_xok, Bool.and_eq_true, beq_iff_eq, Prod.mk.injEq] at hck
    obtain ⟨⟨⟨rfl, rfl, rfl, rfl⟩, rfl⟩, hn⟩ := hck
    obtain ⟨v, w, r, rfl, g1, g2⟩ := h
    intro a1 a2 a3 a4 H locs la h1 h2 h3
    have q := g2 a1 (jx_rl_cons (v := .inl (v + w)) g1 (jx_rl_tl (jx_rl_tl a2))) a3 a4 H locs la h1 h2 h3
    rw [hn] at q
    refine lv_iadd hx hb hdec ?_
    rw [jx_i_add]
    exact q
  case isub =>
    simp only [jx_xok, Bool.and_eq_true, beq_iff_eq, Prod.mk.injEq] at hck
    obtain ⟨⟨⟨rfl, rfl, rfl, rfl⟩, rfl⟩, hn⟩ := hck
    obtain ⟨v, w, r, rfl, g1, g2⟩ := h
    intro a1 a2 a3 a4 H locs la h1 h2 h3
    have q := g2 a1 (jx_rl_cons (v := .inl (v - w)) g1 (jx_rl_tl (jx_rl_tl a2))) a3 a4 H locs la h1 h2 h3
    rw [hn] at q
    refine lv_isub hx hb hdec ?_
    rw [jx_i_sub]
    exact q
  case imul =>
    simp only [jx_xok, Bool.and_eq_true, beq_iff_eq, Prod.mk.injEq] at hck
    obtain ⟨⟨⟨rfl, rfl, rfl, rfl⟩, rfl⟩, hn⟩ := hck
    obtain ⟨v, w, r, rfl, g1, g2⟩ := h
    intro a1 a2 a3 a4 H locs la h1 h2 h3
    have q := g2 a1 (jx_rl_cons (v := .inl (v * w)) g1 (jx_rl_tl (jx_rl_tl a2))) a3 a4 H locs la h1 h2 h3
    rw [hn] at q
    refine lv_imul hx hb hdec ?_
    rw [jx_i_mul]
    exact q
  case idiv =>
    simp only [jx_xok, Bool.and_eq_true, beq_iff_eq, Prod.mk.injEq] at hck
    obtain ⟨⟨⟨rfl, rfl, rfl, rfl⟩, rfl⟩, hn⟩ := hck
    obtain ⟨v, w, r, rfl, g0, g1, g2⟩ := h
    intro a1 a2 a3 a4 H locs la h1 h2 h3
    have rw1 : jx_r w := jx_rl_hd a2
    have rv1 : jx_r v := jx_rl_hd (jx_rl_tl a2)
    have z1 : v / w ≤ v := Int.ediv_le_self w g0
    have z2 : 0 ≤ v / w := Int.ediv_nonneg g0 (by omega)
    have q := g2 a1 (jx_rl_cons (v := .inl (v / w)) (show jx_r _ by unfold jx_r at *; omega) (jx_rl_tl (jx_rl_tl a2))) a3 a4 H locs la h1 h2 h3
    rw [hn] at q
    refine lv_idiv hx hb hdec (fun z => ?_) ?_
    · rw [jx_i_z rw1] at z
      omega
    · rw [jx_i_div rv1 rw1 g0 g1]
      exact q
  case irem =>
    simp only [jx_xok, Bool.and_eq_true, beq_iff_eq, Prod.mk.injEq] at hck
    obtain ⟨⟨⟨rfl, rfl, rfl, rfl⟩, rfl⟩, hn⟩ := hck
    obtain ⟨v, w, r, rfl, g0, g1, g2⟩ := h
    intro a1 a2 a3 a4 H locs la h1 h2 h3
    have rw1 : jx_r w := jx_rl_hd a2
    have rv1 : jx_r v := jx_rl_hd (jx_rl_tl a2)
    have z1 : v % w < w := Int.emod_lt_of_pos v g1
    have z2 : 0 ≤ v % w := Int.emod_nonneg v (by omega)
    have q := g2 a1 (jx_rl_cons (v := .inl (v % w)) (show jx_r _ by unfold jx_r at *; omega) (jx_rl_tl (jx_rl_tl a2))) a3 a4 H locs la h1 h2 h3
    rw [hn] at q
    refine lv_irem hx hb hdec (fun z => ?_) ?_
    · rw [jx_i_z rw1] at z
      omega
    · rw [jx_i_rem rv1 rw1 g0 g1]
      exact q
  case dup =>
    simp only [jx_xok, Bool.and_eq_true, beq_iff_eq, Prod.mk.injEq] at hck
    obtain ⟨⟨⟨rfl, rfl, rfl, rfl⟩, rfl⟩, hn⟩ := hck
    obtain ⟨v, r, rfl, g2⟩ := h
    intro a1 a2 a3 a4 H locs la h1 h2 h3
    have q := g2 a1 (jx_rl_cons (jx_rl_hd a2) a2) a3 a4 H locs la h1 h2 h3
    rw [hn] at q
    exact lv_dup hx hb hdec (jx_v_cat ad v) q
  case dup2 =>
    simp only [jx_xok, Bool.and_eq_true, beq_iff_eq, Prod.mk.injEq] at hck
    obtain ⟨⟨⟨rfl, rfl, rfl, rfl⟩, rfl⟩, hn⟩ := hck
    obtain ⟨v, w, r, rfl, g2⟩ := h
    intro a1 a2 a3 a4 H locs la h1 h2 h3
    have q := g2 a1 (jx_rl_cons (jx_rl_hd a2) (jx_rl_cons (jx_rl_hd (jx_rl_tl a2)) a2)) a3 a4 H locs la h1 h2 h3
    rw [hn] at q
    exact lv_dup2_11 hx hb hdec (jx_v_cat ad v) (jx_v_cat ad w) q
  case goto off =>
    simp only [jx_xok, Bool.and_eq_true, beq_iff_eq, Prod.mk.injEq] at hck
    obtain ⟨⟨⟨rfl, -, rfl, rfl⟩, rfl⟩, ht⟩ := hck
    intro a1 a2 a3 a4 H locs la h1 h2 h3
    exact lv_goto hx hb hdec ht (h a1 a2 a3 a4 H locs la h1 h2 h3)
  case ifCond cd off =>
    cases cd <;> simp only [jx_xok, Bool.and_eq_true, beq_iff_eq, Prod.mk.injEq] at hck
    all_goals
      obtain ⟨⟨⟨⟨rfl, -, rfl, rfl⟩, rfl⟩, hn⟩, ht⟩ := hck
      obtain ⟨v, r, rfl, g1, g2⟩ := h
      intro a1 a2 a3 a4 H locs la h1 h2 h3
      have rv : jx_r v := jx_rl_hd a2
      have k1 := fun z => g1 z a1 (jx_rl_tl a2) a3 a4 H locs la h1 h2 h3
      have k2 := fun z => g2 z a1 (jx_rl_tl a2) a3 a4 H locs la h1 h2 h3
      rw [hn] at k2
    · exact lv_if_eq hx hb hdec ht (fun z => k1 ((jx_i_z rv).mp z)) (fun z => k2 (fun q => z ((jx_i_z rv).mpr q)))
    · exact lv_if_ne hx hb hdec ht (fun z => k1 (fun q => z ((jx_i_z rv).mpr q))) (fun z => k2 (fun q => q ((jx_i_z rv).mp z)))
    · exact lv_if_lt hx hb hdec ht (fun z => k1 ((jx_i_lz rv).mp z)) (fun z => k2 (fun q => z ((jx_i_lz rv).mpr q)))
    · exact lv_if_ge hx hb hdec ht (fun z => k1 ((jx_i_gez rv).mp z)) (fun z => k2 (fun q => z ((jx_i_gez rv).mpr q)))
    · exact lv_if_gt hx hb hdec ht (fun z => k1 ((jx_i_gz rv).mp z)) (fun z => k2 (fun q => z ((jx_i_gz rv).mpr q)))
    · exact lv_if_le hx hb hdec ht (fun z => k1 ((jx_i_lez rv).mp z)) (fun z => k2 (fun q => z ((jx_i_lez rv).mpr q)))
  case if_icmp cd off =>
    cases cd <;> simp only [jx_xok, Bool.and_eq_true, beq_iff_eq, Prod.mk.injEq] at hck
    all_goals
      obtain ⟨⟨⟨⟨rfl, -, rfl, rfl⟩, rfl⟩, hn⟩, ht⟩ := hck
      obtain ⟨v, w, r, rfl, g1, g2⟩ := h
      intro a1 a2 a3 a4 H locs la h1 h2 h3
      have rw1 : jx_r w := jx_rl_hd a2
      have rv : jx_r v := jx_rl_hd (jx_rl_tl a2)
      have k1 := fun z => g1 z a1 (jx_rl_tl (jx_rl_tl a2)) a3 a4 H locs la h1 h2 h3
      have k2 := fun z => g2 z a1 (jx_rl_tl (jx_rl_tl a2)) a3 a4 H locs la h1 h2 h3
      rw [hn] at k2
    · exact lv_icmp_eq hx hb hdec ht (fun z => k1 ((jx_i_eq rv rw1).mp z)) (fun z => k2 (fun q => z ((jx_i_eq rv rw1).mpr q)))
    · exact lv_icmp_ne hx hb hdec ht (fun z => k1 (fun q => z ((jx_i_eq rv rw1).mpr q))) (fun z => k2 (fun q => q ((jx_i_eq rv rw1).mp z)))
    · exact lv_icmp_lt hx hb hdec ht (fun z => k1 ((jx_i_lt rv rw1).mp z)) (fun z => k2 (fun q => z ((jx_i_lt rv rw1).mpr q)))
    · exact lv_icmp_ge hx hb hdec ht (fun z => k1 ((jx_i_le rw1 rv).mp z)) (fun z => k2 (fun q => z ((jx_i_le rw1 rv).mpr q)))
    · exact lv_icmp_gt hx hb hdec ht (fun z => k1 ((jx_i_lt rw1 rv).mp z)) (fun z => k2 (fun q => z ((jx_i_lt rw1 rv).mpr q)))
    · exact lv_icmp_le hx hb hdec ht (fun z => k1 ((jx_i_le rv rw1).mp z)) (fun z => k2 (fun q => z ((jx_i_le rv rw1).mpr q)))
  case getfield i =>
    simp only [jx_xok, Bool.and_eq_true, beq_iff_eq, Prod.mk.injEq] at hck
    obtain ⟨⟨⟨⟨rfl, -, -, rfl⟩, rfl⟩, hn⟩, hv⟩ := hck
    obtain ⟨q, hq, hq2⟩ := List.any_eq_true.mp hv
    simp only [Bool.and_eq_true, beq_iff_eq] at hq2
    have b1 := List.all_eq_true.mp jx_fl_ok q hq
    simp only [Bool.and_eq_true, decide_eq_true_eq] at b1
    obtain ⟨⟨⟨c1, c2⟩, c3⟩, c4⟩ := hq2
    rw [c1, c2, c3, c4] at b1
    obtain ⟨cc, r, rfl, g1, g2⟩ := h
    obtain ⟨Cn, T, N, ty0, e1, e2, e3, e4, e5, e6⟩ := jx_clsA x1 (by have := b1.2; omega)
    rw [e2, e3] at b1
    obtain ⟨hc1, hc2⟩ := hG.1 cc (by rw [g1]; exact Nat.zero_lt_succ 8)
    intro a1 a2 a3 a4 H locs la h1 h2 h3
    have hat := jx_wl_at (ad := ad) (cA := cA) (G := G) (M := M) hc1 hc2
    rw [jx_ent0 g1, e3] at hat
    have q := g2 a1 (jx_rl_cons (by
      by_cases hz : G.2 cc x2 = 0
      · rw [if_pos hz]; exact a3 _ _
      · rw [if_neg hz]; exact trivial) (jx_rl_tl a2)) a3 a4 H locs la h1 h2 h3
    rw [hn] at q
    refine va_get hx hb hts e4 hown hK h2 (cc - 1) hat e1 x2 b1.2 (hts _ (jx_gin _ b1.1 rfl)) (fun _ h9 => h9) (v := jx_v ad (if G.2 cc x2 = 0 then .inl (M cc x2) else .inr (G.2 cc x2))) ?_ hdec q
    rw [List.getElem?_map, List.getElem?_range b1.2]
    by_cases hz : G.2 cc x2 = 0
    · simp [hz, jx_v]
    · simp [hz, jx_v]
  case putfield i =>
    simp only [jx_xok, Bool.and_eq_true, beq_iff_eq, Prod.mk.injEq] at hck
    obtain ⟨⟨⟨⟨rfl, -, -, -⟩, rfl⟩, hn⟩, hv⟩ := hck
    obtain ⟨q, hq, hq2⟩ := List.any_eq_true.mp hv
    simp only [Bool.and_eq_true, beq_iff_eq] at hq2
    have b1 := List.all_eq_true.mp jx_pl_ok q hq
    simp only [Bool.and_eq_true, decide_eq_true_eq] at b1
    obtain ⟨⟨⟨⟨c1, c2⟩, c3⟩, c4⟩, c5⟩ := hq2
    rw [c1, c2, c3, c4, c5] at b1
    obtain ⟨cc, v, r, rfl, g1, g2, g3, g4⟩ := h
    obtain ⟨Cn, T, N, ty0, e1, e2, e3, e4, e5, e6⟩ := jx_clsA x1 (by have := b1.1.1.2; omega)
    rw [e2, e3] at b1
    obtain ⟨⟨⟨b1, b2⟩, b3⟩, b4⟩ := b1
    obtain ⟨hc1, hc2⟩ := hG.1 cc (by rw [g1]; exact Nat.zero_lt_succ 8)
    intro a1 a2 a3 a4 H locs la h1 h2 h3
    have hat := jx_wl_at (ad := ad) (cA := cA) (G := G) (M := M) hc1 hc2
    rw [jx_ent0 g1, e3] at hat
    have hD := jx_D (ad := ad) (cA := cA) (G := G) (M := M) hi
    refine va_put hx hb hts e4 ty0 e5 e6 hown hK h2 hD h3 (cc - 1) hat e1 x2 b2 (hts _ (jx_gin _ b1 rfl)) (fun _ h9 => h9) b3 (v := .int (Int32.ofInt v)) b4 ?_ ?_ (by simpa using b2) hdec (fun H1 locs1 k1 k2 k3 => ?_)
    · by_cases hz : x3 = 1
      · rw [if_pos hz]
        rcases g3 hz with rfl | rfl <;> rfl
      · rw [if_neg hz]
        rfl
    · by_cases hz : x3 = 1
      · rw [if_pos hz]
        rcases g3 hz with rfl | rfl <;> rfl
      · rw [if_neg hz]
        rfl
    · have e := jx_ent_put (ad := ad) (cA := cA) (M := M) (v := v) g1 g2
      rw [e3] at e
      rw [← e, jx_wl_set hc1 hc2 jx_up_off] at k1
      have q := g4 a1 (jx_rl_tl (jx_rl_tl a2)) (jx_rM_up a3 (jx_rl_hd a2)) a4 H1 locs1 la h1 k1 k3
      rw [hn] at q
      exact q
  case iaload =>
    simp only [jx_xok, Bool.and_eq_true, beq_iff_eq, Prod.mk.injEq] at hck
    obtain ⟨⟨⟨rfl, rfl, rfl, rfl⟩, rfl⟩, hn⟩ := hck
    obtain ⟨cc, v, nn, r, rfl, g1, g2, g3, g4⟩ := h
    obtain ⟨hc1, hc2⟩ := hG.1 cc (by rw [g1]; exact Nat.le_of_ble_eq_true rfl)
    intro a1 a2 a3 a4 H locs la h1 h2 h3
    have rv : jx_r v := jx_rl_hd a2
    have hat := jx_wl_at (ad := ad) (cA := cA) (G := G) (M := M) hc1 hc2
    rw [jx_ent1 g1] at hat
    have q := g4 a1 (jx_rl_cons (a3 _ _) (jx_rl_tl (jx_rl_tl a2))) a3 a4 H locs la h1 h2 h3
    rw [hn] at q
    refine va_iald hx hb hK h2 (cc - 1) 0 hat rfl (jx_i_in rv g2 g3) hdec ?_
    rw [jx_i_cl rv, show ((v.toNat : Nat) : Int) = v by omega]
    exact q
  case baload =>
    simp only [jx_xok, Bool.and_eq_true, beq_iff_eq, Prod.mk.injEq] at hck
    obtain ⟨⟨⟨rfl, rfl, rfl, rfl⟩, rfl⟩, hn⟩ := hck
    obtain ⟨cc, v, nn, r, rfl, g1, g2, g3, g4⟩ := h
    obtain ⟨hc1, hc2⟩ := hG.1 cc (by rw [g1]; exact Nat.le_of_ble_eq_true rfl)
    intro a1 a2 a3 a4 H locs la h1 h2 h3
    have rv : jx_r v := jx_rl_hd a2
    have hat := jx_wl_at (ad := ad) (cA := cA) (G := G) (M := M) hc1 hc2
    rw [jx_ent2 g1] at hat
    have q := g4 a1 (jx_rl_cons (a3 _ _) (jx_rl_tl (jx_rl_tl a2))) a3 a4 H locs la h1 h2 h3
    rw [hn] at q
    refine va_zald hx hb hK h2 (cc - 1) 1 hat rfl (jx_i_in rv g2 g3) hdec ?_
    rw [jx_i_cl rv, show ((v.toNat : Nat) : Int) = v by omega]
    exact q
  case aaload =>
    simp only [jx_xok, Bool.and_eq_true, beq_iff_eq, Prod.mk.injEq] at hck
    obtain ⟨⟨⟨rfl, rfl, rfl, rfl⟩, rfl⟩, hn⟩ := hck
    obtain ⟨cc, v, nn, r, rfl, g1, g2, g3, g4⟩ := h
    obtain ⟨hc1, hc2⟩ := hG.1 cc (by rw [g1]; exact Nat.le_of_ble_eq_true rfl)
    intro a1 a2 a3 a4 H locs la h1 h2 h3
    have rv : jx_r v := jx_rl_hd a2
    have hat := jx_wl_at (ad := ad) (cA := cA) (G := G) (M := M) hc1 hc2
    rw [jx_ent3 g1] at hat
    have q := g4 a1 (jx_rl_cons (v := .inr (G.2 cc v.toNat)) trivial (jx_rl_tl (jx_rl_tl a2))) a3 a4 H locs la h1 h2 h3
    rw [hn] at q
    refine va_aldq hx hb hK h2 (cc - 1) 2 hat rfl (jx_i_in rv g2 g3) hdec ?_
    rw [jx_i_cl rv]
    exact q
  case arraylength =>
    simp only [jx_xok, Bool.and_eq_true, beq_iff_eq, Prod.mk.injEq] at hck
    obtain ⟨⟨⟨rfl, rfl, rfl, rfl⟩, rfl⟩, hn⟩ := hck
    obtain ⟨cc, nn, r, rfl, g1, g4⟩ := h
    obtain ⟨hc1, hc2⟩ := hG.1 cc (by rw [g1]; exact Nat.le_of_ble_eq_true rfl)
    intro a1 a2 a3 a4 H locs la h1 h2 h3
    have hat := jx_wl_at (ad := ad) (cA := cA) (G := G) (M := M) hc1 hc2
    rw [jx_ent1 g1] at hat
    have hnn : nn < 2147483648 := by have := hG.2 cc; rw [g1] at this; exact this
    have q := g4 a1 (jx_rl_cons (v := .inl (nn : Int)) (show jx_r _ by unfold jx_r; omega) (jx_rl_tl a2)) a3 a4 H locs la h1 h2 h3
    rw [hn] at q
    exact va_alen hx hb hK h2 (cc - 1) 0 hat rfl (v := Int32.ofInt (nn : Int)) rfl hdec q
  case iastore =>
    simp only [jx_xok, Bool.and_eq_true, beq_iff_eq, Prod.mk.injEq] at hck
    obtain ⟨⟨⟨rfl, rfl, rfl, rfl⟩, rfl⟩, hn⟩ := hck
    obtain ⟨cc, w, v, nn, r, rfl, g1, g2, g3, g4⟩ := h
    obtain ⟨hc1, hc2⟩ := hG.1 cc (by rw [g1]; exact Nat.le_of_ble_eq_true rfl)
    intro a1 a2 a3 a4 H locs la h1 h2 h3
    have rv : jx_r v := jx_rl_hd a2
    have rw1 : jx_r w := jx_rl_hd (jx_rl_tl a2)
    have hat := jx_wl_at (ad := ad) (cA := cA) (G := G) (M := M) hc1 hc2
    rw [jx_ent1 g1] at hat
    have hD := jx_D (ad := ad) (cA := cA) (G := G) (M := M) hi
    refine va_iast hx hb hK h2 hD h3 (cc - 1) 0 hat rfl (jx_i_in rw1 g2 g3) hdec (fun H1 locs1 k1 k2 k3 => ?_)
    rw [jx_i_cl rw1, ← jx_arr_up g2, ← jx_ent1 (ad := ad) (cA := cA) (M := jx_up M cc w v) g1, jx_wl_set hc1 hc2 jx_up_off] at k1
    have q := g4 a1 (jx_rl_tl (jx_rl_tl (jx_rl_tl a2))) (jx_rM_up a3 rv) a4 H1 locs1 la h1 k1 k3
    rw [hn] at q
    exact q
  case bastore =>
    simp only [jx_xok, Bool.and_eq_true, beq_iff_eq, Prod.mk.injEq] at hck
    obtain ⟨⟨⟨rfl, rfl, rfl, rfl⟩, rfl⟩, hn⟩ := hck
    obtain ⟨cc, w, v, nn, r, rfl, g1, g2, g3, g5, g4⟩ := h
    obtain ⟨hc1, hc2⟩ := hG.1 cc (by rw [g1]; exact Nat.le_of_ble_eq_true rfl)
    intro a1 a2 a3 a4 H locs la h1 h2 h3
    have rv : jx_r v := jx_rl_hd a2
    have rw1 : jx_r w := jx_rl_hd (jx_rl_tl a2)
    have hat := jx_wl_at (ad := ad) (cA := cA) (G := G) (M := M) hc1 hc2
    rw [jx_ent2 g1] at hat
    have hD := jx_D (ad := ad) (cA := cA) (G := G) (M := M) hi
    have hnar : vp_nar .boolean (Int32.ofInt v) = Int32.ofInt v := by rcases g5 with rfl | rfl <;> rfl
    refine va_zast hx hb hK h2 hD h3 (cc - 1) 1 hat rfl (jx_i_in rw1 g2 g3) hdec (fun H1 locs1 k1 k2 k3 => ?_)
    rw [hnar, jx_i_cl rw1, ← jx_arr_up g2, ← jx_ent2 (ad := ad) (cA := cA) (M := jx_up M cc w v) g1, jx_wl_set hc1 hc2 jx_up_off] at k1
    have q := g4 a1 (jx_rl_tl (jx_rl_tl (jx_rl_tl a2))) (jx_rM_up a3 rv) a4 H1 locs1 la h1 k1 k3
    rw [hn] at q
    exact q
  case ifnull off =>
    simp only [jx_xok, Bool.and_eq_true, beq_iff_eq, Prod.mk.injEq] at hck
    obtain ⟨⟨⟨rfl, -, rfl, rfl⟩, rfl⟩, hn⟩ := hck
    obtain ⟨cc, r, rfl, g2⟩ := h
    intro a1 a2 a3 a4 H locs la h1 h2 h3
    have q := g2 a1 (jx_rl_tl a2) a3 a4 H locs la h1 h2 h3
    rw [hn] at q
    exact lv_ifnull hx hb hdec q
  case ifnonnull off =>
    simp only [jx_xok, Bool.and_eq_true, beq_iff_eq, Prod.mk.injEq] at hck
    obtain ⟨⟨⟨rfl, -, rfl, rfl⟩, rfl⟩, ht⟩ := hck
    obtain ⟨cc, r, rfl, g2⟩ := h
    intro a1 a2 a3 a4 H locs la h1 h2 h3
    exact lv_ifnonnull hx hb hdec ht (g2 a1 (jx_rl_tl a2) a3 a4 H locs la h1 h2 h3)
  case ireturn =>
    simp only [jx_xok, Bool.and_eq_true, beq_iff_eq, Prod.mk.injEq] at hck
    obtain ⟨⟨rfl, hz, rfl, rfl⟩, rfl⟩ := hck
    obtain ⟨v, rfl, g1, g2⟩ := h
    intro a1 a2 a3 a4 H locs la h1 h2 h3
    have hq : ∀ t : State, t.heap = H → s.WarmedH t.vm → jx_post D ad cA G n K args s (.returned (some (.int (Int32.ofInt v)))) t := fun t ht _ => ⟨⟨some (.inl v), M, rfl, g2, fun w hw => by cases hw; exact jx_rl_hd a2, a3, by rw [ht]; exact h2⟩, h3.F ht⟩
    rcases hret.1 rfl with hz2 | hz2
    · exact W.iret (v := Int32.ofInt v) hx hb (by rw [hr, hz2]) hq h3.2.2 hdec hlocks
    · refine W.zret (v := Int32.ofInt v) (ty := .boolean) hx hb (by rw [hr, hz2]) ?_ hq h3.2.2 hdec hlocks
      rw [hz2] at hz
      rcases g1 hz with rfl | rfl <;> rfl
  case return_ =>
    simp only [jx_xok, Bool.and_eq_true, beq_iff_eq, Prod.mk.injEq] at hck
    obtain ⟨⟨rfl, rfl, rfl, rfl⟩, rfl⟩ := hck
    obtain ⟨rfl, g2⟩ := h
    intro a1 a2 a3 a4 H locs la h1 h2 h3
    exact W.vret hx hb (by rw [hr, hret.2.1 rfl]) (fun t ht _ => ⟨⟨none, M, rfl, g2, fun w hw => (by cases hw), a3, by rw [ht]; exact h2⟩, h3.F ht⟩) h3.2.2 hdec hlocks
  case areturn =>
    simp only [jx_xok, Bool.and_eq_true, beq_iff_eq, Prod.mk.injEq] at hck
    obtain ⟨⟨rfl, rfl, rfl, rfl⟩, rfl⟩ := hck
    obtain ⟨cc, rfl, g2⟩ := h
    intro a1 a2 a3 a4 H locs la h1 h2 h3
    exact W.aret (v := .ref (ad cc)) hx hb (by rw [hr, hret.2.2 rfl]) (Or.inl ⟨_, rfl⟩) (Or.inr ⟨_, rfl⟩) (fun t ht _ => ⟨⟨some (.inr cc), M, rfl, g2, fun w hw => by cases hw; exact trivial, a3, by rw [ht]; exact h2⟩, h3.F ht⟩) h3.2.2 hdec hlocks
  case invokevirtual i =>
    simp only [jx_xok, Bool.and_eq_true, beq_iff_eq, Prod.mk.injEq] at hck
    obtain ⟨⟨⟨⟨rfl, -, hx2, hx3⟩, rfl⟩, hn⟩, hv⟩ := hck
    have h : _ ∧ _ ∧ _ ∧ _ := h
    obtain ⟨z1, z2, z3, z4⟩ := h
    rw [hx3, Int.toNat_natCast] at z3
    exact ja_cv hG cx0 IH hnL hdec hn hx2 rfl hv ⟨z1, z2, z3, z4⟩
  case invokestatic i =>
    simp only [jx_xok, Bool.and_eq_true, Bool.or_eq_true, beq_iff_eq, Prod.mk.injEq, decide_eq_true_eq] at hck
    rcases hck with ((hck | hck) | hck) | hck
    · obtain ⟨⟨⟨⟨rfl, -, hx2, rfl⟩, rfl⟩, hn⟩, hv⟩ := hck
      refine ja_cs cx0 IH hnL hdec hn hx2 ?_ h
      rcases hv with hv | hv
      · exact Or.inl ⟨0, hv, rfl⟩
      · exact Or.inr hv
    · obtain ⟨⟨⟨⟨rfl, rfl, rfl, rfl⟩, rfl⟩, hn⟩, hv⟩ := hck
      obtain ⟨q, hq, hq2⟩ := List.any_eq_true.mp hv
      simp only [Bool.and_eq_true, beq_iff_eq] at hq2
      have b1 := List.all_eq_true.mp jx_cpl_ok q hq
      simp only [decide_eq_true_eq] at b1
      rw [hq2.1, hq2.2] at b1
      obtain ⟨hd1, kn, dp, cd, sp, ca, n0, n1, r, rfl, g1, g2, g3, g4, g5, g6, g7, g8, g9⟩ := h
      obtain ⟨hc1, hc2⟩ := hG.1 cd (by rw [g3]; exact Nat.le_of_ble_eq_true rfl)
      obtain ⟨hd3, hd2⟩ := hG.1 ca (by rw [g2]; exact Nat.le_of_ble_eq_true rfl)
      intro a1 a2 a3 a4 H locs la h1 h2 h3
      have r1 : jx_r kn := jx_rl_hd a2
      have r2 : jx_r dp := jx_rl_hd (jx_rl_tl a2)
      have r3 : jx_r sp := jx_rl_hd (jx_rl_tl (jx_rl_tl (jx_rl_tl a2)))
      have hat := jx_wl_at (ad := ad) (cA := cA) (G := G) (M := M) hc1 hc2
      have hat0 := jx_wl_at (ad := ad) (cA := cA) (G := G) (M := M) hd3 hd2
      rw [jx_ent1 g3] at hat
      rw [jx_ent1 g2] at hat0
      have hD := jx_D (ad := ad) (cA := cA) (G := G) (M := M) hi
      refine va_copyi hx hb (by rw [hml, hnL]; exact h1.1.symm) hown (hts _ (jx_gin _ b1 rfl)) (hts _ jx_cp_w.1) (hts _ jx_cp_w.2.1) (hts _ jx_cp_w.2.2) hK h2 hD h3 (ca - 1) (cd - 1) 0 0 hat0 hat rfl rfl rfl (fun z => ?_) (fun z => ?_) (fun z => ?_) ?_ ?_ (fun _ _ => rfl) hd1 ?_ hdec (fun H1 locs1 k1 k2 k3 => ?_)
      · rw [jx_i_lz r3] at z; omega
      · rw [jx_i_lz r2] at z; omega
      · rw [jx_i_lz r1] at z; omega
      · rw [jx_i_cl r3, jx_i_cl r1]; omega
      · rw [jx_i_cl r2, jx_i_cl r1]; omega
      · show ((r.map (jx_v ad)).map fun v => v.category).sum + (7 + 11) ≤ 36 * d
        rw [jx_cats]
        omega
      · rw [jx_i_cl r1, jx_i_cl r2, jx_i_cl r3, ← jx_arr_cp g4 g5 g6, ← jx_ent1 (ad := ad) (cA := cA) (M := jx_cp M ca sp cd dp kn) g3, jx_wl_set hc1 hc2 jx_cp_off] at k1
        have q := g9 a1 (jx_rl_tl (jx_rl_tl (jx_rl_tl (jx_rl_tl (jx_rl_tl a2))))) (jx_rM_cp a3) a4 H1 locs1 la h1 k1 k3
        rw [hn] at q
        exact q
    · obtain ⟨⟨⟨⟨rfl, rfl, rfl, rfl⟩, rfl⟩, hn⟩, hv⟩ := hck
      obtain ⟨q, hq, hq2⟩ := List.any_eq_true.mp hv
      simp only [Bool.and_eq_true, beq_iff_eq] at hq2
      have b1 := List.all_eq_true.mp jx_maxl_ok q hq
      simp only [decide_eq_true_eq] at b1
      rw [hq2.1, hq2.2] at b1
      obtain ⟨hd1, v, w, r, rfl, g1, g2⟩ := h
      intro a1 a2 a3 a4 H locs la h1 h2 h3
      have rw1 : jx_r w := jx_rl_hd a2
      have rv : jx_r v := jx_rl_hd (jx_rl_tl a2)
      have q := g2 a1 (jx_rl_cons (v := .inl (if v < w then w else v)) (show jx_r _ by split <;> assumption) (jx_rl_tl (jx_rl_tl a2))) a3 a4 H locs la h1 h2 h3
      rw [hn] at q
      refine va_mmax hx hb (by rw [hml, hnL]; exact h1.1.symm) hown (hts _ (jx_gin _ b1 rfl)) (hts _ jx_max_w.1) (hts _ jx_math_w) (hts _ jx_max_w.2) hd1 ?_ (Nat.zero_le _) (Nat.zero_le _) hdec ?_
      · rw [jx_cats]
        show r.length + 13 ≤ 36 * d
        omega
      · have e1 : (if Int32.ofInt v < Int32.ofInt w then Int32.ofInt w else Int32.ofInt v) = Int32.ofInt (if v < w then w else v) := by
          by_cases hz : v < w
          · rw [if_pos hz, if_pos ((jx_i_lt rv rw1).mpr hz)]
          · rw [if_neg hz, if_neg (fun z => hz ((jx_i_lt rv rw1).mp z))]
        rw [e1]
        exact q
    · obtain ⟨⟨⟨⟨rfl, rfl, rfl, rfl⟩, rfl⟩, hn⟩, hv⟩ := hck
      obtain ⟨q, hq, hq2⟩ := List.any_eq_true.mp hv
      simp only [Bool.and_eq_true, beq_iff_eq] at hq2
      have b1 := List.all_eq_true.mp jx_minl_ok q hq
      simp only [decide_eq_true_eq] at b1
      rw [hq2.1, hq2.2] at b1
      obtain ⟨hd1, v, w, r, rfl, g1, g2⟩ := h
      intro a1 a2 a3 a4 H locs la h1 h2 h3
      have rw1 : jx_r w := jx_rl_hd a2
      have rv : jx_r v := jx_rl_hd (jx_rl_tl a2)
      have q := g2 a1 (jx_rl_cons (v := .inl (if w < v then w else v)) (show jx_r _ by split <;> assumption) (jx_rl_tl (jx_rl_tl a2))) a3 a4 H locs la h1 h2 h3
      rw [hn] at q
      refine va_mmin hx hb (by rw [hml, hnL]; exact h1.1.symm) hown (hts _ (jx_gin _ b1 rfl)) (hts _ jx_min_w.1) (hts _ jx_math_w) (hts _ jx_min_w.2) hd1 ?_ (Nat.zero_le _) (Nat.zero_le _) hdec ?_
      · rw [jx_cats]
        show r.length + 13 ≤ 36 * d
        omega
      · have e1 : (if Int32.ofInt w < Int32.ofInt v then Int32.ofInt w else Int32.ofInt v) = Int32.ofInt (if w < v then w else v) := by
          by_cases hz : w < v
          · rw [if_pos hz, if_pos ((jx_i_lt rw1 rv).mpr hz)]
          · rw [if_neg hz, if_neg (fun z => hz ((jx_i_lt rw1 rv).mp z))]
        rw [e1]
        exact q
  all_goals (exact absurd hck Bool.false_ne_true)
end JU
theorem jx_retok : ∀ y, y < 128 → (jx_T y).2.all (fun x => (x.1 != 27 || decide ((jx_m y).2.2.2.1 = some .int ∨ (jx_m y).2.2.2.1 = some .boolean)) && (x.1 != 28 || decide ((jx_m y).2.2.2.1 = none)) && (x.1 != 29 || decide ((jx_m y).2.2.2.1 = some (.object "ReadingConverter$Ranking")))) = true := by decide +kernel
theorem jx_lg_len (ad : Nat → Nat) (as : List jxV) : (lg_sl (as.map (jx_v ad))).length = as.length := by
  induction as with
  | nil => rfl
  | cons v as ih =>
    have : lg_sl ((v :: as).map (jx_v ad)) = (lg_sl [jx_v ad v]) ++ lg_sl (as.map (jx_v ad)) := by
      simp [lg_sl]
    rw [this, List.length_append, ih]
    have h1 : (lg_sl [jx_v ad v]).length = 1 := by cases v <;> rfl
    rw [h1, List.length_cons]
    omega
theorem jx_args_mem (ad : Nat → Nat) (as : List jxV) : ∀ (k i : Nat) (v : jxV), as[i]? = some v → (k + i, jx_v ad v) ∈ lv_args k (as.map (jx_v ad)) := by
  induction as with
  | nil => intro k i v h; simp at h
  | cons w as ih =>
    intro k i v h
    have hc : ¬ (jx_v ad w).category = 2 := by rw [jx_v_cat]; decide
    simp only [List.map_cons, lv_args, if_neg hc]
    cases i with
    | zero =>
      simp at h
      subst h
      exact List.mem_cons_self
    | succ i =>
      simp at h
      refine List.mem_cons_of_mem _ ?_
      have := ih (k + 1) i v h
      rw [show k + (i + 1) = k + 1 + i by omega]
      exact this
set_option maxHeartbeats 4000000 in
theorem jx_one {l : Launch} {D : va_G} {ad : Nat → Nat} {cA : ClassId × ClassId × ClassId} {G : jxG} {n : Nat} (hG : jx_shape G n) (hi : jx_inj ad n) {d : Nat} (IH : jx_IH l D ad cA G n d) {y : Nat} {as : List jxV} {M : jxM} {K : jxK} (hy : y < 128) (has : as.length ≤ (jx_T y).1) (h : jx_call G jx_T (d + 1) y as M K) : jx_met l D ad cA G n d y as M K := by
  have hmk := jx_mall y hy
  obtain ⟨w1, w2, w3, ⟨w4, w5, w6, w7, w8, w9, w10, w11⟩, w12⟩ := hmk
  refine Met.ofW (cc := (jx_m y).2.1) (maxL := (jx_m y).2.2.1) (ret := (jx_m y).2.2.2.1) w4 rfl ?_
  intro p e s m args below meth c s₁ B hml hv
  obtain ⟨rfl, v1, v2, v3, v4, v5⟩ := hv
  have hts := atoms_spec (ws := jx_ws y) B.pre
  have cx : jx_cx p s m (as.map (jx_v ad)).toArray meth c D cA y := ⟨B.exec, B.bytes, hml, by rw [w8]; exact findClass_of_methodNamed B.named, B.returns, B.notSynchronized, fun w hw => hts w (List.mem_cons_of_mem _ hw), v4, v5⟩
  rw [lg_entry_eq]
  have hA := h (jx_AW p l e (jx_rm d) s m (as.map (jx_v ad)).toArray below meth c D ad cA G n (jx_m y).2.2.1 (jx_m y).2.2.2.2.2.2 (MQ below (jx_post D ad cA G n K) (as.map (jx_v ad)).toArray s 0 0 (jx_A ad n))) ⟨by
    intro pc ls st M' x hx hs
    have hk : pc < (jx_T y).2.length := (List.getElem?_eq_some_iff.mp hx).1
    have hc := List.all_eq_true.mp w12 pc (List.mem_range.mpr hk)
    have hxd : (jx_T y).2.getD pc (99, 0, 0, 0) = x := by rw [List.getD_eq_getElem?_getD, hx]; rfl
    rw [hxd] at hc
    cases hdc : decode (jx_m y).2.1 ((jx_m y).2.2.2.2.2.2.getD pc 0) with
    | error z => rw [hdc] at hc; exact absurd hc Bool.false_ne_true
    | ok q =>
      obtain ⟨ins, len⟩ := q
      rw [hdc] at hc
      have hrt := List.all_eq_true.mp (jx_retok y hy) x (List.mem_of_getElem? hx)
      simp only [Bool.and_eq_true, Bool.or_eq_true, bne_iff_ne, ne_eq, decide_eq_true_eq] at hrt
      exact jx_snd hG hi cx IH rfl rfl ⟨fun z => hrt.1.1.resolve_left (fun q => q z), fun z => hrt.1.2.resolve_left (fun q => q z), fun z => hrt.2.resolve_left (fun q => q z)⟩ hdc hc hs, by
    intro pc ls st M' a hs a1 a2 a3 a4 H locs la h1 h2 h3
    refine hs (jx_rl_set trivial a1) a2 a3 (by rw [List.length_set]; exact a4) H locs la ⟨h1.1, h1.2.1, fun i v hv ho => ?_⟩ h2 h3
    rw [List.getElem?_set] at hv
    by_cases hz : a = i
    · rw [if_pos hz] at hv
      split at hv
      · cases hv
        exact absurd ho Bool.false_ne_true
      · cases hv
    · rw [if_neg hz] at hv
      exact h1.2.2 i v hv ho⟩
  have hl := lv_entry (as.map (jx_v ad)) (n := (jx_m y).2.2.1) (by rw [jx_lg_len, ← w10]; exact has)
  rw [w10] at hA
  have := hA (fun v hv => by
      rcases List.mem_append.mp hv with hv | hv
      · exact v1 v hv
      · rw [List.eq_of_mem_replicate hv]; exact trivial) (fun v hv => by cases hv) v2 (by rw [List.length_append, List.length_replicate]; rw [w10] at has; omega) s.heap [] _ ⟨hl.1, hl.2.1, fun i v hv ho => by
      by_cases hz : i < as.length
      · rw [List.getElem?_append_left hz] at hv
        have q := hl.2.2 _ (jx_args_mem ad as 0 i v hv)
        simp only [Nat.zero_add] at q
        exact q
      · rw [List.getElem?_append_right (by omega)] at hv
        have := List.eq_of_mem_replicate (List.mem_of_getElem? hv)
        rw [this] at ho
        exact absurd ho Bool.false_ne_true⟩ v3 va_S.rf
  rw [w11] at this
  exact this
/-- THE PURE MACHINE IS SOUND -/
theorem jx_main (l : Launch) (D : va_G) (ad : Nat → Nat) (cA : ClassId × ClassId × ClassId) (G : jxG) (n : Nat) (hG : jx_shape G n) (hi : jx_inj ad n) : ∀ (d y : Nat) (as : List jxV) (M : jxM) (K : jxK), y < 128 → as.length ≤ (jx_T y).1 → jx_call G jx_T (d + 1) y as M K → jx_met l D ad cA G n d y as M K := by
  intro d
  induction d with
  | zero =>
    intro y as M K hy has h
    exact jx_one hG hi (fun d' y' as' M' K' hd => absurd hd (by omega)) hy has h
  | succ d ih =>
    intro y as M K hy has h
    refine jx_one hG hi (fun d' y' as' M' K' hd hy' has' hc => ?_) hy has h
    obtain rfl : d = d' := by omega
    exact ih y' as' M' K' hy' has' hc
theorem jx_shape1 : jx_shape jx_G1 jx_n1 := by
  refine ⟨fun c hc => ?_, fun c => ?_⟩
  · rcases Nat.lt_or_ge c 102 with q | q
    · have : ∀ c, c < 102 → (jx_G1.1 c).1 < 9 → 1 ≤ c ∧ c ≤ jx_n1 := by decide +kernel
      exact this c q hc
    · have e : jx_kd1[c]? = none := List.getElem?_eq_none (by show 102 ≤ c; exact q)
      exact absurd hc (by show ¬ ((jx_kd1[c]?).getD (9, 0)).1 < 9; rw [e]; exact Nat.lt_irrefl 9)
  · rcases Nat.lt_or_ge c 102 with q | q
    · have : ∀ c, c < 102 → (jx_G1.1 c).2 < 2147483648 := by decide +kernel
      exact this c q
    · have e : jx_kd1[c]? = none := List.getElem?_eq_none (by show 102 ≤ c; exact q)
      show ((jx_kd1[c]?).getD (9, 0)).2 < 2147483648
      rw [e]
      exact Nat.le_of_ble_eq_true rfl
theorem jx_shape2 : jx_shape jx_G2 jx_n2 := by
  refine ⟨fun c hc => ?_, fun c => ?_⟩
  · rcases Nat.lt_or_ge c 16 with q | q
    · have : ∀ c, c < 16 → (jx_G2.1 c).1 < 9 → 1 ≤ c ∧ c ≤ jx_n2 := by decide +kernel
      exact this c q hc
    · have e : jx_kd2[c]? = none := List.getElem?_eq_none (by show 16 ≤ c; exact q)
      exact absurd hc (by show ¬ ((jx_kd2[c]?).getD (9, 0)).1 < 9; rw [e]; exact Nat.lt_irrefl 9)
  · rcases Nat.lt_or_ge c 16 with q | q
    · have : ∀ c, c < 16 → (jx_G2.1 c).2 < 2147483648 := by decide +kernel
      exact this c q
    · have e : jx_kd2[c]? = none := List.getElem?_eq_none (by show 16 ≤ c; exact q)
      show ((jx_kd2[c]?).getD (9, 0)).2 < 2147483648
      rw [e]
      exact Nat.le_of_ble_eq_true rfl
end
section
theorem jx_stp_mono {G : jxG} {d : Nat} {C : Nat → List jxV → jxM → jxK → Prop} {K1 K2 : jxK} {X : jxX} (hK : ∀ r M', K1 r M' → K2 r M') {i : jxI} {pc : Nat} {ls st : List jxV} {M : jxM} (h : jx_stp G d C K1 X i pc ls st M) : jx_stp G d C K2 X i pc ls st M := by
  unfold jx_stp at h ⊢
  split at h <;> first
    | exact h
    | (obtain ⟨v, h1, h2, h3⟩ := h; exact ⟨v, h1, h2, hK _ _ h3⟩)
    | (obtain ⟨h1, h3⟩ := h; exact ⟨h1, hK _ _ h3⟩)
    | (obtain ⟨v, h1, h3⟩ := h; exact ⟨v, h1, hK _ _ h3⟩)
theorem jx_mono {G : jxG} {T : Nat → Nat × List jxI} {d y : Nat} {as : List jxV} {M : jxM} {K1 K2 : jxK} (hK : ∀ r M', K1 r M' → K2 r M') (h : jx_call G T d y as M K1) : jx_call G T d y as M K2 := by
  cases d with
  | zero => exact h
  | succ d => exact fun X hX => h X ⟨fun pc ls st M i hi hs => hX.1 pc ls st M i hi (jx_stp_mono hK hs), hX.2⟩
noncomputable def jx_b (p : Prop) : Int := @ite Int p (Classical.propDecidable p) 1 0
theorem jx_bt {p : Prop} (h : p) : jx_b p = 1 := by unfold jx_b; rw [if_pos h]
theorem jx_bf {p : Prop} (h : ¬ p) : jx_b p = 0 := by unfold jx_b; rw [if_neg h]
theorem jx_b01 (p : Prop) : jx_b p = 0 ∨ jx_b p = 1 := by
  by_cases h : p
  · exact Or.inr (jx_bt h)
  · exact Or.inl (jx_bf h)
theorem jx_bc {p q : Prop} (h : p ↔ q) : jx_b p = jx_b q := by rw [propext h]
theorem jx_upc {M : jxM} {c c' : Nat} {x v y : Int} (h : c' ≠ c) : jx_up M c x v c' y = M c' y := by unfold jx_up; rw [if_neg (fun q => h q.1)]
theorem jx_ups {M : jxM} {c : Nat} {x v : Int} : jx_up M c x v c x = v := by unfold jx_up; rw [if_pos ⟨rfl, rfl⟩]
theorem jx_upx {M : jxM} {c : Nat} {x v y : Int} (h : y ≠ x) : jx_up M c x v c y = M c y := by unfold jx_up; rw [if_neg (fun q => h q.2)]
theorem jx_cpc {M : jxM} {a b c : Nat} {sp dp n y : Int} (h : c ≠ b) : jx_cp M a sp b dp n c y = M c y := by unfold jx_cp; rw [if_neg (fun q => h q.1)]
theorem jx_cases6 {x : Int} (h : 0 ≤ x ∧ x < 6) : x = 0 ∨ x = 1 ∨ x = 2 ∨ x = 3 ∨ x = 4 ∨ x = 5 := by omega
theorem jx_vB {K : jxK} {M : jxM} {x y : Int} (h : x = y) (k : K (some (.inl y)) M) : K (some (.inl x)) M := (congrArg (fun z => K (some (.inl z)) M) h).mpr k
section JY
variable {G : jxG} {d : Nat} {C : Nat → List jxV → jxM → jxK → Prop} {T : List jxI} {K : jxK} {X : jxX} {pc : Nat} {ls st : List jxV} {M : jxM}
theorem jx_vX {x y : Int} (h : x = y) (k : X pc ls (.inl y :: st) M) : X pc ls (.inl x :: st) M := (congrArg (fun z => X pc ls (.inl z :: st) M) h).mpr k
theorem jx_vR {x y : Nat} (h : x = y) (k : X pc ls (.inr y :: st) M) : X pc ls (.inr x :: st) M := (congrArg (fun z => X pc ls (.inr z :: st) M) h).mpr k
theorem jk_zeqB (hX : jx_clo G d C T K X) (a : Nat) {p : Prop} (h : T[pc]? = some (12, a, 0, 0)) (k1 : ¬ p → X a ls st M) (k2 : p → X (pc + 1) ls st M) : X pc ls (.inl (jx_b p) :: st) M := jk_zeq hX a h (fun q => k1 (fun hp => by rw [jx_bt hp] at q; exact absurd q (by decide))) (fun q => k2 (Classical.byContradiction (fun hp => q (jx_bf hp))))
theorem jk_zneB (hX : jx_clo G d C T K X) (a : Nat) {p : Prop} (h : T[pc]? = some (12, a, 1, 0)) (k1 : p → X a ls st M) (k2 : ¬ p → X (pc + 1) ls st M) : X pc ls (.inl (jx_b p) :: st) M := jk_zne hX a h (fun q => k1 (Classical.byContradiction (fun hp => q (jx_bf hp)))) (fun q => k2 (fun hp => by rw [jx_bt hp] at q; exact absurd q (by decide)))
end JY
end
section
set_option maxHeartbeats 4000000 in
theorem bk_C_isOutside_0 {d : Nat} {K : jxK} {X : jxX} (hX : jx_clo jx_G1 (d + 0) (jx_call jx_G1 jx_T (d + 0)) kc_C_isOutside K X) (v0 : Int) (v1 : Int) (v2 : Int) (M : jxM)
    (h : ((v0 < v1 → K (some (.inl 1)) M) ∧ (v1 ≤ v0 → ((v0 ≤ v2 → K (some (.inl 0)) M) ∧ (v2 < v0 → K (some (.inl 1)) M))))) :
    X 0 [.inl v0, .inl v1, .inl v2] [] M := by
  refine jk_load (pc := 0) hX 0 rfl rfl ?_
  refine jk_load (pc := 1) hX 1 rfl rfl ?_
  refine jk_clt (pc := 2) hX 6 rfl (fun q7 => ?_) (fun q8 => ?_)
  · have h1 := h.1 q7
    refine jk_const (pc := 6) hX 1 rfl (by decide) ?_
    refine jk_goto (pc := 7) hX 9 rfl ?_
    exact jk_zret (pc := 9) hX rfl (Or.inr rfl) h1
  · have h2 := h.2 q8
    refine jk_load (pc := 3) hX 0 rfl rfl ?_
    refine jk_load (pc := 4) hX 2 rfl rfl ?_
    refine jk_cle (pc := 5) hX 8 rfl (fun q5 => ?_) (fun q6 => ?_)
    · have h3 := h2.1 q5
      refine jk_const (pc := 8) hX 0 rfl (by decide) ?_
      exact jk_zret (pc := 9) hX rfl (Or.inl rfl) h3
    · have h4 := h2.2 q6
      refine jk_const (pc := 6) hX 1 rfl (by decide) ?_
      refine jk_goto (pc := 7) hX 9 rfl ?_
      exact jk_zret (pc := 9) hX rfl (Or.inr rfl) h4
set_option maxHeartbeats 4000000 in
theorem bk_M_connection_0 {d : Nat} {K : jxK} {X : jxX} (hX : jx_clo jx_G1 (d + 0) (jx_call jx_G1 jx_T (d + 0)) kc_M_connection K X) (v1 : Int) (v2 : Int) (M : jxM)
    (h : (((-2147483648 : Int) ≤ v1 * 7 ∧ v1 * 7 ≤ 2147483647) ∧ ((-2147483648 : Int) ≤ (v1 * 7) + v2 ∧ (v1 * 7) + v2 ≤ 2147483647) ∧ (0 ≤ ((v1 * 7) + v2) ∧ ((v1 * 7) + v2) < 49)) ∧ K (some (.inl (M 12 ((v1 * 7) + v2)))) M) :
    X 0 [.inr 4, .inl v1, .inl v2] [] M := by
  obtain ⟨⟨g1, g2, g3⟩, h4⟩ := h
  refine jk_aload (pc := 0) hX 0 rfl rfl ?_
  refine jk_getR (pc := 1) hX 3 1 rfl rfl (r := 11) rfl ?_
  refine jk_load (pc := 2) hX 1 rfl rfl ?_
  refine jk_const (pc := 3) hX 7 rfl (by decide) ?_
  refine jk_mul (pc := 4) hX rfl g1 ?_
  refine jk_load (pc := 5) hX 2 rfl rfl ?_
  refine jk_add (pc := 6) hX rfl g2 ?_
  refine jk_iald (pc := 7) hX 49 rfl rfl g3 ?_
  exact jk_iret (pc := 8) hX rfl h4
set_option maxHeartbeats 4000000 in
theorem bk_L_stateBehind_0 {d : Nat} {K : jxK} {X : jxX} (hX : jx_clo jx_G1 (d + 0) (jx_call jx_G1 jx_T (d + 0)) kc_L_stateBehind K X) (v1 : Int) (M : jxM)
    (h : ((0 ≤ v1 ∧ v1 < 357) ∧ ((-2147483648 : Int) ≤ (M 87 v1) * 7 ∧ (M 87 v1) * 7 ≤ 2147483647) ∧ (0 ≤ v1 ∧ v1 < 357) ∧ ((-2147483648 : Int) ≤ ((M 87 v1) * 7) + (M 88 v1) ∧ ((M 87 v1) * 7) + (M 88 v1) ≤ 2147483647)) ∧ K (some (.inl (((M 87 v1) * 7) + (M 88 v1)))) M) :
    X 0 [.inr 83, .inl v1] [] M := by
  obtain ⟨⟨g1, g2, g3, g4⟩, h5⟩ := h
  refine jk_aload (pc := 0) hX 0 rfl rfl ?_
  refine jk_getR (pc := 1) hX 2 4 rfl rfl (r := 86) rfl ?_
  refine jk_load (pc := 2) hX 1 rfl rfl ?_
  refine jk_iald (pc := 3) hX 357 rfl rfl g1 ?_
  refine jk_const (pc := 4) hX 7 rfl (by decide) ?_
  refine jk_mul (pc := 5) hX rfl g2 ?_
  refine jk_aload (pc := 6) hX 0 rfl rfl ?_
  refine jk_getR (pc := 7) hX 2 5 rfl rfl (r := 87) rfl ?_
  refine jk_load (pc := 8) hX 1 rfl rfl ?_
  refine jk_iald (pc := 9) hX 357 rfl rfl g3 ?_
  refine jk_add (pc := 10) hX rfl g4 ?_
  exact jk_iret (pc := 11) hX rfl h5
set_option maxHeartbeats 4000000 in
theorem bk_R_leastFrom_0 {d : Nat} {K : jxK} {X : jxX} (hX : jx_clo jx_G1 (d + 0) (jx_call jx_G1 jx_T (d + 0)) kc_R_leastFrom K X) (v1 : Int) (M : jxM)
    (h : ((0 ≤ v1 ∧ v1 < 119)) ∧ (((M 93 v1) ≤ 0 → K (some (.inl 1000000)) M) ∧ (0 < (M 93 v1) → (((-2147483648 : Int) ≤ v1 * 20 ∧ v1 * 20 ≤ 2147483647) ∧ (0 ≤ (v1 * 20) ∧ (v1 * 20) < 2380)) ∧ K (some (.inl (M 94 (v1 * 20)))) M))) :
    X 0 [.inr 90, .inl v1] [] M := by
  obtain ⟨g1, h9⟩ := h
  refine jk_aload (pc := 0) hX 0 rfl rfl ?_
  refine jk_getR (pc := 1) hX 4 4 rfl rfl (r := 92) rfl ?_
  refine jk_load (pc := 2) hX 1 rfl rfl ?_
  refine jk_iald (pc := 3) hX 119 rfl rfl g1 ?_
  refine jk_zle (pc := 4) hX 12 rfl (fun q7 => ?_) (fun q8 => ?_)
  · have h2 := h9.1 q7
    refine jk_const (pc := 12) hX 1000000 rfl (by decide) ?_
    exact jk_iret (pc := 13) hX rfl h2
  · have h3 := h9.2 q8
    obtain ⟨⟨g4, g5⟩, h6⟩ := h3
    refine jk_aload (pc := 5) hX 0 rfl rfl ?_
    refine jk_getR (pc := 6) hX 4 5 rfl rfl (r := 93) rfl ?_
    refine jk_load (pc := 7) hX 1 rfl rfl ?_
    refine jk_const (pc := 8) hX 20 rfl (by decide) ?_
    refine jk_mul (pc := 9) hX rfl g4 ?_
    refine jk_iald (pc := 10) hX 2380 rfl rfl g5 ?_
    refine jk_goto (pc := 11) hX 13 rfl ?_
    exact jk_iret (pc := 13) hX rfl h6
set_option maxHeartbeats 4000000 in
theorem bk_R_hasRank_0 {d : Nat} {K : jxK} {X : jxX} (hX : jx_clo jx_G1 (d + 0) (jx_call jx_G1 jx_T (d + 0)) kc_R_hasRank K X) (v1 : Int) (M : jxM)
    (h : (((M 93 6) ≤ v1 → K (some (.inl 0)) M) ∧ (v1 < (M 93 6) → K (some (.inl 1)) M))) :
    X 0 [.inr 90, .inl v1] [] M := by
  refine jk_load (pc := 0) hX 1 rfl rfl ?_
  refine jk_aload (pc := 1) hX 0 rfl rfl ?_
  refine jk_getR (pc := 2) hX 4 4 rfl rfl (r := 92) rfl ?_
  refine jk_const (pc := 3) hX 6 rfl (by decide) ?_
  refine jk_iald (pc := 4) hX 119 rfl rfl (by decide) ?_
  refine jk_cge (pc := 5) hX 8 rfl (fun q3 => ?_) (fun q4 => ?_)
  · have h1 := h.1 q3
    refine jk_const (pc := 8) hX 0 rfl (by decide) ?_
    exact jk_zret (pc := 9) hX rfl (Or.inl rfl) h1
  · have h2 := h.2 q4
    refine jk_const (pc := 6) hX 1 rfl (by decide) ?_
    refine jk_goto (pc := 7) hX 9 rfl ?_
    exact jk_zret (pc := 9) hX rfl (Or.inr rfl) h2
set_option maxHeartbeats 4000000 in
theorem bk_R_costAtRank_0 {d : Nat} {K : jxK} {X : jxX} (hX : jx_clo jx_G1 (d + 0) (jx_call jx_G1 jx_T (d + 0)) kc_R_costAtRank K X) (v1 : Int) (M : jxM)
    (h : (((-2147483648 : Int) ≤ 120 + v1 ∧ 120 + v1 ≤ 2147483647) ∧ (0 ≤ (120 + v1) ∧ (120 + v1) < 2380)) ∧ K (some (.inl (M 94 (120 + v1)))) M) :
    X 0 [.inr 90, .inl v1] [] M := by
  obtain ⟨⟨g1, g2⟩, h3⟩ := h
  refine jk_aload (pc := 0) hX 0 rfl rfl ?_
  refine jk_getR (pc := 1) hX 4 5 rfl rfl (r := 93) rfl ?_
  refine jk_const (pc := 2) hX 120 rfl (by decide) ?_
  refine jk_load (pc := 3) hX 1 rfl rfl ?_
  refine jk_add (pc := 4) hX rfl g1 ?_
  refine jk_iald (pc := 5) hX 2380 rfl rfl g2 ?_
  exact jk_iret (pc := 6) hX rfl h3
set_option maxHeartbeats 4000000 in
theorem bk_R_allPaths_0 {d : Nat} {K : jxK} {X : jxX} (hX : jx_clo jx_G1 (d + 0) (jx_call jx_G1 jx_T (d + 0)) kc_R_allPaths K X) (M : jxM)
    (h : K (some (.inl (M 99 0))) M) :
    X 0 [.inr 90] [] M := by
  refine jk_aload (pc := 0) hX 0 rfl rfl ?_
  refine jk_getR (pc := 1) hX 4 10 rfl rfl (r := 98) rfl ?_
  refine jk_const (pc := 2) hX 0 rfl (by decide) ?_
  refine jk_iald (pc := 3) hX 17 rfl rfl (by decide) ?_
  exact jk_iret (pc := 4) hX rfl h
set_option maxHeartbeats 4000000 in
theorem bk_R_bestPaths_0 {d : Nat} {K : jxK} {X : jxX} (hX : jx_clo jx_G1 (d + 0) (jx_call jx_G1 jx_T (d + 0)) kc_R_bestPaths K X) (M : jxM)
    (h : K (some (.inl (M 92 6))) M) :
    X 0 [.inr 90] [] M := by
  refine jk_aload (pc := 0) hX 0 rfl rfl ?_
  refine jk_getR (pc := 1) hX 4 3 rfl rfl (r := 91) rfl ?_
  refine jk_const (pc := 2) hX 6 rfl (by decide) ?_
  refine jk_iald (pc := 3) hX 119 rfl rfl (by decide) ?_
  exact jk_iret (pc := 4) hX rfl h
set_option maxHeartbeats 4000000 in
theorem bk_D_beginsWith_0 {d : Nat} {K : jxK} {X : jxX} (hX : jx_clo jx_G1 (d + 0) (jx_call jx_G1 jx_T (d + 0)) kc_D_beginsWith K X) (v1 : Int) (M : jxM)
    (h : ((0 ≤ v1 ∧ v1 < 20)) ∧ (((M 2 1) ≤ (M 7 v1) → X 11 [.inr 5, .inl v1, .inr 2, .inl 0] [] M) ∧ ((M 7 v1) < (M 2 1) → K (some (.inl 0)) M))) :
    X 0 [.inr 5, .inl v1, .inr 2, .inr 0] [] M := by
  obtain ⟨g1, h6⟩ := h
  refine jk_aload (pc := 0) hX 2 rfl rfl ?_
  refine jk_getI (pc := 1) hX 5 1 rfl rfl rfl ?_
  refine jk_aload (pc := 2) hX 0 rfl rfl ?_
  refine jk_getR (pc := 3) hX 0 1 rfl rfl (r := 6) rfl ?_
  refine jk_load (pc := 4) hX 1 rfl rfl ?_
  refine jk_iald (pc := 5) hX 20 rfl rfl g1 ?_
  refine jk_cle (pc := 6) hX 9 rfl (fun q4 => ?_) (fun q5 => ?_)
  · have h2 := h6.1 q4
    refine jk_const (pc := 9) hX 0 rfl (by decide) ?_
    refine jk_store (pc := 10) hX 3 rfl (Nat.le_of_ble_eq_true rfl) (ls' := [.inr 5, .inl v1, .inr 2, .inl 0]) rfl ?_
    exact h2
  · have h3 := h6.2 q5
    refine jk_const (pc := 7) hX 0 rfl (by decide) ?_
    exact jk_zret (pc := 8) hX rfl (Or.inl rfl) h3
set_option maxHeartbeats 4000000 in
theorem bk_D_beginsWith_11 {d : Nat} {K : jxK} {X : jxX} (hX : jx_clo jx_G1 (d + 0) (jx_call jx_G1 jx_T (d + 0)) kc_D_beginsWith K X) (v1 : Int) (v3 : Int) (M : jxM)
    (h : (((M 2 1) ≤ v3 → K (some (.inl 1)) M) ∧ (v3 < (M 2 1) → (((-2147483648 : Int) ≤ v1 * 6 ∧ v1 * 6 ≤ 2147483647) ∧ ((-2147483648 : Int) ≤ (v1 * 6) + v3 ∧ (v1 * 6) + v3 ≤ 2147483647) ∧ (0 ≤ ((v1 * 6) + v3) ∧ ((v1 * 6) + v3) < 120) ∧ (0 ≤ v3 ∧ v3 < 20)) ∧ (((M 6 ((v1 * 6) + v3)) = (M 3 v3) → (((-2147483648 : Int) ≤ v3 + 1 ∧ v3 + 1 ≤ 2147483647)) ∧ X 11 [.inr 5, .inl v1, .inr 2, .inl (v3 + 1)] [] M) ∧ ((M 6 ((v1 * 6) + v3)) ≠ (M 3 v3) → K (some (.inl 0)) M))))) :
    X 11 [.inr 5, .inl v1, .inr 2, .inl v3] [] M := by
  refine jk_load (pc := 11) hX 3 rfl rfl ?_
  refine jk_aload (pc := 12) hX 2 rfl rfl ?_
  refine jk_getI (pc := 13) hX 5 1 rfl rfl rfl ?_
  refine jk_cge (pc := 14) hX 32 rfl (fun q14 => ?_) (fun q15 => ?_)
  · have h1 := h.1 q14
    refine jk_const (pc := 32) hX 1 rfl (by decide) ?_
    exact jk_zret (pc := 33) hX rfl (Or.inr rfl) h1
  · have h2 := h.2 q15
    obtain ⟨⟨g3, g4, g5, g6⟩, h13⟩ := h2
    refine jk_aload (pc := 15) hX 0 rfl rfl ?_
    refine jk_getR (pc := 16) hX 0 0 rfl rfl (r := 5) rfl ?_
    refine jk_load (pc := 17) hX 1 rfl rfl ?_
    refine jk_const (pc := 18) hX 6 rfl (by decide) ?_
    refine jk_mul (pc := 19) hX rfl g3 ?_
    refine jk_load (pc := 20) hX 3 rfl rfl ?_
    refine jk_add (pc := 21) hX rfl g4 ?_
    refine jk_iald (pc := 22) hX 120 rfl rfl g5 ?_
    refine jk_aload (pc := 23) hX 2 rfl rfl ?_
    refine jk_getR (pc := 24) hX 5 0 rfl rfl (r := 2) rfl ?_
    refine jk_load (pc := 25) hX 3 rfl rfl ?_
    refine jk_iald (pc := 26) hX 20 rfl rfl g6 ?_
    refine jk_ceq (pc := 27) hX 30 rfl (fun q11 => ?_) (fun q12 => ?_)
    · have h7 := h13.1 q11
      obtain ⟨g9, h10⟩ := h7
      refine jk_iinc (pc := 30) hX 3 1 rfl rfl g9 (ls' := [.inr 5, .inl v1, .inr 2, .inl (v3 + 1)]) rfl ?_
      refine jk_goto (pc := 31) hX 11 rfl ?_
      exact h10
    · have h8 := h13.2 q12
      refine jk_const (pc := 28) hX 0 rfl (by decide) ?_
      exact jk_zret (pc := 29) hX rfl (Or.inl rfl) h8
set_option maxHeartbeats 4000000 in
theorem bk_M_standsAt_0 {d : Nat} {K : jxK} {X : jxX} (hX : jx_clo jx_G1 (d + 0) (jx_call jx_G1 jx_T (d + 0)) kc_M_standsAt K X) (v1 : Int) (v2 : Int) (M : jxM)
    (h : ((0 ≤ v1 ∧ v1 < 20) ∧ ((-2147483648 : Int) ≤ v2 + (M 7 v1) ∧ v2 + (M 7 v1) ≤ 2147483647)) ∧ (((v2 + (M 7 v1)) ≤ (M 4 5) → X 16 [.inr 4, .inl v1, .inl v2, .inl (M 7 v1), .inl 0] [] M) ∧ ((M 4 5) < (v2 + (M 7 v1)) → K (some (.inl 0)) M))) :
    X 0 [.inr 4, .inl v1, .inl v2, .inr 0, .inr 0] [] M := by
  obtain ⟨⟨g1, g2⟩, h7⟩ := h
  refine jk_aload (pc := 0) hX 0 rfl rfl ?_
  refine jk_getR (pc := 1) hX 3 0 rfl rfl (r := 4) rfl ?_
  refine jk_getR (pc := 2) hX 0 1 rfl rfl (r := 6) rfl ?_
  refine jk_load (pc := 3) hX 1 rfl rfl ?_
  refine jk_iald (pc := 4) hX 20 rfl rfl g1 ?_
  refine jk_store (pc := 5) hX 3 rfl (Nat.le_of_ble_eq_true rfl) (ls' := [.inr 4, .inl v1, .inl v2, .inl (M 7 v1), .inr 0]) rfl ?_
  refine jk_load (pc := 6) hX 2 rfl rfl ?_
  refine jk_load (pc := 7) hX 3 rfl rfl ?_
  refine jk_add (pc := 8) hX rfl g2 ?_
  refine jk_aload (pc := 9) hX 0 rfl rfl ?_
  refine jk_getI (pc := 10) hX 3 5 rfl rfl rfl ?_
  refine jk_cle (pc := 11) hX 14 rfl (fun q5 => ?_) (fun q6 => ?_)
  · have h3 := h7.1 q5
    refine jk_const (pc := 14) hX 0 rfl (by decide) ?_
    refine jk_store (pc := 15) hX 4 rfl (Nat.le_of_ble_eq_true rfl) (ls' := [.inr 4, .inl v1, .inl v2, .inl (M 7 v1), .inl 0]) rfl ?_
    exact h3
  · have h4 := h7.2 q6
    refine jk_const (pc := 12) hX 0 rfl (by decide) ?_
    exact jk_zret (pc := 13) hX rfl (Or.inl rfl) h4
set_option maxHeartbeats 4000000 in
theorem bk_M_standsAt_16 {d : Nat} {K : jxK} {X : jxX} (hX : jx_clo jx_G1 (d + 0) (jx_call jx_G1 jx_T (d + 0)) kc_M_standsAt K X) (v1 : Int) (v2 : Int) (v3 : Int) (v4 : Int) (M : jxM)
    (h : ((v3 ≤ v4 → K (some (.inl 1)) M) ∧ (v4 < v3 → (((-2147483648 : Int) ≤ v1 * 6 ∧ v1 * 6 ≤ 2147483647) ∧ ((-2147483648 : Int) ≤ (v1 * 6) + v4 ∧ (v1 * 6) + v4 ≤ 2147483647) ∧ (0 ≤ ((v1 * 6) + v4) ∧ ((v1 * 6) + v4) < 120) ∧ ((-2147483648 : Int) ≤ v2 + v4 ∧ v2 + v4 ≤ 2147483647) ∧ (0 ≤ (v2 + v4) ∧ (v2 + v4) < 16)) ∧ (((M 6 ((v1 * 6) + v4)) = (M 13 (v2 + v4)) → (((-2147483648 : Int) ≤ v4 + 1 ∧ v4 + 1 ≤ 2147483647)) ∧ X 16 [.inr 4, .inl v1, .inl v2, .inl v3, .inl (v4 + 1)] [] M) ∧ ((M 6 ((v1 * 6) + v4)) ≠ (M 13 (v2 + v4)) → K (some (.inl 0)) M))))) :
    X 16 [.inr 4, .inl v1, .inl v2, .inl v3, .inl v4] [] M := by
  refine jk_load (pc := 16) hX 4 rfl rfl ?_
  refine jk_load (pc := 17) hX 3 rfl rfl ?_
  refine jk_cge (pc := 18) hX 39 rfl (fun q15 => ?_) (fun q16 => ?_)
  · have h1 := h.1 q15
    refine jk_const (pc := 39) hX 1 rfl (by decide) ?_
    exact jk_zret (pc := 40) hX rfl (Or.inr rfl) h1
  · have h2 := h.2 q16
    obtain ⟨⟨g3, g4, g5, g6, g7⟩, h14⟩ := h2
    refine jk_aload (pc := 19) hX 0 rfl rfl ?_
    refine jk_getR (pc := 20) hX 3 0 rfl rfl (r := 4) rfl ?_
    refine jk_getR (pc := 21) hX 0 0 rfl rfl (r := 5) rfl ?_
    refine jk_load (pc := 22) hX 1 rfl rfl ?_
    refine jk_const (pc := 23) hX 6 rfl (by decide) ?_
    refine jk_mul (pc := 24) hX rfl g3 ?_
    refine jk_load (pc := 25) hX 4 rfl rfl ?_
    refine jk_add (pc := 26) hX rfl g4 ?_
    refine jk_iald (pc := 27) hX 120 rfl rfl g5 ?_
    refine jk_aload (pc := 28) hX 0 rfl rfl ?_
    refine jk_getR (pc := 29) hX 3 2 rfl rfl (r := 12) rfl ?_
    refine jk_load (pc := 30) hX 2 rfl rfl ?_
    refine jk_load (pc := 31) hX 4 rfl rfl ?_
    refine jk_add (pc := 32) hX rfl g6 ?_
    refine jk_iald (pc := 33) hX 16 rfl rfl g7 ?_
    refine jk_ceq (pc := 34) hX 37 rfl (fun q12 => ?_) (fun q13 => ?_)
    · have h8 := h14.1 q12
      obtain ⟨g10, h11⟩ := h8
      refine jk_iinc (pc := 37) hX 4 1 rfl rfl g10 (ls' := [.inr 4, .inl v1, .inl v2, .inl v3, .inl (v4 + 1)]) rfl ?_
      refine jk_goto (pc := 38) hX 16 rfl ?_
      exact h11
    · have h9 := h14.2 q13
      refine jk_const (pc := 35) hX 0 rfl (by decide) ?_
      exact jk_zret (pc := 36) hX rfl (Or.inl rfl) h9
set_option maxHeartbeats 4000000 in
theorem bk_M_allowsSegment_0 {d : Nat} {K : jxK} {X : jxX} (hX : jx_clo jx_G1 (d + 0) (jx_call jx_G1 jx_T (d + 0)) kc_M_allowsSegment K X) (v1 : Int) (v2 : Int) (M : jxM)
    (h : ((0 ≤ v2 ∧ v2 < 17)) ∧ (((M 14 v2) ≠ 2 → (((-2147483648 : Int) ≤ v1 + 1 ∧ v1 + 1 ≤ 2147483647)) ∧ X 12 [.inr 4, .inl v1, .inl v2, .inl (v1 + 1)] [] M) ∧ ((M 14 v2) = 2 → K (some (.inl 0)) M))) :
    X 0 [.inr 4, .inl v1, .inl v2, .inr 0] [] M := by
  obtain ⟨g1, h8⟩ := h
  refine jk_aload (pc := 0) hX 0 rfl rfl ?_
  refine jk_getR (pc := 1) hX 3 3 rfl rfl (r := 13) rfl ?_
  refine jk_load (pc := 2) hX 2 rfl rfl ?_
  refine jk_iald (pc := 3) hX 17 rfl rfl g1 ?_
  refine jk_const (pc := 4) hX 2 rfl (by decide) ?_
  refine jk_cne (pc := 5) hX 8 rfl (fun q6 => ?_) (fun q7 => ?_)
  · have h2 := h8.1 q6
    obtain ⟨g4, h5⟩ := h2
    refine jk_load (pc := 8) hX 1 rfl rfl ?_
    refine jk_const (pc := 9) hX 1 rfl (by decide) ?_
    refine jk_add (pc := 10) hX rfl g4 ?_
    refine jk_store (pc := 11) hX 3 rfl (Nat.le_of_ble_eq_true rfl) (ls' := [.inr 4, .inl v1, .inl v2, .inl (v1 + 1)]) rfl ?_
    exact h5
  · have h3 := h8.2 q7
    refine jk_const (pc := 6) hX 0 rfl (by decide) ?_
    exact jk_zret (pc := 7) hX rfl (Or.inl rfl) h3
set_option maxHeartbeats 4000000 in
theorem bk_M_allowsSegment_12 {d : Nat} {K : jxK} {X : jxX} (hX : jx_clo jx_G1 (d + 0) (jx_call jx_G1 jx_T (d + 0)) kc_M_allowsSegment K X) (v1 : Int) (v2 : Int) (v3 : Int) (M : jxM)
    (h : ((v2 ≤ v3 → K (some (.inl 1)) M) ∧ (v3 < v2 → ((0 ≤ v3 ∧ v3 < 17)) ∧ (((M 14 v3) ≠ 1 → (((-2147483648 : Int) ≤ v3 + 1 ∧ v3 + 1 ≤ 2147483647)) ∧ X 12 [.inr 4, .inl v1, .inl v2, .inl (v3 + 1)] [] M) ∧ ((M 14 v3) = 1 → K (some (.inl 0)) M))))) :
    X 12 [.inr 4, .inl v1, .inl v2, .inl v3] [] M := by
  refine jk_load (pc := 12) hX 3 rfl rfl ?_
  refine jk_load (pc := 13) hX 2 rfl rfl ?_
  refine jk_cge (pc := 14) hX 25 rfl (fun q11 => ?_) (fun q12 => ?_)
  · have h1 := h.1 q11
    refine jk_const (pc := 25) hX 1 rfl (by decide) ?_
    exact jk_zret (pc := 26) hX rfl (Or.inr rfl) h1
  · have h2 := h.2 q12
    obtain ⟨g3, h10⟩ := h2
    refine jk_aload (pc := 15) hX 0 rfl rfl ?_
    refine jk_getR (pc := 16) hX 3 3 rfl rfl (r := 13) rfl ?_
    refine jk_load (pc := 17) hX 3 rfl rfl ?_
    refine jk_iald (pc := 18) hX 17 rfl rfl g3 ?_
    refine jk_const (pc := 19) hX 1 rfl (by decide) ?_
    refine jk_cne (pc := 20) hX 23 rfl (fun q8 => ?_) (fun q9 => ?_)
    · have h4 := h10.1 q8
      obtain ⟨g6, h7⟩ := h4
      refine jk_iinc (pc := 23) hX 3 1 rfl rfl g6 (ls' := [.inr 4, .inl v1, .inl v2, .inl (v3 + 1)]) rfl ?_
      refine jk_goto (pc := 24) hX 12 rfl ?_
      exact h7
    · have h5 := h10.2 q9
      refine jk_const (pc := 21) hX 0 rfl (by decide) ?_
      exact jk_zret (pc := 22) hX rfl (Or.inl rfl) h5
set_option maxHeartbeats 4000000 in
theorem bk_R_trailHolds_0 {d : Nat} {K : jxK} {X : jxX} (hX : jx_clo jx_G1 (d + 0) (jx_call jx_G1 jx_T (d + 0)) kc_R_trailHolds K X) (v1 : Int) (M : jxM)
    (h : X 2 [.inr 90, .inl v1, .inl 0] [] M) :
    X 0 [.inr 90, .inl v1, .inr 0] [] M := by
  refine jk_const (pc := 0) hX 0 rfl (by decide) ?_
  refine jk_store (pc := 1) hX 2 rfl (Nat.le_of_ble_eq_true rfl) (ls' := [.inr 90, .inl v1, .inl 0]) rfl ?_
  exact h
set_option maxHeartbeats 4000000 in
theorem bk_R_trailHolds_2 {d : Nat} {K : jxK} {X : jxX} (hX : jx_clo jx_G1 (d + 0) (jx_call jx_G1 jx_T (d + 0)) kc_R_trailHolds K X) (v1 : Int) (v2 : Int) (M : jxM)
    (h : (((M 90 13) ≤ v2 → K (some (.inl 0)) M) ∧ (v2 < (M 90 13) → ((0 ≤ v2 ∧ v2 < 16)) ∧ (((M 101 v2) ≠ v1 → (((-2147483648 : Int) ≤ v2 + 1 ∧ v2 + 1 ≤ 2147483647)) ∧ X 2 [.inr 90, .inl v1, .inl (v2 + 1)] [] M) ∧ ((M 101 v2) = v1 → K (some (.inl 1)) M))))) :
    X 2 [.inr 90, .inl v1, .inl v2] [] M := by
  refine jk_load (pc := 2) hX 2 rfl rfl ?_
  refine jk_aload (pc := 3) hX 0 rfl rfl ?_
  refine jk_getI (pc := 4) hX 4 13 rfl rfl rfl ?_
  refine jk_cge (pc := 5) hX 16 rfl (fun q11 => ?_) (fun q12 => ?_)
  · have h1 := h.1 q11
    refine jk_const (pc := 16) hX 0 rfl (by decide) ?_
    exact jk_zret (pc := 17) hX rfl (Or.inl rfl) h1
  · have h2 := h.2 q12
    obtain ⟨g3, h10⟩ := h2
    refine jk_aload (pc := 6) hX 0 rfl rfl ?_
    refine jk_getR (pc := 7) hX 4 12 rfl rfl (r := 100) rfl ?_
    refine jk_load (pc := 8) hX 2 rfl rfl ?_
    refine jk_iald (pc := 9) hX 16 rfl rfl g3 ?_
    refine jk_load (pc := 10) hX 1 rfl rfl ?_
    refine jk_cne (pc := 11) hX 14 rfl (fun q8 => ?_) (fun q9 => ?_)
    · have h4 := h10.1 q8
      obtain ⟨g6, h7⟩ := h4
      refine jk_iinc (pc := 14) hX 2 1 rfl rfl g6 (ls' := [.inr 90, .inl v1, .inl (v2 + 1)]) rfl ?_
      refine jk_goto (pc := 15) hX 2 rfl ?_
      exact h7
    · have h5 := h10.2 q9
      refine jk_const (pc := 12) hX 1 rfl (by decide) ?_
      exact jk_zret (pc := 13) hX rfl (Or.inr rfl) h5
set_option maxHeartbeats 4000000 in
theorem bk_T_push_0 {d : Nat} {K : jxK} {X : jxX} (hX : jx_clo jx_G1 (d + 0) (jx_call jx_G1 jx_T (d + 0)) kc_T_push K X) (v1 : Int) (M : jxM)
    (h : ((20 ≤ (M 2 1) → K none M) ∧ ((M 2 1) < 20 → ((0 ≤ (M 2 1) ∧ (M 2 1) < 20) ∧ ((-2147483648 : Int) ≤ (M 2 1) + 1 ∧ (M 2 1) + 1 ≤ 2147483647)) ∧ K none (jx_up (jx_up M 3 (M 2 1) v1) 2 1 ((M 2 1) + 1))))) :
    X 0 [.inr 2, .inl v1] [] M := by
  refine jk_aload (pc := 0) hX 0 rfl rfl ?_
  refine jk_getI (pc := 1) hX 5 1 rfl rfl rfl ?_
  refine jk_const (pc := 2) hX 20 rfl (by decide) ?_
  refine jk_cge (pc := 3) hX 16 rfl (fun q6 => ?_) (fun q7 => ?_)
  · have h1 := h.1 q6
    exact jk_vret (pc := 16) hX rfl h1
  · have h2 := h.2 q7
    obtain ⟨⟨g3, g4⟩, h5⟩ := h2
    refine jk_aload (pc := 4) hX 0 rfl rfl ?_
    refine jk_getR (pc := 5) hX 5 0 rfl rfl (r := 2) rfl ?_
    refine jk_aload (pc := 6) hX 0 rfl rfl ?_
    refine jk_getI (pc := 7) hX 5 1 rfl rfl rfl ?_
    refine jk_load (pc := 8) hX 1 rfl rfl ?_
    refine jk_iast (pc := 9) hX 20 rfl rfl g3 ?_
    refine jk_aload (pc := 10) hX 0 rfl rfl ?_
    refine jk_dup (pc := 11) hX rfl ?_
    refine jk_getI (pc := 12) hX 5 1 rfl rfl rfl (jx_vX (jx_upc (by decide)) ?_)
    refine jk_const (pc := 13) hX 1 rfl (by decide) ?_
    refine jk_add (pc := 14) hX rfl g4 ?_
    refine jk_put (pc := 15) hX 5 1 rfl rfl rfl ?_
    exact jk_vret (pc := 16) hX rfl h5
set_option maxHeartbeats 4000000 in
theorem bk_D_sumOfUses_0 {d : Nat} {K : jxK} {X : jxX} (hX : jx_clo jx_G1 (d + 0) (jx_call jx_G1 jx_T (d + 0)) kc_D_sumOfUses K X) (M : jxM)
    (h : X 4 [.inr 5, .inl 0, .inl 0] [] M) :
    X 0 [.inr 5, .inr 0, .inr 0] [] M := by
  refine jk_const (pc := 0) hX 0 rfl (by decide) ?_
  refine jk_store (pc := 1) hX 1 rfl (Nat.le_of_ble_eq_true rfl) (ls' := [.inr 5, .inl 0, .inr 0]) rfl ?_
  refine jk_const (pc := 2) hX 0 rfl (by decide) ?_
  refine jk_store (pc := 3) hX 2 rfl (Nat.le_of_ble_eq_true rfl) (ls' := [.inr 5, .inl 0, .inl 0]) rfl ?_
  exact h
set_option maxHeartbeats 4000000 in
theorem bk_D_sumOfUses_4 {d : Nat} {K : jxK} {X : jxX} (hX : jx_clo jx_G1 (d + 0) (jx_call jx_G1 jx_T (d + 0)) kc_D_sumOfUses K X) (v1 : Int) (v2 : Int) (M : jxM)
    (h : (((M 5 6) ≤ v2 → K (some (.inl v1)) M) ∧ (v2 < (M 5 6) → ((0 ≤ v2 ∧ v2 < 20) ∧ ((-2147483648 : Int) ≤ v1 + (M 11 v2) ∧ v1 + (M 11 v2) ≤ 2147483647) ∧ ((-2147483648 : Int) ≤ v2 + 1 ∧ v2 + 1 ≤ 2147483647)) ∧ X 4 [.inr 5, .inl (v1 + (M 11 v2)), .inl (v2 + 1)] [] M))) :
    X 4 [.inr 5, .inl v1, .inl v2] [] M := by
  refine jk_load (pc := 4) hX 2 rfl rfl ?_
  refine jk_aload (pc := 5) hX 0 rfl rfl ?_
  refine jk_getI (pc := 6) hX 0 6 rfl rfl rfl ?_
  refine jk_cge (pc := 7) hX 17 rfl (fun q7 => ?_) (fun q8 => ?_)
  · have h1 := h.1 q7
    refine jk_load (pc := 17) hX 1 rfl rfl ?_
    exact jk_iret (pc := 18) hX rfl h1
  · have h2 := h.2 q8
    obtain ⟨⟨g3, g4, g5⟩, h6⟩ := h2
    refine jk_load (pc := 8) hX 1 rfl rfl ?_
    refine jk_aload (pc := 9) hX 0 rfl rfl ?_
    refine jk_getR (pc := 10) hX 0 5 rfl rfl (r := 10) rfl ?_
    refine jk_load (pc := 11) hX 2 rfl rfl ?_
    refine jk_iald (pc := 12) hX 20 rfl rfl g3 ?_
    refine jk_add (pc := 13) hX rfl g4 ?_
    refine jk_store (pc := 14) hX 1 rfl (Nat.le_of_ble_eq_true rfl) (ls' := [.inr 5, .inl (v1 + (M 11 v2)), .inl v2]) rfl ?_
    refine jk_iinc (pc := 15) hX 2 1 rfl rfl g5 (ls' := [.inr 5, .inl (v1 + (M 11 v2)), .inl (v2 + 1)]) rfl ?_
    refine jk_goto (pc := 16) hX 4 rfl ?_
    exact h6
set_option maxHeartbeats 4000000 in
theorem bk_D_learn_0 {d : Nat} {K : jxK} {X : jxX} (hX : jx_clo jx_G1 (d + 0) (jx_call jx_G1 jx_T (d + 0)) kc_D_learn K X) (v1 : Int) (M : jxM)
    (h : ((0 ≤ v1 ∧ v1 < 20)) ∧ (((M 11 v1) < 9 → ((0 ≤ v1 ∧ v1 < 20) ∧ ((-2147483648 : Int) ≤ (M 11 v1) + 1 ∧ (M 11 v1) + 1 ≤ 2147483647) ∧ (0 ≤ v1 ∧ v1 < 20)) ∧ K (some (.inl 1)) (jx_up M 11 v1 ((M 11 v1) + 1))) ∧ (9 ≤ (M 11 v1) → K (some (.inl 0)) M))) :
    X 0 [.inr 5, .inl v1] [] M := by
  obtain ⟨g1, h10⟩ := h
  refine jk_aload (pc := 0) hX 0 rfl rfl ?_
  refine jk_getR (pc := 1) hX 0 5 rfl rfl (r := 10) rfl ?_
  refine jk_load (pc := 2) hX 1 rfl rfl ?_
  refine jk_iald (pc := 3) hX 20 rfl rfl g1 ?_
  refine jk_const (pc := 4) hX 9 rfl (by decide) ?_
  refine jk_clt (pc := 5) hX 8 rfl (fun q8 => ?_) (fun q9 => ?_)
  · have h2 := h10.1 q8
    obtain ⟨⟨g4, g5, g6⟩, h7⟩ := h2
    refine jk_aload (pc := 8) hX 0 rfl rfl ?_
    refine jk_getR (pc := 9) hX 0 5 rfl rfl (r := 10) rfl ?_
    refine jk_load (pc := 10) hX 1 rfl rfl ?_
    refine jk_dup2 (pc := 11) hX rfl ?_
    refine jk_iald (pc := 12) hX 20 rfl rfl g4 ?_
    refine jk_const (pc := 13) hX 1 rfl (by decide) ?_
    refine jk_add (pc := 14) hX rfl g5 ?_
    refine jk_iast (pc := 15) hX 20 rfl rfl g6 ?_
    refine jk_const (pc := 16) hX 1 rfl (by decide) ?_
    exact jk_zret (pc := 17) hX rfl (Or.inr rfl) h7
  · have h3 := h10.2 q9
    refine jk_const (pc := 6) hX 0 rfl (by decide) ?_
    exact jk_zret (pc := 7) hX rfl (Or.inl rfl) h3
set_option maxHeartbeats 4000000 in
theorem bk_D_presentCost_0 {d : Nat} {K : jxK} {X : jxX} (hX : jx_clo jx_G1 (d + 1) (jx_call jx_G1 jx_T (d + 1)) kc_D_presentCost K X) (v1 : Int) (M : jxM)
    (h : ((0 ≤ v1 ∧ v1 < 20) ∧ (0 ≤ v1 ∧ v1 < 20) ∧ ((-2147483648 : Int) ≤ 3 * (M 11 v1) ∧ 3 * (M 11 v1) ≤ 2147483647) ∧ ((-2147483648 : Int) ≤ (M 10 v1) - (3 * (M 11 v1)) ∧ (M 10 v1) - (3 * (M 11 v1)) ≤ 2147483647)) ∧ K (some (.inl (max 0 ((M 10 v1) - (3 * (M 11 v1)))))) M) :
    X 0 [.inr 5, .inl v1] [] M := by
  obtain ⟨⟨g1, g2, g3, g4⟩, h5⟩ := h
  refine jk_const (pc := 0) hX 0 rfl (by decide) ?_
  refine jk_aload (pc := 1) hX 0 rfl rfl ?_
  refine jk_getR (pc := 2) hX 0 4 rfl rfl (r := 9) rfl ?_
  refine jk_load (pc := 3) hX 1 rfl rfl ?_
  refine jk_iald (pc := 4) hX 20 rfl rfl g1 ?_
  refine jk_const (pc := 5) hX 3 rfl (by decide) ?_
  refine jk_aload (pc := 6) hX 0 rfl rfl ?_
  refine jk_getR (pc := 7) hX 0 5 rfl rfl (r := 10) rfl ?_
  refine jk_load (pc := 8) hX 1 rfl rfl ?_
  refine jk_iald (pc := 9) hX 20 rfl rfl g2 ?_
  refine jk_mul (pc := 10) hX rfl g3 ?_
  refine jk_sub (pc := 11) hX rfl g4 ?_
  refine jk_max (pc := 12) hX rfl (by omega) (Nat.le_of_ble_eq_true rfl) ?_
  exact jk_iret (pc := 13) hX rfl h5
set_option maxHeartbeats 4000000 in
theorem bk_R_cappedSum_0 {d : Nat} {K : jxK} {X : jxX} (hX : jx_clo jx_G1 (d + 1) (jx_call jx_G1 jx_T (d + 1)) kc_R_cappedSum K X) (v0 : Int) (v1 : Int) (M : jxM)
    (h : (((-2147483648 : Int) ≤ v0 + v1 ∧ v0 + v1 ≤ 2147483647)) ∧ K (some (.inl (min (v0 + v1) 1000000000))) M) :
    X 0 [.inl v0, .inl v1] [] M := by
  obtain ⟨g1, h2⟩ := h
  refine jk_load (pc := 0) hX 0 rfl rfl ?_
  refine jk_load (pc := 1) hX 1 rfl rfl ?_
  refine jk_add (pc := 2) hX rfl g1 ?_
  refine jk_const (pc := 3) hX 1000000000 rfl (by decide) ?_
  refine jk_min (pc := 4) hX rfl (by omega) (Nat.le_of_ble_eq_true rfl) ?_
  exact jk_iret (pc := 5) hX rfl h2
set_option maxHeartbeats 4000000 in
theorem bk_R_cheapestHead_0 {d : Nat} {K : jxK} {X : jxX} (hX : jx_clo jx_G1 (d + 0) (jx_call jx_G1 jx_T (d + 0)) kc_R_cheapestHead K X) (v1 : Int) (M : jxM)
    (h : X 6 [.inr 90, .inl v1, .inl (-1), .inl 1000000, .inl 0] [] M) :
    X 0 [.inr 90, .inl v1, .inr 0, .inr 0, .inr 0] [] M := by
  refine jk_const (pc := 0) hX (-1) rfl (by decide) ?_
  refine jk_store (pc := 1) hX 2 rfl (Nat.le_of_ble_eq_true rfl) (ls' := [.inr 90, .inl v1, .inl (-1), .inr 0, .inr 0]) rfl ?_
  refine jk_const (pc := 2) hX 1000000 rfl (by decide) ?_
  refine jk_store (pc := 3) hX 3 rfl (Nat.le_of_ble_eq_true rfl) (ls' := [.inr 90, .inl v1, .inl (-1), .inl 1000000, .inr 0]) rfl ?_
  refine jk_const (pc := 4) hX 0 rfl (by decide) ?_
  refine jk_store (pc := 5) hX 4 rfl (Nat.le_of_ble_eq_true rfl) (ls' := [.inr 90, .inl v1, .inl (-1), .inl 1000000, .inl 0]) rfl ?_
  exact h
set_option maxHeartbeats 4000000 in
theorem bk_R_cheapestHead_6 {d : Nat} {K : jxK} {X : jxX} (hX : jx_clo jx_G1 (d + 0) (jx_call jx_G1 jx_T (d + 0)) kc_R_cheapestHead K X) (v1 : Int) (v2 : Int) (v3 : Int) (v4 : Int) (M : jxM)
    (h : ((0 ≤ v1 ∧ v1 < 17)) ∧ (((M 85 v1) ≤ v4 → K (some (.inl v2)) M) ∧ (v4 < (M 85 v1) → ((0 ≤ v4 ∧ v4 < 21)) ∧ ((v3 ≤ (M 97 v4) → (((-2147483648 : Int) ≤ v4 + 1 ∧ v4 + 1 ≤ 2147483647)) ∧ X 6 [.inr 90, .inl v1, .inl v2, .inl v3, .inl (v4 + 1)] [] M) ∧ ((M 97 v4) < v3 → ((0 ≤ v4 ∧ v4 < 21) ∧ ((-2147483648 : Int) ≤ v4 + 1 ∧ v4 + 1 ≤ 2147483647)) ∧ X 6 [.inr 90, .inl v1, .inl v4, .inl (M 97 v4), .inl (v4 + 1)] [] M))))) :
    X 6 [.inr 90, .inl v1, .inl v2, .inl v3, .inl v4] [] M := by
  obtain ⟨g1, h17⟩ := h
  refine jk_load (pc := 6) hX 4 rfl rfl ?_
  refine jk_aload (pc := 7) hX 0 rfl rfl ?_
  refine jk_getR (pc := 8) hX 4 1 rfl rfl (r := 82) rfl ?_
  refine jk_getR (pc := 9) hX 2 2 rfl rfl (r := 84) rfl ?_
  refine jk_load (pc := 10) hX 1 rfl rfl ?_
  refine jk_iald (pc := 11) hX 17 rfl rfl g1 ?_
  refine jk_cge (pc := 12) hX 28 rfl (fun q15 => ?_) (fun q16 => ?_)
  · have h2 := h17.1 q15
    refine jk_load (pc := 28) hX 2 rfl rfl ?_
    exact jk_iret (pc := 29) hX rfl h2
  · have h3 := h17.2 q16
    obtain ⟨g4, h14⟩ := h3
    refine jk_aload (pc := 13) hX 0 rfl rfl ?_
    refine jk_getR (pc := 14) hX 4 8 rfl rfl (r := 96) rfl ?_
    refine jk_load (pc := 15) hX 4 rfl rfl ?_
    refine jk_iald (pc := 16) hX 21 rfl rfl g4 ?_
    refine jk_load (pc := 17) hX 3 rfl rfl ?_
    refine jk_cge (pc := 18) hX 26 rfl (fun q12 => ?_) (fun q13 => ?_)
    · have h5 := h14.1 q12
      obtain ⟨g7, h8⟩ := h5
      refine jk_iinc (pc := 26) hX 4 1 rfl rfl g7 (ls' := [.inr 90, .inl v1, .inl v2, .inl v3, .inl (v4 + 1)]) rfl ?_
      refine jk_goto (pc := 27) hX 6 rfl ?_
      exact h8
    · have h6 := h14.2 q13
      obtain ⟨⟨g9, g10⟩, h11⟩ := h6
      refine jk_aload (pc := 19) hX 0 rfl rfl ?_
      refine jk_getR (pc := 20) hX 4 8 rfl rfl (r := 96) rfl ?_
      refine jk_load (pc := 21) hX 4 rfl rfl ?_
      refine jk_iald (pc := 22) hX 21 rfl rfl g9 ?_
      refine jk_store (pc := 23) hX 3 rfl (Nat.le_of_ble_eq_true rfl) (ls' := [.inr 90, .inl v1, .inl v2, .inl (M 97 v4), .inl v4]) rfl ?_
      refine jk_load (pc := 24) hX 4 rfl rfl ?_
      refine jk_store (pc := 25) hX 2 rfl (Nat.le_of_ble_eq_true rfl) (ls' := [.inr 90, .inl v1, .inl v4, .inl (M 97 v4), .inl v4]) rfl ?_
      refine jk_iinc (pc := 26) hX 4 1 rfl rfl g10 (ls' := [.inr 90, .inl v1, .inl v4, .inl (M 97 v4), .inl (v4 + 1)]) rfl ?_
      refine jk_goto (pc := 27) hX 6 rfl ?_
      exact h11
set_option maxHeartbeats 4000000 in
theorem bk_F_in_0 {d : Nat} {K : jxK} {X : jxX} (hX : jx_clo jx_G2 (d + 0) (jx_call jx_G2 jx_T (d + 0)) kc_F_in K X) (v0 : Int) (v1 : Int) (v2 : Int) (M : jxM)
    (h : ((v0 < v1 → K (some (.inl 0)) M) ∧ (v1 ≤ v0 → ((v2 < v0 → K (some (.inl 0)) M) ∧ (v0 ≤ v2 → K (some (.inl 1)) M))))) :
    X 0 [.inl v0, .inl v1, .inl v2] [] M := by
  refine jk_load (pc := 0) hX 0 rfl rfl ?_
  refine jk_load (pc := 1) hX 1 rfl rfl ?_
  refine jk_clt (pc := 2) hX 8 rfl (fun q7 => ?_) (fun q8 => ?_)
  · have h1 := h.1 q7
    refine jk_const (pc := 8) hX 0 rfl (by decide) ?_
    exact jk_zret (pc := 9) hX rfl (Or.inl rfl) h1
  · have h2 := h.2 q8
    refine jk_load (pc := 3) hX 0 rfl rfl ?_
    refine jk_load (pc := 4) hX 2 rfl rfl ?_
    refine jk_cgt (pc := 5) hX 8 rfl (fun q5 => ?_) (fun q6 => ?_)
    · have h3 := h2.1 q5
      refine jk_const (pc := 8) hX 0 rfl (by decide) ?_
      exact jk_zret (pc := 9) hX rfl (Or.inl rfl) h3
    · have h4 := h2.2 q6
      refine jk_const (pc := 6) hX 1 rfl (by decide) ?_
      refine jk_goto (pc := 7) hX 9 rfl ?_
      exact jk_zret (pc := 9) hX rfl (Or.inr rfl) h4
set_option maxHeartbeats 4000000 in
theorem bk_F_at_0 {d : Nat} {K : jxK} {X : jxX} (hX : jx_clo jx_G2 (d + 0) (jx_call jx_G2 jx_T (d + 0)) kc_F_at K X) (v0 : Int) (M : jxM)
    (h : (((-2147483648 : Int) ≤ 11 * v0 ∧ 11 * v0 ≤ 2147483647) ∧ ((-2147483648 : Int) ≤ 1 + (11 * v0) ∧ 1 + (11 * v0) ≤ 2147483647)) ∧ K (some (.inl (1 + (11 * v0)))) M) :
    X 0 [.inl v0] [] M := by
  obtain ⟨⟨g1, g2⟩, h3⟩ := h
  refine jk_const (pc := 0) hX 1 rfl (by decide) ?_
  refine jk_const (pc := 1) hX 11 rfl (by decide) ?_
  refine jk_load (pc := 2) hX 0 rfl rfl ?_
  refine jk_mul (pc := 3) hX rfl g1 ?_
  refine jk_add (pc := 4) hX rfl g2 ?_
  exact jk_iret (pc := 5) hX rfl h3
set_option maxHeartbeats 4000000 in
theorem bk_F_between_0 {d : Nat} {K : jxK} {X : jxX} (hX : jx_clo jx_G2 (d + 0) (jx_call jx_G2 jx_T (d + 0)) kc_F_between K X) (v1 : Int) (v2 : Int) (M : jxM)
    (h : (((-2147483648 : Int) ≤ 7 * v1 ∧ 7 * v1 ≤ 2147483647) ∧ ((-2147483648 : Int) ≤ 221 + (7 * v1) ∧ 221 + (7 * v1) ≤ 2147483647) ∧ ((-2147483648 : Int) ≤ (221 + (7 * v1)) + v2 ∧ (221 + (7 * v1)) + v2 ≤ 2147483647) ∧ (0 ≤ ((221 + (7 * v1)) + v2) ∧ ((221 + (7 * v1)) + v2) < 305)) ∧ K (some (.inl (M 2 ((221 + (7 * v1)) + v2)))) M) :
    X 0 [.inr 1, .inl v1, .inl v2] [] M := by
  obtain ⟨⟨g1, g2, g3, g4⟩, h5⟩ := h
  refine jk_aload (pc := 0) hX 0 rfl rfl ?_
  refine jk_getR (pc := 1) hX 7 0 rfl rfl (r := 1) rfl ?_
  refine jk_const (pc := 2) hX 221 rfl (by decide) ?_
  refine jk_const (pc := 3) hX 7 rfl (by decide) ?_
  refine jk_load (pc := 4) hX 1 rfl rfl ?_
  refine jk_mul (pc := 5) hX rfl g1 ?_
  refine jk_add (pc := 6) hX rfl g2 ?_
  refine jk_load (pc := 7) hX 2 rfl rfl ?_
  refine jk_add (pc := 8) hX rfl g3 ?_
  refine jk_iald (pc := 9) hX 305 rfl rfl g4 ?_
  exact jk_iret (pc := 10) hX rfl h5
set_option maxHeartbeats 4000000 in
theorem bk_F_capped_0 {d : Nat} {K : jxK} {X : jxX} (hX : jx_clo jx_G2 (d + 0) (jx_call jx_G2 jx_T (d + 0)) kc_F_capped K X) (v0 : Int) (v1 : Int) (M : jxM)
    (h : (((-2147483648 : Int) ≤ v0 + v1 ∧ v0 + v1 ≤ 2147483647)) ∧ (((v0 + v1) ≤ 1000000000 → (((-2147483648 : Int) ≤ v0 + v1 ∧ v0 + v1 ≤ 2147483647)) ∧ K (some (.inl (v0 + v1))) M) ∧ (1000000000 < (v0 + v1) → K (some (.inl 1000000000)) M))) :
    X 0 [.inl v0, .inl v1] [] M := by
  obtain ⟨g1, h8⟩ := h
  refine jk_load (pc := 0) hX 0 rfl rfl ?_
  refine jk_load (pc := 1) hX 1 rfl rfl ?_
  refine jk_add (pc := 2) hX rfl g1 ?_
  refine jk_const (pc := 3) hX 1000000000 rfl (by decide) ?_
  refine jk_cle (pc := 4) hX 7 rfl (fun q6 => ?_) (fun q7 => ?_)
  · have h2 := h8.1 q6
    obtain ⟨g4, h5⟩ := h2
    refine jk_load (pc := 7) hX 0 rfl rfl ?_
    refine jk_load (pc := 8) hX 1 rfl rfl ?_
    refine jk_add (pc := 9) hX rfl g4 ?_
    exact jk_iret (pc := 10) hX rfl h5
  · have h3 := h8.2 q7
    refine jk_const (pc := 5) hX 1000000000 rfl (by decide) ?_
    refine jk_goto (pc := 6) hX 10 rfl ?_
    exact jk_iret (pc := 10) hX rfl h3
set_option maxHeartbeats 4000000 in
theorem bk_F_clearText_0 {d : Nat} {K : jxK} {X : jxX} (hX : jx_clo jx_G2 (d + 0) (jx_call jx_G2 jx_T (d + 0)) kc_F_clearText K X) (M : jxM)
    (h : K (some (.inl (M 1 4))) (jx_up M 1 4 0)) :
    X 0 [.inr 1, .inr 0] [] M := by
  refine jk_aload (pc := 0) hX 0 rfl rfl ?_
  refine jk_getI (pc := 1) hX 7 4 rfl rfl rfl ?_
  refine jk_store (pc := 2) hX 1 rfl (Nat.le_of_ble_eq_true rfl) (ls' := [.inr 1, .inl (M 1 4)]) rfl ?_
  refine jk_aload (pc := 3) hX 0 rfl rfl ?_
  refine jk_const (pc := 4) hX 0 rfl (by decide) ?_
  refine jk_put (pc := 5) hX 7 4 rfl rfl rfl ?_
  refine jk_load (pc := 6) hX 1 rfl rfl ?_
  exact jk_iret (pc := 7) hX rfl h
set_option maxHeartbeats 4000000 in
theorem bk_F_entryCount_0 {d : Nat} {K : jxK} {X : jxX} (hX : jx_clo jx_G2 (d + 0) (jx_call jx_G2 jx_T (d + 0)) kc_F_entryCount K X) (M : jxM)
    (h : K (some (.inl (M 2 0))) M) :
    X 0 [.inr 1] [] M := by
  refine jk_aload (pc := 0) hX 0 rfl rfl ?_
  refine jk_getR (pc := 1) hX 7 0 rfl rfl (r := 1) rfl ?_
  refine jk_const (pc := 2) hX 0 rfl (by decide) ?_
  refine jk_iald (pc := 3) hX 305 rfl rfl (by decide) ?_
  exact jk_iret (pc := 4) hX rfl h
set_option maxHeartbeats 4000000 in
theorem bk_F_inputLength_0 {d : Nat} {K : jxK} {X : jxX} (hX : jx_clo jx_G2 (d + 0) (jx_call jx_G2 jx_T (d + 0)) kc_F_inputLength K X) (M : jxM)
    (h : K (some (.inl (M 2 271))) M) :
    X 0 [.inr 1] [] M := by
  refine jk_aload (pc := 0) hX 0 rfl rfl ?_
  refine jk_getR (pc := 1) hX 7 0 rfl rfl (r := 1) rfl ?_
  refine jk_const (pc := 2) hX 271 rfl (by decide) ?_
  refine jk_iald (pc := 3) hX 305 rfl rfl (by decide) ?_
  exact jk_iret (pc := 4) hX rfl h
set_option maxHeartbeats 4000000 in
theorem bk_F_save_0 {d : Nat} {K : jxK} {X : jxX} (hX : jx_clo jx_G2 (d + 0) (jx_call jx_G2 jx_T (d + 0)) kc_F_save K X) (M : jxM)
    (h : (((M 1 2) ≠ 6 → X 29 [.inr 1, .inl 0] [] M) ∧ ((M 1 2) = 6 → X 6 [.inr 1, .inl 0] [] M))) :
    X 0 [.inr 1, .inr 0] [] M := by
  refine jk_aload (pc := 0) hX 0 rfl rfl ?_
  refine jk_getI (pc := 1) hX 7 2 rfl rfl rfl ?_
  refine jk_const (pc := 2) hX 6 rfl (by decide) ?_
  refine jk_cne (pc := 3) hX 27 rfl (fun q3 => ?_) (fun q4 => ?_)
  · have h1 := h.1 q3
    refine jk_const (pc := 27) hX 0 rfl (by decide) ?_
    refine jk_store (pc := 28) hX 1 rfl (Nat.le_of_ble_eq_true rfl) (ls' := [.inr 1, .inl 0]) rfl ?_
    exact h1
  · have h2 := h.2 q4
    refine jk_const (pc := 4) hX 0 rfl (by decide) ?_
    refine jk_store (pc := 5) hX 1 rfl (Nat.le_of_ble_eq_true rfl) (ls' := [.inr 1, .inl 0]) rfl ?_
    exact h2
set_option maxHeartbeats 4000000 in
theorem bk_F_save_6 {d : Nat} {K : jxK} {X : jxX} (hX : jx_clo jx_G2 (d + 0) (jx_call jx_G2 jx_T (d + 0)) kc_F_save K X) (v1 : Int) (M : jxM)
    (h : ((1525 ≤ v1 → (((-2147483648 : Int) ≤ (M 1 2) - 1 ∧ (M 1 2) - 1 ≤ 2147483647)) ∧ X 29 [.inr 1, .inl 0] [] (jx_up M 1 2 ((M 1 2) - 1))) ∧ (v1 < 1525 → (((-2147483648 : Int) ≤ v1 + 305 ∧ v1 + 305 ≤ 2147483647) ∧ (0 ≤ (v1 + 305) ∧ (v1 + 305) < 1830) ∧ (0 ≤ v1 ∧ v1 < 1830) ∧ ((-2147483648 : Int) ≤ v1 + 1 ∧ v1 + 1 ≤ 2147483647)) ∧ X 6 [.inr 1, .inl (v1 + 1)] [] (jx_up M 3 v1 (M 3 (v1 + 305)))))) :
    X 6 [.inr 1, .inl v1] [] M := by
  refine jk_load (pc := 6) hX 1 rfl rfl ?_
  refine jk_const (pc := 7) hX 1525 rfl (by decide) ?_
  refine jk_cge (pc := 8) hX 21 rfl (fun q10 => ?_) (fun q11 => ?_)
  · have h1 := h.1 q10
    obtain ⟨g3, h4⟩ := h1
    refine jk_aload (pc := 21) hX 0 rfl rfl ?_
    refine jk_dup (pc := 22) hX rfl ?_
    refine jk_getI (pc := 23) hX 7 2 rfl rfl rfl ?_
    refine jk_const (pc := 24) hX 1 rfl (by decide) ?_
    refine jk_sub (pc := 25) hX rfl g3 ?_
    refine jk_put (pc := 26) hX 7 2 rfl rfl rfl ?_
    refine jk_const (pc := 27) hX 0 rfl (by decide) ?_
    refine jk_store (pc := 28) hX 1 rfl (Nat.le_of_ble_eq_true rfl) (ls' := [.inr 1, .inl 0]) rfl ?_
    exact h4
  · have h2 := h.2 q11
    obtain ⟨⟨g5, g6, g7, g8⟩, h9⟩ := h2
    refine jk_aload (pc := 9) hX 0 rfl rfl ?_
    refine jk_getR (pc := 10) hX 7 1 rfl rfl (r := 2) rfl ?_
    refine jk_load (pc := 11) hX 1 rfl rfl ?_
    refine jk_aload (pc := 12) hX 0 rfl rfl ?_
    refine jk_getR (pc := 13) hX 7 1 rfl rfl (r := 2) rfl ?_
    refine jk_load (pc := 14) hX 1 rfl rfl ?_
    refine jk_const (pc := 15) hX 305 rfl (by decide) ?_
    refine jk_add (pc := 16) hX rfl g5 ?_
    refine jk_iald (pc := 17) hX 1830 rfl rfl g6 ?_
    refine jk_iast (pc := 18) hX 1830 rfl rfl g7 ?_
    refine jk_iinc (pc := 19) hX 1 1 rfl rfl g8 (ls' := [.inr 1, .inl (v1 + 1)]) rfl ?_
    refine jk_goto (pc := 20) hX 6 rfl ?_
    exact h9
set_option maxHeartbeats 4000000 in
theorem bk_F_save_29 {d : Nat} {K : jxK} {X : jxX} (hX : jx_clo jx_G2 (d + 0) (jx_call jx_G2 jx_T (d + 0)) kc_F_save K X) (v1 : Int) (M : jxM)
    (h : ((305 ≤ v1 → (((-2147483648 : Int) ≤ (M 1 2) + 1 ∧ (M 1 2) + 1 ≤ 2147483647)) ∧ K none (jx_up (jx_up M 1 2 ((M 1 2) + 1)) 1 5 0)) ∧ (v1 < 305 → (((-2147483648 : Int) ≤ 305 * (M 1 2) ∧ 305 * (M 1 2) ≤ 2147483647) ∧ ((-2147483648 : Int) ≤ (305 * (M 1 2)) + v1 ∧ (305 * (M 1 2)) + v1 ≤ 2147483647) ∧ (0 ≤ v1 ∧ v1 < 305) ∧ (0 ≤ ((305 * (M 1 2)) + v1) ∧ ((305 * (M 1 2)) + v1) < 1830) ∧ ((-2147483648 : Int) ≤ v1 + 1 ∧ v1 + 1 ≤ 2147483647)) ∧ X 29 [.inr 1, .inl (v1 + 1)] [] (jx_up M 3 ((305 * (M 1 2)) + v1) (M 2 v1))))) :
    X 29 [.inr 1, .inl v1] [] M := by
  refine jk_load (pc := 29) hX 1 rfl rfl ?_
  refine jk_const (pc := 30) hX 305 rfl (by decide) ?_
  refine jk_cge (pc := 31) hX 47 rfl (fun q11 => ?_) (fun q12 => ?_)
  · have h1 := h.1 q11
    obtain ⟨g3, h4⟩ := h1
    refine jk_aload (pc := 47) hX 0 rfl rfl ?_
    refine jk_dup (pc := 48) hX rfl ?_
    refine jk_getI (pc := 49) hX 7 2 rfl rfl rfl ?_
    refine jk_const (pc := 50) hX 1 rfl (by decide) ?_
    refine jk_add (pc := 51) hX rfl g3 ?_
    refine jk_put (pc := 52) hX 7 2 rfl rfl rfl ?_
    refine jk_aload (pc := 53) hX 0 rfl rfl ?_
    refine jk_const (pc := 54) hX 0 rfl (by decide) ?_
    refine jk_putZ (pc := 55) hX 7 5 rfl rfl rfl (Or.inl rfl) ?_
    exact jk_vret (pc := 56) hX rfl h4
  · have h2 := h.2 q12
    obtain ⟨⟨g5, g6, g7, g8, g9⟩, h10⟩ := h2
    refine jk_aload (pc := 32) hX 0 rfl rfl ?_
    refine jk_getR (pc := 33) hX 7 1 rfl rfl (r := 2) rfl ?_
    refine jk_const (pc := 34) hX 305 rfl (by decide) ?_
    refine jk_aload (pc := 35) hX 0 rfl rfl ?_
    refine jk_getI (pc := 36) hX 7 2 rfl rfl rfl ?_
    refine jk_mul (pc := 37) hX rfl g5 ?_
    refine jk_load (pc := 38) hX 1 rfl rfl ?_
    refine jk_add (pc := 39) hX rfl g6 ?_
    refine jk_aload (pc := 40) hX 0 rfl rfl ?_
    refine jk_getR (pc := 41) hX 7 0 rfl rfl (r := 1) rfl ?_
    refine jk_load (pc := 42) hX 1 rfl rfl ?_
    refine jk_iald (pc := 43) hX 305 rfl rfl g7 ?_
    refine jk_iast (pc := 44) hX 1830 rfl rfl g8 ?_
    refine jk_iinc (pc := 45) hX 1 1 rfl rfl g9 (ls' := [.inr 1, .inl (v1 + 1)]) rfl ?_
    refine jk_goto (pc := 46) hX 29 rfl ?_
    exact h10
set_option maxHeartbeats 4000000 in
theorem bk_F_undo_0 {d : Nat} {K : jxK} {X : jxX} (hX : jx_clo jx_G2 (d + 0) (jx_call jx_G2 jx_T (d + 0)) kc_F_undo K X) (M : jxM)
    (h : (((M 1 2) ≠ 0 → (((-2147483648 : Int) ≤ (M 1 2) - 1 ∧ (M 1 2) - 1 ≤ 2147483647)) ∧ X 13 [.inr 1, .inl 0] [] (jx_up M 1 2 ((M 1 2) - 1))) ∧ ((M 1 2) = 0 → K (some (.inl (-2))) M))) :
    X 0 [.inr 1, .inr 0] [] M := by
  refine jk_aload (pc := 0) hX 0 rfl rfl ?_
  refine jk_getI (pc := 1) hX 7 2 rfl rfl rfl ?_
  refine jk_zne (pc := 2) hX 5 rfl (fun q5 => ?_) (fun q6 => ?_)
  · have h1 := h.1 q5
    obtain ⟨g3, h4⟩ := h1
    refine jk_aload (pc := 5) hX 0 rfl rfl ?_
    refine jk_dup (pc := 6) hX rfl ?_
    refine jk_getI (pc := 7) hX 7 2 rfl rfl rfl ?_
    refine jk_const (pc := 8) hX 1 rfl (by decide) ?_
    refine jk_sub (pc := 9) hX rfl g3 ?_
    refine jk_put (pc := 10) hX 7 2 rfl rfl rfl ?_
    refine jk_const (pc := 11) hX 0 rfl (by decide) ?_
    refine jk_store (pc := 12) hX 1 rfl (Nat.le_of_ble_eq_true rfl) (ls' := [.inr 1, .inl 0]) rfl ?_
    exact h4
  · have h2 := h.2 q6
    refine jk_const (pc := 3) hX (-2) rfl (by decide) ?_
    exact jk_iret (pc := 4) hX rfl h2
set_option maxHeartbeats 4000000 in
theorem bk_F_undo_13 {d : Nat} {K : jxK} {X : jxX} (hX : jx_clo jx_G2 (d + 0) (jx_call jx_G2 jx_T (d + 0)) kc_F_undo K X) (v1 : Int) (M : jxM)
    (h : ((305 ≤ v1 → K (some (.inl (M 1 2))) (jx_up M 1 5 0)) ∧ (v1 < 305 → (((-2147483648 : Int) ≤ 305 * (M 1 2) ∧ 305 * (M 1 2) ≤ 2147483647) ∧ ((-2147483648 : Int) ≤ (305 * (M 1 2)) + v1 ∧ (305 * (M 1 2)) + v1 ≤ 2147483647) ∧ (0 ≤ ((305 * (M 1 2)) + v1) ∧ ((305 * (M 1 2)) + v1) < 1830) ∧ (0 ≤ v1 ∧ v1 < 305) ∧ ((-2147483648 : Int) ≤ v1 + 1 ∧ v1 + 1 ≤ 2147483647)) ∧ X 13 [.inr 1, .inl (v1 + 1)] [] (jx_up M 2 v1 (M 3 ((305 * (M 1 2)) + v1)))))) :
    X 13 [.inr 1, .inl v1] [] M := by
  refine jk_load (pc := 13) hX 1 rfl rfl ?_
  refine jk_const (pc := 14) hX 305 rfl (by decide) ?_
  refine jk_cge (pc := 15) hX 31 rfl (fun q9 => ?_) (fun q10 => ?_)
  · have h1 := h.1 q9
    refine jk_aload (pc := 31) hX 0 rfl rfl ?_
    refine jk_const (pc := 32) hX 0 rfl (by decide) ?_
    refine jk_putZ (pc := 33) hX 7 5 rfl rfl rfl (Or.inl rfl) ?_
    refine jk_aload (pc := 34) hX 0 rfl rfl ?_
    refine jk_getI (pc := 35) hX 7 2 rfl rfl rfl (jx_vX (jx_upx (by decide)) ?_)
    exact jk_iret (pc := 36) hX rfl h1
  · have h2 := h.2 q10
    obtain ⟨⟨g3, g4, g5, g6, g7⟩, h8⟩ := h2
    refine jk_aload (pc := 16) hX 0 rfl rfl ?_
    refine jk_getR (pc := 17) hX 7 0 rfl rfl (r := 1) rfl ?_
    refine jk_load (pc := 18) hX 1 rfl rfl ?_
    refine jk_aload (pc := 19) hX 0 rfl rfl ?_
    refine jk_getR (pc := 20) hX 7 1 rfl rfl (r := 2) rfl ?_
    refine jk_const (pc := 21) hX 305 rfl (by decide) ?_
    refine jk_aload (pc := 22) hX 0 rfl rfl ?_
    refine jk_getI (pc := 23) hX 7 2 rfl rfl rfl ?_
    refine jk_mul (pc := 24) hX rfl g3 ?_
    refine jk_load (pc := 25) hX 1 rfl rfl ?_
    refine jk_add (pc := 26) hX rfl g4 ?_
    refine jk_iald (pc := 27) hX 1830 rfl rfl g5 ?_
    refine jk_iast (pc := 28) hX 305 rfl rfl g6 ?_
    refine jk_iinc (pc := 29) hX 1 1 rfl rfl g7 (ls' := [.inr 1, .inl (v1 + 1)]) rfl ?_
    refine jk_goto (pc := 30) hX 13 rfl ?_
    exact h8
end
section
theorem jx_loop {σ : Type} (b : Int) (Inv : Int → σ → Prop) (P : Int → σ → Prop) (hs : ∀ i s, Inv i s → (∀ s', i < b → Inv (i + 1) s' → P (i + 1) s') → P i s) : ∀ i s, Inv i s → P i s := by
  have key : ∀ (n : Nat) (i : Int) (s : σ), (b - i).toNat < n → Inv i s → P i s := by
    intro n
    induction n with
    | zero => intro i s h; omega
    | succ n ih => exact fun i s h hi => hs i s hi (fun s' hb hi' => ih (i + 1) s' (by omega) hi')
  exact fun i s hi => key _ i s (Nat.lt_succ_self _) hi
/-- downwards to a bound -/
theorem jx_loopD {σ : Type} (b : Int) (Inv : Int → σ → Prop) (P : Int → σ → Prop) (hs : ∀ i s, Inv i s → (∀ s', b < i → Inv (i - 1) s' → P (i - 1) s') → P i s) : ∀ i s, Inv i s → P i s := by
  have key : ∀ (n : Nat) (i : Int) (s : σ), (i - b).toNat < n → Inv i s → P i s := by
    intro n
    induction n with
    | zero => intro i s h; omega
    | succ n ih => exact fun i s h hi => hs i s hi (fun s' hb hi' => ih (i - 1) s' (by omega) hi')
  exact fun i s hi => key _ i s (Nat.lt_succ_self _) hi
-- ===== the class =====
theorem sp_C_isOutside (d : Nat) (a b c : Int) (M : jxM) {K : jxK} (h : K (some (.inl (jx_b (a < b ∨ c < a)))) M) : jx_call jx_G1 jx_T (d + 1) 79 [.inl a, .inl b, .inl c] M K := by
  intro X hX
  refine bk_C_isOutside_0 (d := d) hX a b c M ⟨fun q => ?_, fun q => ⟨fun q2 => ?_, fun q2 => ?_⟩⟩
  · rw [jx_bt (Or.inl q)] at h; exact h
  · rw [jx_bf (by omega)] at h; exact h
  · rw [jx_bt (Or.inr q2)] at h; exact h
theorem sp_M_connection (d : Nat) (a b : Int) (M : jxM) (h1 : 0 ≤ a ∧ a ≤ 6 ∧ 0 ≤ b ∧ b ≤ 6) {K : jxK} (h : K (some (.inl (M 12 (a * 7 + b)))) M) : jx_call jx_G1 jx_T (d + 1) 18 [.inr 4, .inl a, .inl b] M K := by
  intro X hX
  exact bk_M_connection_0 (d := d) hX a b M ⟨by omega, h⟩
theorem sp_L_stateBehind (d : Nat) (a : Int) (M : jxM) (h1 : (0 ≤ a ∧ a < 357) ∧ (0 ≤ M 87 a ∧ M 87 a ≤ 16) ∧ (0 ≤ M 88 a ∧ M 88 a ≤ 6)) {K : jxK} (h : K (some (.inl (M 87 a * 7 + M 88 a))) M) : jx_call jx_G1 jx_T (d + 1) 15 [.inr 83, .inl a] M K := by
  intro X hX
  exact bk_L_stateBehind_0 (d := d) hX a M ⟨by omega, h⟩
/-- the head of a list -/
def r_from (M : jxM) (a : Int) : Int := if M 93 a ≤ 0 then 1000000 else M 94 (a * 20)
theorem sp_R_leastFrom (d : Nat) (a : Int) (M : jxM) (h1 : 0 ≤ a ∧ a < 119) {K : jxK} (h : K (some (.inl (r_from M a))) M) : jx_call jx_G1 jx_T (d + 1) 29 [.inr 90, .inl a] M K := by
  intro X hX
  unfold r_from at h
  refine bk_R_leastFrom_0 (d := d) hX a M ⟨h1, fun q => ?_, fun q => ⟨by omega, ?_⟩⟩
  · rw [if_pos q] at h; exact h
  · rw [if_neg (by omega)] at h; exact h
theorem sp_R_hasRank (d : Nat) (a : Int) (M : jxM) {K : jxK} (h : K (some (.inl (jx_b (a < M 93 6)))) M) : jx_call jx_G1 jx_T (d + 1) 35 [.inr 90, .inl a] M K := by
  intro X hX
  refine bk_R_hasRank_0 (d := d) hX a M ⟨fun q => ?_, fun q => ?_⟩
  · rw [jx_bf (by omega)] at h; exact h
  · rw [jx_bt q] at h; exact h
theorem sp_R_costAtRank (d : Nat) (a : Int) (M : jxM) (h1 : 0 ≤ a ∧ a < 20) {K : jxK} (h : K (some (.inl (M 94 (120 + a)))) M) : jx_call jx_G1 jx_T (d + 1) 36 [.inr 90, .inl a] M K := by
  intro X hX
  exact bk_R_costAtRank_0 (d := d) hX a M ⟨by omega, h⟩
theorem sp_R_allPaths (d : Nat) (M : jxM) {K : jxK} (h : K (some (.inl (M 99 0))) M) : jx_call jx_G1 jx_T (d + 1) 33 [.inr 90] M K := by
  intro X hX
  exact bk_R_allPaths_0 (d := d) hX M h
theorem sp_R_bestPaths (d : Nat) (M : jxM) {K : jxK} (h : K (some (.inl (M 92 6))) M) : jx_call jx_G1 jx_T (d + 1) 34 [.inr 90] M K := by
  intro X hX
  exact bk_R_bestPaths_0 (d := d) hX M h
/-- the text begins an entry's reading -/
def t_begins (M : jxM) (e : Int) : Prop := M 2 1 ≤ M 7 e ∧ ∀ i, 0 ≤ i → i < M 2 1 → M 6 (e * 6 + i) = M 3 i
theorem sp_D_beginsWith (d : Nat) (e : Int) (M : jxM) (h1 : (0 ≤ e ∧ e < 20) ∧ (0 ≤ M 2 1 ∧ M 2 1 ≤ 20) ∧ M 7 e ≤ 6) {K : jxK} (h : K (some (.inl (jx_b (t_begins M e)))) M) : jx_call jx_G1 jx_T (d + 1) 4 [.inr 5, .inl e, .inr 2] M K := by
  intro X hX
  refine bk_D_beginsWith_0 (d := d) hX e M ⟨h1.1, fun q => ?_, fun q => ?_⟩
  · refine jx_loop (σ := Unit) (M 2 1) (fun i _ => 0 ≤ i ∧ i ≤ M 2 1 ∧ ∀ j, 0 ≤ j → j < i → M 6 (e * 6 + j) = M 3 j) (fun i _ => X 11 [.inr 5, .inl e, .inr 2, .inl i] [] M) ?_ 0 () ⟨by omega, by omega, fun j _ _ => by omega⟩
    intro i _ ⟨i1, i2, i3⟩ ih
    refine bk_D_beginsWith_11 (d := d) hX e i M ⟨fun q2 => ?_, fun q2 => ⟨by omega, fun q3 => ⟨by omega, ih () q2 ⟨by omega, by omega, fun j j1 j2 => ?_⟩⟩, fun q3 => ?_⟩⟩
    · rw [jx_bt ⟨q, fun j j1 j2 => i3 j j1 (by omega)⟩] at h; exact h
    · rcases Int.lt_or_le j i with z | z
      · exact i3 j j1 z
      · obtain rfl : j = i := by omega
        exact q3
    · rw [jx_bf (fun z => q3 (z.2 i i1 q2))] at h; exact h
  · rw [jx_bf (fun z => by have := z.1; omega)] at h; exact h
/-- an entry's reading stands in the input -/
def m_stands (M : jxM) (e g : Int) : Prop := g + M 7 e ≤ M 4 5 ∧ ∀ i, 0 ≤ i → i < M 7 e → M 6 (e * 6 + i) = M 13 (g + i)
theorem sp_M_standsAt (d : Nat) (e g : Int) (M : jxM) (h1 : (0 ≤ e ∧ e < 20) ∧ (0 ≤ M 7 e ∧ M 7 e ≤ 6) ∧ M 4 5 ≤ 16 ∧ 0 ≤ g ∧ g ≤ 16) {K : jxK} (h : K (some (.inl (jx_b (m_stands M e g)))) M) : jx_call jx_G1 jx_T (d + 1) 19 [.inr 4, .inl e, .inl g] M K := by
  intro X hX
  refine bk_M_standsAt_0 (d := d) hX e g M ⟨by omega, fun q => ?_, fun q => ?_⟩
  · refine jx_loop (σ := Unit) (M 7 e) (fun i _ => 0 ≤ i ∧ i ≤ M 7 e ∧ ∀ j, 0 ≤ j → j < i → M 6 (e * 6 + j) = M 13 (g + j)) (fun i _ => X 16 [.inr 4, .inl e, .inl g, .inl (M 7 e), .inl i] [] M) ?_ 0 () ⟨by omega, by omega, fun j _ _ => by omega⟩
    intro i _ ⟨i1, i2, i3⟩ ih
    refine bk_M_standsAt_16 (d := d) hX e g (M 7 e) i M ⟨fun q2 => ?_, fun q2 => ⟨by omega, fun q3 => ⟨by omega, ih () q2 ⟨by omega, by omega, fun j j1 j2 => ?_⟩⟩, fun q3 => ?_⟩⟩
    · rw [jx_bt ⟨q, fun j j1 j2 => i3 j j1 (by omega)⟩] at h; exact h
    · rcases Int.lt_or_le j i with z | z
      · exact i3 j j1 z
      · obtain rfl : j = i := by omega
        exact q3
    · rw [jx_bf (fun z => q3 (z.2 i i1 q2))] at h; exact h
  · rw [jx_bf (fun z => by have := z.1; omega)] at h; exact h
def m_may (M : jxM) (a b : Int) : Prop := M 14 b ≠ 2 ∧ ∀ g, a < g → g < b → M 14 g ≠ 1
theorem sp_M_allowsSegment (d : Nat) (a b : Int) (M : jxM) (h1 : 0 ≤ a ∧ a ≤ 16 ∧ 0 ≤ b ∧ b ≤ 16) {K : jxK} (h : K (some (.inl (jx_b (m_may M a b)))) M) : jx_call jx_G1 jx_T (d + 1) 20 [.inr 4, .inl a, .inl b] M K := by
  intro X hX
  refine bk_M_allowsSegment_0 (d := d) hX a b M ⟨by omega, fun q => ⟨by omega, ?_⟩, fun q => ?_⟩
  · refine jx_loop (σ := Unit) b (fun i _ => a < i ∧ ∀ g, a < g → g < i → M 14 g ≠ 1) (fun i _ => X 12 [.inr 4, .inl a, .inl b, .inl i] [] M) ?_ (a + 1) () ⟨by omega, fun j _ _ => by omega⟩
    intro i _ ⟨i1, i3⟩ ih
    refine bk_M_allowsSegment_12 (d := d) hX a b i M ⟨fun q2 => ?_, fun q2 => ⟨by omega, fun q3 => ⟨by omega, ih () q2 ⟨by omega, fun j j1 j2 => ?_⟩⟩, fun q3 => ?_⟩⟩
    · rw [jx_bt ⟨q, fun j j1 j2 => i3 j j1 (by omega)⟩] at h; exact h
    · rcases Int.lt_or_le j i with z | z
      · exact i3 j j1 z
      · obtain rfl : j = i := by omega
        exact q3
    · rw [jx_bf (fun z => z.2 i i1 q2 q3)] at h; exact h
  · rw [jx_bf (fun z => z.1 q)] at h; exact h
def r_trail (M : jxM) (e : Int) : Prop := ∃ i, 0 ≤ i ∧ i < M 90 13 ∧ M 101 i = e
theorem sp_R_trailHolds (d : Nat) (e : Int) (M : jxM) (h1 : M 90 13 ≤ 16) {K : jxK} (h : K (some (.inl (jx_b (r_trail M e)))) M) : jx_call jx_G1 jx_T (d + 1) 38 [.inr 90, .inl e] M K := by
  intro X hX
  refine bk_R_trailHolds_0 (d := d) hX e M ?_
  refine jx_loop (σ := Unit) (M 90 13) (fun i _ => 0 ≤ i ∧ ∀ j, 0 ≤ j → j < i → M 101 j ≠ e) (fun i _ => X 2 [.inr 90, .inl e, .inl i] [] M) ?_ 0 () ⟨by omega, fun j _ _ => by omega⟩
  intro i _ ⟨i1, i3⟩ ih
  refine bk_R_trailHolds_2 (d := d) hX e i M ⟨fun q2 => ?_, fun q2 => ⟨by omega, fun q3 => ⟨by omega, ih () q2 ⟨by omega, fun j j1 j2 => ?_⟩⟩, fun q3 => ?_⟩⟩
  · rw [jx_bf (fun ⟨j, j1, j2, j3⟩ => i3 j j1 (by omega) j3)] at h; exact h
  · rcases Int.lt_or_le j i with z | z
    · exact i3 j j1 z
    · obtain rfl : j = i := by omega
      exact q3
  · rw [jx_bt ⟨i, i1, q2, q3⟩] at h; exact h
theorem sp_T_push (d : Nat) (a : Int) (M : jxM) (h1 : 0 ≤ M 2 1 ∧ M 2 1 < 20) {K : jxK} (h : K none (jx_up (jx_up M 3 (M 2 1) a) 2 1 (M 2 1 + 1))) : jx_call jx_G1 jx_T (d + 1) 43 [.inr 2, .inl a] M K := by
  intro X hX
  exact bk_T_push_0 (d := d) hX a M ⟨fun q => absurd q (by omega), fun q => ⟨by omega, h⟩⟩
/-- the sum of the first k values -/
def j_sum (f : Int → Int) : Nat → Int
  | 0 => 0
  | k + 1 => j_sum f k + f k
theorem j_sum_le {f : Int → Int} {B : Int} (k : Nat) (h : ∀ i, 0 ≤ i → i < (k : Int) → 0 ≤ f i ∧ f i ≤ B) : 0 ≤ j_sum f k ∧ j_sum f k ≤ k * B := by
  induction k with
  | zero => simp [j_sum]
  | succ k ih =>
    have h1 := ih (fun i i1 i2 => h i i1 (by omega))
    have h2 := h k (by omega) (by omega)
    simp only [j_sum]
    have : ((k + 1 : Nat) : Int) * B = k * B + B := by rw [Int.natCast_add, Int.add_mul]; simp
    omega
theorem sp_D_sumOfUses (d : Nat) (M : jxM) (h1 : (0 ≤ M 5 6 ∧ M 5 6 ≤ 20) ∧ ∀ e, 0 ≤ e → e < M 5 6 → 0 ≤ M 11 e ∧ M 11 e ≤ 9) {K : jxK} (h : K (some (.inl (j_sum (M 11) (M 5 6).toNat))) M) : jx_call jx_G1 jx_T (d + 1) 8 [.inr 5] M K := by
  intro X hX
  refine bk_D_sumOfUses_0 (d := d) hX M ?_
  refine jx_loop (σ := Int) (M 5 6) (fun i s => 0 ≤ i ∧ i ≤ M 5 6 ∧ s = j_sum (M 11) i.toNat) (fun i s => X 4 [.inr 5, .inl s, .inl i] [] M) ?_ 0 0 ⟨by omega, by omega, rfl⟩
  intro i s ⟨i1, i2, i3⟩ ih
  have hb := j_sum_le (f := M 11) (B := 9) i.toNat (fun j j1 j2 => h1.2 j j1 (by omega))
  refine bk_D_sumOfUses_4 (d := d) hX s i M ⟨fun q => ?_, fun q => ⟨?_, ih _ q ⟨by omega, by omega, ?_⟩⟩⟩
  · obtain rfl : i = M 5 6 := by omega
    rw [i3]; exact h
  · have := h1.2 i i1 q
    omega
  · rw [i3, show (i + 1).toNat = i.toNat + 1 by omega]
    simp only [j_sum]
    rw [show ((i.toNat : Nat) : Int) = i by omega]
theorem sp_D_learn (d : Nat) (e : Int) (M : jxM) (h1 : (0 ≤ e ∧ e < 20) ∧ 0 ≤ M 11 e) {K : jxK} (h : (M 11 e < 9 → K (some (.inl 1)) (jx_up M 11 e (M 11 e + 1))) ∧ (9 ≤ M 11 e → K (some (.inl 0)) M)) : jx_call jx_G1 jx_T (d + 1) 7 [.inr 5, .inl e] M K := by
  intro X hX
  exact bk_D_learn_0 (d := d) hX e M ⟨h1.1, fun q => ⟨by omega, h.1 q⟩, h.2⟩
theorem sp_D_presentCost (d : Nat) (e : Int) (M : jxM) (h1 : (0 ≤ e ∧ e < 20) ∧ (0 ≤ M 10 e ∧ M 10 e ≤ 99) ∧ (0 ≤ M 11 e ∧ M 11 e ≤ 9)) {K : jxK} (h : K (some (.inl (max 0 (M 10 e - 3 * M 11 e)))) M) : jx_call jx_G1 jx_T (d + 2) 6 [.inr 5, .inl e] M K := by
  intro X hX
  exact bk_D_presentCost_0 (d := d) hX e M ⟨by omega, h⟩
theorem sp_R_cappedSum (d : Nat) (a b : Int) (M : jxM) (h1 : 0 ≤ a ∧ a ≤ 1000000000 ∧ 0 ≤ b ∧ b ≤ 1000000000) {K : jxK} (h : K (some (.inl (min (a + b) 1000000000))) M) : jx_call jx_G1 jx_T (d + 2) 25 [.inl a, .inl b] M K := by
  intro X hX
  exact bk_R_cappedSum_0 (d := d) hX a b M ⟨by omega, h⟩
-- ===== the reference =====
theorem sp_F_in (d : Nat) (a b c : Int) (M : jxM) {K : jxK} (h : K (some (.inl (jx_b (b ≤ a ∧ a ≤ c)))) M) : jx_call jx_G2 jx_T (d + 1) 80 [.inl a, .inl b, .inl c] M K := by
  intro X hX
  refine bk_F_in_0 (d := d) hX a b c M ⟨fun q => ?_, fun q => ⟨fun q2 => ?_, fun q2 => ?_⟩⟩
  · rw [jx_bf (by omega)] at h; exact h
  · rw [jx_bf (by omega)] at h; exact h
  · rw [jx_bt (by omega)] at h; exact h
theorem sp_F_at (d : Nat) (a : Int) (M : jxM) (h1 : 0 ≤ a ∧ a ≤ 20) {K : jxK} (h : K (some (.inl (1 + 11 * a))) M) : jx_call jx_G2 jx_T (d + 1) 86 [.inl a] M K := by
  intro X hX
  exact bk_F_at_0 (d := d) hX a M ⟨by omega, h⟩
theorem sp_F_between (d : Nat) (a b : Int) (M : jxM) (h1 : 0 ≤ a ∧ a ≤ 6 ∧ 0 ≤ b ∧ b ≤ 6) {K : jxK} (h : K (some (.inl (M 2 (221 + 7 * a + b)))) M) : jx_call jx_G2 jx_T (d + 1) 110 [.inr 1, .inl a, .inl b] M K := by
  intro X hX
  exact bk_F_between_0 (d := d) hX a b M ⟨by omega, h⟩
theorem sp_F_capped (d : Nat) (a b : Int) (M : jxM) (h1 : 0 ≤ a ∧ a ≤ 1000000000 ∧ 0 ≤ b ∧ b ≤ 1000000000) {K : jxK} (h : K (some (.inl (min (a + b) 1000000000))) M) : jx_call jx_G2 jx_T (d + 1) 111 [.inl a, .inl b] M K := by
  intro X hX
  refine bk_F_capped_0 (d := d) hX a b M ⟨by omega, fun q => ⟨by omega, ?_⟩, fun q => ?_⟩
  · rw [show min (a + b) 1000000000 = a + b by omega] at h; exact h
  · rw [show min (a + b) 1000000000 = 1000000000 by omega] at h; exact h
end
section
set_option maxHeartbeats 4000000 in
theorem bk_C_isNoEntry_0 {d : Nat} {K : jxK} {X : jxX} (hX : jx_clo jx_G1 (d + 1) (jx_call jx_G1 jx_T (d + 1)) kc_C_isNoEntry K X) (v1 : Int) (M : jxM)
    (h : (((-2147483648 : Int) ≤ (M 5 6) - 1 ∧ (M 5 6) - 1 ≤ 2147483647)) ∧ K (some (.inl (jx_b (v1 < (0 : Int) ∨ ((M 5 6) - 1) < v1)))) M) :
    X 0 [.inr 1, .inl v1] [] M := by
  obtain ⟨g1, h2⟩ := h
  refine jk_load (pc := 0) hX 1 rfl rfl ?_
  refine jk_const (pc := 1) hX 0 rfl (by decide) ?_
  refine jk_aload (pc := 2) hX 0 rfl rfl ?_
  refine jk_getR (pc := 3) hX 6 1 rfl rfl (r := 3) rfl ?_
  refine jk_getR (pc := 4) hX 3 0 rfl rfl (r := 4) rfl ?_
  refine jk_getI (pc := 5) hX 0 6 rfl rfl rfl ?_
  refine jk_const (pc := 6) hX 1 rfl (by decide) ?_
  refine jk_sub (pc := 7) hX rfl g1 ?_
  refine jk_cs (pc := 8) hX 79 3 rfl [.inl v1, .inl 0, .inl ((M 5 6) - 1)] [] rfl rfl (Nat.le_of_ble_eq_true rfl) (sp_C_isOutside d v1 (0 : Int) ((M 5 6) - 1) M  ?_)
  show X 9 [.inr 1, .inl v1] [.inl (jx_b (v1 < (0 : Int) ∨ ((M 5 6) - 1) < v1))] M
  exact jk_zret (pc := 9) hX rfl (jx_b01 _) h2
set_option maxHeartbeats 4000000 in
theorem bk_C_isNoGap_0 {d : Nat} {K : jxK} {X : jxX} (hX : jx_clo jx_G1 (d + 1) (jx_call jx_G1 jx_T (d + 1)) kc_C_isNoGap K X) (v1 : Int) (M : jxM)
    (h : K (some (.inl (jx_b (v1 < (0 : Int) ∨ (M 4 5) < v1)))) M) :
    X 0 [.inr 1, .inl v1] [] M := by
  refine jk_load (pc := 0) hX 1 rfl rfl ?_
  refine jk_const (pc := 1) hX 0 rfl (by decide) ?_
  refine jk_aload (pc := 2) hX 0 rfl rfl ?_
  refine jk_getR (pc := 3) hX 6 1 rfl rfl (r := 3) rfl ?_
  refine jk_getI (pc := 4) hX 3 5 rfl rfl rfl ?_
  refine jk_cs (pc := 5) hX 79 3 rfl [.inl v1, .inl 0, .inl (M 4 5)] [] rfl rfl (Nat.le_of_ble_eq_true rfl) (sp_C_isOutside d v1 (0 : Int) (M 4 5) M  ?_)
  show X 6 [.inr 1, .inl v1] [.inl (jx_b (v1 < (0 : Int) ∨ (M 4 5) < v1))] M
  exact jk_zret (pc := 6) hX rfl (jx_b01 _) h
set_option maxHeartbeats 4000000 in
theorem bk_C_isNoInnerGap_0 {d : Nat} {K : jxK} {X : jxX} (hX : jx_clo jx_G1 (d + 1) (jx_call jx_G1 jx_T (d + 1)) kc_C_isNoInnerGap K X) (v1 : Int) (M : jxM)
    (h : (((-2147483648 : Int) ≤ (M 4 5) - 1 ∧ (M 4 5) - 1 ≤ 2147483647)) ∧ K (some (.inl (jx_b (v1 < (1 : Int) ∨ ((M 4 5) - 1) < v1)))) M) :
    X 0 [.inr 1, .inl v1] [] M := by
  obtain ⟨g1, h2⟩ := h
  refine jk_load (pc := 0) hX 1 rfl rfl ?_
  refine jk_const (pc := 1) hX 1 rfl (by decide) ?_
  refine jk_aload (pc := 2) hX 0 rfl rfl ?_
  refine jk_getR (pc := 3) hX 6 1 rfl rfl (r := 3) rfl ?_
  refine jk_getI (pc := 4) hX 3 5 rfl rfl rfl ?_
  refine jk_const (pc := 5) hX 1 rfl (by decide) ?_
  refine jk_sub (pc := 6) hX rfl g1 ?_
  refine jk_cs (pc := 7) hX 79 3 rfl [.inl v1, .inl 1, .inl ((M 4 5) - 1)] [] rfl rfl (Nat.le_of_ble_eq_true rfl) (sp_C_isOutside d v1 (1 : Int) ((M 4 5) - 1) M  ?_)
  show X 8 [.inr 1, .inl v1] [.inl (jx_b (v1 < (1 : Int) ∨ ((M 4 5) - 1) < v1))] M
  exact jk_zret (pc := 8) hX rfl (jx_b01 _) h2
set_option maxHeartbeats 4000000 in
theorem bk_C_isNoRank_0 {d : Nat} {K : jxK} {X : jxX} (hX : jx_clo jx_G1 (d + 1) (jx_call jx_G1 jx_T (d + 1)) kc_C_isNoRank K X) (v0 : Int) (M : jxM)
    (h : K (some (.inl (jx_b (v0 < (0 : Int) ∨ (19 : Int) < v0)))) M) :
    X 0 [.inl v0] [] M := by
  refine jk_load (pc := 0) hX 0 rfl rfl ?_
  refine jk_const (pc := 1) hX 0 rfl (by decide) ?_
  refine jk_const (pc := 2) hX 19 rfl (by decide) ?_
  refine jk_cs (pc := 3) hX 79 3 rfl [.inl v0, .inl 0, .inl 19] [] rfl rfl (Nat.le_of_ble_eq_true rfl) (sp_C_isOutside d v0 (0 : Int) (19 : Int) M  ?_)
  show X 4 [.inl v0] [.inl (jx_b (v0 < (0 : Int) ∨ (19 : Int) < v0))] M
  exact jk_zret (pc := 4) hX rfl (jx_b01 _) h
set_option maxHeartbeats 4000000 in
theorem bk_T_firstError_0 {d : Nat} {K : jxK} {X : jxX} (hX : jx_clo jx_G1 (d + 1) (jx_call jx_G1 jx_T (d + 1)) kc_T_firstError K X) (v1 : Int) (M : jxM)
    (h : X 2 [.inr 2, .inl v1, .inl 0] [] M) :
    X 0 [.inr 2, .inl v1, .inr 0] [] M := by
  refine jk_const (pc := 0) hX 0 rfl (by decide) ?_
  refine jk_store (pc := 1) hX 2 rfl (Nat.le_of_ble_eq_true rfl) (ls' := [.inr 2, .inl v1, .inl 0]) rfl ?_
  exact h
set_option maxHeartbeats 4000000 in
theorem bk_T_firstError_2 {d : Nat} {K : jxK} {X : jxX} (hX : jx_clo jx_G1 (d + 1) (jx_call jx_G1 jx_T (d + 1)) kc_T_firstError K X) (v1 : Int) (v2 : Int) (M : jxM)
    (h : (((M 2 1) ≤ v2 → K (some (.inl (-1))) M) ∧ (v2 < (M 2 1) → ((v1 ≤ v2 → K (some (.inl v2)) M) ∧ (v2 < v1 → ((0 ≤ v2 ∧ v2 < 20)) ∧ ((¬ ((M 3 v2) < (97 : Int) ∨ (122 : Int) < (M 3 v2)) → (((-2147483648 : Int) ≤ v2 + 1 ∧ v2 + 1 ≤ 2147483647)) ∧ X 2 [.inr 2, .inl v1, .inl (v2 + 1)] [] M) ∧ ((M 3 v2) < (97 : Int) ∨ (122 : Int) < (M 3 v2) → K (some (.inl v2)) M))))))) :
    X 2 [.inr 2, .inl v1, .inl v2] [] M := by
  refine jk_load (pc := 2) hX 2 rfl rfl ?_
  refine jk_aload (pc := 3) hX 0 rfl rfl ?_
  refine jk_getI (pc := 4) hX 5 1 rfl rfl rfl ?_
  refine jk_cge (pc := 5) hX 21 rfl (fun q15 => ?_) (fun q16 => ?_)
  · have h1 := h.1 q15
    refine jk_const (pc := 21) hX (-1) rfl (by decide) ?_
    exact jk_iret (pc := 22) hX rfl h1
  · have h2 := h.2 q16
    refine jk_load (pc := 6) hX 2 rfl rfl ?_
    refine jk_load (pc := 7) hX 1 rfl rfl ?_
    refine jk_cge (pc := 8) hX 17 rfl (fun q13 => ?_) (fun q14 => ?_)
    · have h3 := h2.1 q13
      refine jk_load (pc := 17) hX 2 rfl rfl ?_
      exact jk_iret (pc := 18) hX rfl h3
    · have h4 := h2.2 q14
      obtain ⟨g5, h12⟩ := h4
      refine jk_aload (pc := 9) hX 0 rfl rfl ?_
      refine jk_getR (pc := 10) hX 5 0 rfl rfl (r := 2) rfl ?_
      refine jk_load (pc := 11) hX 2 rfl rfl ?_
      refine jk_iald (pc := 12) hX 20 rfl rfl g5 ?_
      refine jk_const (pc := 13) hX 97 rfl (by decide) ?_
      refine jk_const (pc := 14) hX 122 rfl (by decide) ?_
      refine jk_cs (pc := 15) hX 79 3 rfl [.inl (M 3 v2), .inl 97, .inl 122] [] rfl rfl (Nat.le_of_ble_eq_true rfl) (sp_C_isOutside d (M 3 v2) (97 : Int) (122 : Int) M  ?_)
      show X 16 [.inr 2, .inl v1, .inl v2] [.inl (jx_b ((M 3 v2) < (97 : Int) ∨ (122 : Int) < (M 3 v2)))] M
      refine jk_zeqB (pc := 16) hX 19 rfl (fun q10 => ?_) (fun q11 => ?_)
      · have h6 := h12.1 q10
        obtain ⟨g8, h9⟩ := h6
        refine jk_iinc (pc := 19) hX 2 1 rfl rfl g8 (ls' := [.inr 2, .inl v1, .inl (v2 + 1)]) rfl ?_
        refine jk_goto (pc := 20) hX 2 rfl ?_
        exact h9
      · have h7 := h12.2 q11
        refine jk_load (pc := 17) hX 2 rfl rfl ?_
        exact jk_iret (pc := 18) hX rfl h7
set_option maxHeartbeats 4000000 in
theorem bk_D_holds_0 {d : Nat} {K : jxK} {X : jxX} (hX : jx_clo jx_G1 (d + 1) (jx_call jx_G1 jx_T (d + 1)) kc_D_holds K X) (v2 : Int) (v3 : Int) (M : jxM)
    (h : X 2 [.inr 5, .inr 2, .inl v2, .inl v3, .inl 0] [] M) :
    X 0 [.inr 5, .inr 2, .inl v2, .inl v3, .inr 0] [] M := by
  refine jk_const (pc := 0) hX 0 rfl (by decide) ?_
  refine jk_store (pc := 1) hX 4 rfl (Nat.le_of_ble_eq_true rfl) (ls' := [.inr 5, .inr 2, .inl v2, .inl v3, .inl 0]) rfl ?_
  exact h
set_option maxHeartbeats 4000000 in
theorem bk_D_holds_2 {d : Nat} {K : jxK} {X : jxX} (hX : jx_clo jx_G1 (d + 1) (jx_call jx_G1 jx_T (d + 1)) kc_D_holds K X) (v2 : Int) (v3 : Int) (v4 : Int) (M : jxM)
    (h : (((M 5 6) ≤ v4 → K (some (.inl 0)) M) ∧ (v4 < (M 5 6) → ((0 ≤ v4 ∧ v4 < 20)) ∧ (((M 8 v4) ≠ v2 → (((-2147483648 : Int) ≤ v4 + 1 ∧ v4 + 1 ≤ 2147483647)) ∧ X 2 [.inr 5, .inr 2, .inl v2, .inl v3, .inl (v4 + 1)] [] M) ∧ ((M 8 v4) = v2 → ((0 ≤ v4 ∧ v4 < 20)) ∧ (((M 9 v4) ≠ v3 → (((-2147483648 : Int) ≤ v4 + 1 ∧ v4 + 1 ≤ 2147483647)) ∧ X 2 [.inr 5, .inr 2, .inl v2, .inl v3, .inl (v4 + 1)] [] M) ∧ ((M 9 v4) = v3 → ((0 ≤ v4 ∧ v4 < 20)) ∧ (((M 7 v4) ≠ (M 2 1) → (((-2147483648 : Int) ≤ v4 + 1 ∧ v4 + 1 ≤ 2147483647)) ∧ X 2 [.inr 5, .inr 2, .inl v2, .inl v3, .inl (v4 + 1)] [] M) ∧ ((M 7 v4) = (M 2 1) → ((((0 : Int) ≤ v4 ∧ v4 < 20) ∧ ((0 : Int) ≤ (M 2 1) ∧ (M 2 1) ≤ 20) ∧ (M 7 v4) ≤ 6)) ∧ ((¬ (t_begins M v4) → (((-2147483648 : Int) ≤ v4 + 1 ∧ v4 + 1 ≤ 2147483647)) ∧ X 2 [.inr 5, .inr 2, .inl v2, .inl v3, .inl (v4 + 1)] [] M) ∧ (t_begins M v4 → K (some (.inl 1)) M))))))))))) :
    X 2 [.inr 5, .inr 2, .inl v2, .inl v3, .inl v4] [] M := by
  refine jk_load (pc := 2) hX 4 rfl rfl ?_
  refine jk_aload (pc := 3) hX 0 rfl rfl ?_
  refine jk_getI (pc := 4) hX 0 6 rfl rfl rfl ?_
  refine jk_cge (pc := 5) hX 34 rfl (fun q35 => ?_) (fun q36 => ?_)
  · have h1 := h.1 q35
    refine jk_const (pc := 34) hX 0 rfl (by decide) ?_
    exact jk_zret (pc := 35) hX rfl (Or.inl rfl) h1
  · have h2 := h.2 q36
    obtain ⟨g3, h34⟩ := h2
    refine jk_aload (pc := 6) hX 0 rfl rfl ?_
    refine jk_getR (pc := 7) hX 0 2 rfl rfl (r := 7) rfl ?_
    refine jk_load (pc := 8) hX 4 rfl rfl ?_
    refine jk_iald (pc := 9) hX 20 rfl rfl g3 ?_
    refine jk_load (pc := 10) hX 2 rfl rfl ?_
    refine jk_cne (pc := 11) hX 32 rfl (fun q32 => ?_) (fun q33 => ?_)
    · have h4 := h34.1 q32
      obtain ⟨g6, h7⟩ := h4
      refine jk_iinc (pc := 32) hX 4 1 rfl rfl g6 (ls' := [.inr 5, .inr 2, .inl v2, .inl v3, .inl (v4 + 1)]) rfl ?_
      refine jk_goto (pc := 33) hX 2 rfl ?_
      exact h7
    · have h5 := h34.2 q33
      obtain ⟨g8, h31⟩ := h5
      refine jk_aload (pc := 12) hX 0 rfl rfl ?_
      refine jk_getR (pc := 13) hX 0 3 rfl rfl (r := 8) rfl ?_
      refine jk_load (pc := 14) hX 4 rfl rfl ?_
      refine jk_iald (pc := 15) hX 20 rfl rfl g8 ?_
      refine jk_load (pc := 16) hX 3 rfl rfl ?_
      refine jk_cne (pc := 17) hX 32 rfl (fun q29 => ?_) (fun q30 => ?_)
      · have h9 := h31.1 q29
        obtain ⟨g11, h12⟩ := h9
        refine jk_iinc (pc := 32) hX 4 1 rfl rfl g11 (ls' := [.inr 5, .inr 2, .inl v2, .inl v3, .inl (v4 + 1)]) rfl ?_
        refine jk_goto (pc := 33) hX 2 rfl ?_
        exact h12
      · have h10 := h31.2 q30
        obtain ⟨g13, h28⟩ := h10
        refine jk_aload (pc := 18) hX 0 rfl rfl ?_
        refine jk_getR (pc := 19) hX 0 1 rfl rfl (r := 6) rfl ?_
        refine jk_load (pc := 20) hX 4 rfl rfl ?_
        refine jk_iald (pc := 21) hX 20 rfl rfl g13 ?_
        refine jk_aload (pc := 22) hX 1 rfl rfl ?_
        refine jk_getI (pc := 23) hX 5 1 rfl rfl rfl ?_
        refine jk_cne (pc := 24) hX 32 rfl (fun q26 => ?_) (fun q27 => ?_)
        · have h14 := h28.1 q26
          obtain ⟨g16, h17⟩ := h14
          refine jk_iinc (pc := 32) hX 4 1 rfl rfl g16 (ls' := [.inr 5, .inr 2, .inl v2, .inl v3, .inl (v4 + 1)]) rfl ?_
          refine jk_goto (pc := 33) hX 2 rfl ?_
          exact h17
        · have h15 := h28.2 q27
          obtain ⟨g18, h25⟩ := h15
          refine jk_aload (pc := 25) hX 0 rfl rfl ?_
          refine jk_load (pc := 26) hX 4 rfl rfl ?_
          refine jk_aload (pc := 27) hX 1 rfl rfl ?_
          refine jk_cv (pc := 28) hX 4 2 0 rfl 5 [.inl v4, .inr 2] [] rfl rfl rfl (Nat.le_of_ble_eq_true rfl) (sp_D_beginsWith d v4 M g18 ?_)
          show X 29 [.inr 5, .inr 2, .inl v2, .inl v3, .inl v4] [.inl (jx_b (t_begins M v4))] M
          refine jk_zeqB (pc := 29) hX 32 rfl (fun q23 => ?_) (fun q24 => ?_)
          · have h19 := h25.1 q23
            obtain ⟨g21, h22⟩ := h19
            refine jk_iinc (pc := 32) hX 4 1 rfl rfl g21 (ls' := [.inr 5, .inr 2, .inl v2, .inl v3, .inl (v4 + 1)]) rfl ?_
            refine jk_goto (pc := 33) hX 2 rfl ?_
            exact h22
          · have h20 := h25.2 q24
            refine jk_const (pc := 30) hX 1 rfl (by decide) ?_
            exact jk_zret (pc := 31) hX rfl (Or.inr rfl) h20
set_option maxHeartbeats 4000000 in
theorem bk_D_moveDown_0 {d : Nat} {K : jxK} {X : jxX} (hX : jx_clo jx_G1 (d + 1) (jx_call jx_G1 jx_T (d + 1)) kc_D_moveDown K X) (v1 : Int) (M : jxM)
    (h : (((-2147483648 : Int) ≤ v1 - 1 ∧ v1 - 1 ≤ 2147483647) ∧ ((-2147483648 : Int) ≤ v1 * 6 ∧ v1 * 6 ≤ 2147483647) ∧ ((-2147483648 : Int) ≤ (v1 - 1) * 6 ∧ (v1 - 1) * 6 ≤ 2147483647) ∧ ((0 : Int) ≤ (v1 * 6) ∧ (0 : Int) ≤ ((v1 - 1) * 6) ∧ (0 : Int) ≤ 6 ∧ (v1 * 6) + 6 ≤ 120 ∧ ((v1 - 1) * 6) + 6 ≤ 120) ∧ (0 ≤ v1 ∧ v1 < 20) ∧ (0 ≤ (v1 - 1) ∧ (v1 - 1) < 20) ∧ (0 ≤ v1 ∧ v1 < 20) ∧ (0 ≤ (v1 - 1) ∧ (v1 - 1) < 20) ∧ (0 ≤ v1 ∧ v1 < 20) ∧ (0 ≤ (v1 - 1) ∧ (v1 - 1) < 20) ∧ (0 ≤ v1 ∧ v1 < 20) ∧ (0 ≤ (v1 - 1) ∧ (v1 - 1) < 20) ∧ (0 ≤ v1 ∧ v1 < 20) ∧ (0 ≤ (v1 - 1) ∧ (v1 - 1) < 20)) ∧ K none (jx_up (jx_up (jx_up (jx_up (jx_up (jx_cp M 6 (v1 * 6) 6 ((v1 - 1) * 6) 6) 7 (v1 - 1) (M 7 v1)) 8 (v1 - 1) (M 8 v1)) 9 (v1 - 1) (M 9 v1)) 10 (v1 - 1) (M 10 v1)) 11 (v1 - 1) (M 11 v1))) :
    X 0 [.inr 5, .inl v1, .inr 0] [] M := by
  obtain ⟨⟨g1, g2, g3, g4, g5, g6, g7, g8, g9, g10, g11, g12, g13, g14⟩, h15⟩ := h
  refine jk_load (pc := 0) hX 1 rfl rfl ?_
  refine jk_const (pc := 1) hX 1 rfl (by decide) ?_
  refine jk_sub (pc := 2) hX rfl g1 ?_
  refine jk_store (pc := 3) hX 2 rfl (Nat.le_of_ble_eq_true rfl) (ls' := [.inr 5, .inl v1, .inl (v1 - 1)]) rfl ?_
  refine jk_aload (pc := 4) hX 0 rfl rfl ?_
  refine jk_getR (pc := 5) hX 0 0 rfl rfl (r := 5) rfl ?_
  refine jk_load (pc := 6) hX 1 rfl rfl ?_
  refine jk_const (pc := 7) hX 6 rfl (by decide) ?_
  refine jk_mul (pc := 8) hX rfl g2 ?_
  refine jk_aload (pc := 9) hX 0 rfl rfl ?_
  refine jk_getR (pc := 10) hX 0 0 rfl rfl (r := 5) rfl ?_
  refine jk_load (pc := 11) hX 2 rfl rfl ?_
  refine jk_const (pc := 12) hX 6 rfl (by decide) ?_
  refine jk_mul (pc := 13) hX rfl g3 ?_
  refine jk_const (pc := 14) hX 6 rfl (by decide) ?_
  refine jk_copy (pc := 15) hX 120 120 rfl (by omega) (Nat.le_of_ble_eq_true rfl) rfl rfl g4 ?_
  refine jk_aload (pc := 16) hX 0 rfl rfl ?_
  refine jk_getR (pc := 17) hX 0 1 rfl rfl (r := 6) rfl ?_
  refine jk_load (pc := 18) hX 2 rfl rfl ?_
  refine jk_aload (pc := 19) hX 0 rfl rfl ?_
  refine jk_getR (pc := 20) hX 0 1 rfl rfl (r := 6) rfl ?_
  refine jk_load (pc := 21) hX 1 rfl rfl ?_
  refine jk_iald (pc := 22) hX 20 rfl rfl g5 (jx_vX (jx_cpc (by decide)) ?_)
  refine jk_iast (pc := 23) hX 20 rfl rfl g6 ?_
  refine jk_aload (pc := 24) hX 0 rfl rfl ?_
  refine jk_getR (pc := 25) hX 0 2 rfl rfl (r := 7) rfl ?_
  refine jk_load (pc := 26) hX 2 rfl rfl ?_
  refine jk_aload (pc := 27) hX 0 rfl rfl ?_
  refine jk_getR (pc := 28) hX 0 2 rfl rfl (r := 7) rfl ?_
  refine jk_load (pc := 29) hX 1 rfl rfl ?_
  refine jk_iald (pc := 30) hX 20 rfl rfl g7 (jx_vX ((jx_upc (by decide)).trans (jx_cpc (by decide))) ?_)
  refine jk_iast (pc := 31) hX 20 rfl rfl g8 ?_
  refine jk_aload (pc := 32) hX 0 rfl rfl ?_
  refine jk_getR (pc := 33) hX 0 3 rfl rfl (r := 8) rfl ?_
  refine jk_load (pc := 34) hX 2 rfl rfl ?_
  refine jk_aload (pc := 35) hX 0 rfl rfl ?_
  refine jk_getR (pc := 36) hX 0 3 rfl rfl (r := 8) rfl ?_
  refine jk_load (pc := 37) hX 1 rfl rfl ?_
  refine jk_iald (pc := 38) hX 20 rfl rfl g9 (jx_vX ((jx_upc (by decide)).trans ((jx_upc (by decide)).trans (jx_cpc (by decide)))) ?_)
  refine jk_iast (pc := 39) hX 20 rfl rfl g10 ?_
  refine jk_aload (pc := 40) hX 0 rfl rfl ?_
  refine jk_getR (pc := 41) hX 0 4 rfl rfl (r := 9) rfl ?_
  refine jk_load (pc := 42) hX 2 rfl rfl ?_
  refine jk_aload (pc := 43) hX 0 rfl rfl ?_
  refine jk_getR (pc := 44) hX 0 4 rfl rfl (r := 9) rfl ?_
  refine jk_load (pc := 45) hX 1 rfl rfl ?_
  refine jk_iald (pc := 46) hX 20 rfl rfl g11 (jx_vX ((jx_upc (by decide)).trans ((jx_upc (by decide)).trans ((jx_upc (by decide)).trans (jx_cpc (by decide))))) ?_)
  refine jk_iast (pc := 47) hX 20 rfl rfl g12 ?_
  refine jk_aload (pc := 48) hX 0 rfl rfl ?_
  refine jk_getR (pc := 49) hX 0 5 rfl rfl (r := 10) rfl ?_
  refine jk_load (pc := 50) hX 2 rfl rfl ?_
  refine jk_aload (pc := 51) hX 0 rfl rfl ?_
  refine jk_getR (pc := 52) hX 0 5 rfl rfl (r := 10) rfl ?_
  refine jk_load (pc := 53) hX 1 rfl rfl ?_
  refine jk_iald (pc := 54) hX 20 rfl rfl g13 (jx_vX ((jx_upc (by decide)).trans ((jx_upc (by decide)).trans ((jx_upc (by decide)).trans ((jx_upc (by decide)).trans (jx_cpc (by decide)))))) ?_)
  refine jk_iast (pc := 55) hX 20 rfl rfl g14 ?_
  exact jk_vret (pc := 56) hX rfl h15
set_option maxHeartbeats 4000000 in
theorem bk_D_append_0 {d : Nat} {K : jxK} {X : jxX} (hX : jx_clo jx_G1 (d + 1) (jx_call jx_G1 jx_T (d + 1)) kc_D_append K X) (v2 : Int) (v3 : Int) (v4 : Int) (M : jxM)
    (h : ((20 ≤ (M 5 6) → K none M) ∧ ((M 5 6) < 20 → (((M 2 1) ≤ 6 → (((-2147483648 : Int) ≤ (M 5 6) * 6 ∧ (M 5 6) * 6 ≤ 2147483647) ∧ ((0 : Int) ≤ 0 ∧ (0 : Int) ≤ ((M 5 6) * 6) ∧ (0 : Int) ≤ (M 2 1) ∧ 0 + (M 2 1) ≤ 20 ∧ ((M 5 6) * 6) + (M 2 1) ≤ 120) ∧ (0 ≤ (M 5 6) ∧ (M 5 6) < 20) ∧ (0 ≤ (M 5 6) ∧ (M 5 6) < 20) ∧ (0 ≤ (M 5 6) ∧ (M 5 6) < 20) ∧ (0 ≤ (M 5 6) ∧ (M 5 6) < 20) ∧ (0 ≤ (M 5 6) ∧ (M 5 6) < 20) ∧ ((-2147483648 : Int) ≤ (M 5 6) + 1 ∧ (M 5 6) + 1 ≤ 2147483647)) ∧ K none (jx_up (jx_up (jx_up (jx_up (jx_up (jx_up (jx_cp M 3 0 6 ((M 5 6) * 6) (M 2 1)) 7 (M 5 6) (M 2 1)) 8 (M 5 6) v2) 9 (M 5 6) v3) 10 (M 5 6) v4) 11 (M 5 6) 0) 5 6 ((M 5 6) + 1))) ∧ (6 < (M 2 1) → K none M))))) :
    X 0 [.inr 5, .inr 2, .inl v2, .inl v3, .inl v4, .inr 0] [] M := by
  refine jk_aload (pc := 0) hX 0 rfl rfl ?_
  refine jk_getI (pc := 1) hX 0 6 rfl rfl rfl ?_
  refine jk_store (pc := 2) hX 5 rfl (Nat.le_of_ble_eq_true rfl) (ls' := [.inr 5, .inr 2, .inl v2, .inl v3, .inl v4, .inl (M 5 6)]) rfl ?_
  refine jk_load (pc := 3) hX 5 rfl rfl ?_
  refine jk_const (pc := 4) hX 20 rfl (by decide) ?_
  refine jk_cge (pc := 5) hX 10 rfl (fun q16 => ?_) (fun q17 => ?_)
  · have h1 := h.1 q16
    exact jk_vret (pc := 10) hX rfl h1
  · have h2 := h.2 q17
    refine jk_aload (pc := 6) hX 1 rfl rfl ?_
    refine jk_getI (pc := 7) hX 5 1 rfl rfl rfl ?_
    refine jk_const (pc := 8) hX 6 rfl (by decide) ?_
    refine jk_cle (pc := 9) hX 11 rfl (fun q14 => ?_) (fun q15 => ?_)
    · have h3 := h2.1 q14
      obtain ⟨⟨g5, g6, g7, g8, g9, g10, g11, g12⟩, h13⟩ := h3
      refine jk_aload (pc := 11) hX 1 rfl rfl ?_
      refine jk_getR (pc := 12) hX 5 0 rfl rfl (r := 2) rfl ?_
      refine jk_const (pc := 13) hX 0 rfl (by decide) ?_
      refine jk_aload (pc := 14) hX 0 rfl rfl ?_
      refine jk_getR (pc := 15) hX 0 0 rfl rfl (r := 5) rfl ?_
      refine jk_load (pc := 16) hX 5 rfl rfl ?_
      refine jk_const (pc := 17) hX 6 rfl (by decide) ?_
      refine jk_mul (pc := 18) hX rfl g5 ?_
      refine jk_aload (pc := 19) hX 1 rfl rfl ?_
      refine jk_getI (pc := 20) hX 5 1 rfl rfl rfl ?_
      refine jk_copy (pc := 21) hX 20 120 rfl (by omega) (Nat.le_of_ble_eq_true rfl) rfl rfl g6 ?_
      refine jk_aload (pc := 22) hX 0 rfl rfl ?_
      refine jk_getR (pc := 23) hX 0 1 rfl rfl (r := 6) rfl ?_
      refine jk_load (pc := 24) hX 5 rfl rfl ?_
      refine jk_aload (pc := 25) hX 1 rfl rfl ?_
      refine jk_getI (pc := 26) hX 5 1 rfl rfl rfl (jx_vX (jx_cpc (by decide)) ?_)
      refine jk_iast (pc := 27) hX 20 rfl rfl g7 ?_
      refine jk_aload (pc := 28) hX 0 rfl rfl ?_
      refine jk_getR (pc := 29) hX 0 2 rfl rfl (r := 7) rfl ?_
      refine jk_load (pc := 30) hX 5 rfl rfl ?_
      refine jk_load (pc := 31) hX 2 rfl rfl ?_
      refine jk_iast (pc := 32) hX 20 rfl rfl g8 ?_
      refine jk_aload (pc := 33) hX 0 rfl rfl ?_
      refine jk_getR (pc := 34) hX 0 3 rfl rfl (r := 8) rfl ?_
      refine jk_load (pc := 35) hX 5 rfl rfl ?_
      refine jk_load (pc := 36) hX 3 rfl rfl ?_
      refine jk_iast (pc := 37) hX 20 rfl rfl g9 ?_
      refine jk_aload (pc := 38) hX 0 rfl rfl ?_
      refine jk_getR (pc := 39) hX 0 4 rfl rfl (r := 9) rfl ?_
      refine jk_load (pc := 40) hX 5 rfl rfl ?_
      refine jk_load (pc := 41) hX 4 rfl rfl ?_
      refine jk_iast (pc := 42) hX 20 rfl rfl g10 ?_
      refine jk_aload (pc := 43) hX 0 rfl rfl ?_
      refine jk_getR (pc := 44) hX 0 5 rfl rfl (r := 10) rfl ?_
      refine jk_load (pc := 45) hX 5 rfl rfl ?_
      refine jk_const (pc := 46) hX 0 rfl (by decide) ?_
      refine jk_iast (pc := 47) hX 20 rfl rfl g11 ?_
      refine jk_aload (pc := 48) hX 0 rfl rfl ?_
      refine jk_dup (pc := 49) hX rfl ?_
      refine jk_getI (pc := 50) hX 0 6 rfl rfl rfl (jx_vX ((jx_upc (by decide)).trans ((jx_upc (by decide)).trans ((jx_upc (by decide)).trans ((jx_upc (by decide)).trans ((jx_upc (by decide)).trans (jx_cpc (by decide))))))) ?_)
      refine jk_const (pc := 51) hX 1 rfl (by decide) ?_
      refine jk_add (pc := 52) hX rfl g12 ?_
      refine jk_put (pc := 53) hX 0 6 rfl rfl rfl ?_
      exact jk_vret (pc := 54) hX rfl h13
    · have h4 := h2.2 q15
      exact jk_vret (pc := 10) hX rfl h4
set_option maxHeartbeats 4000000 in
theorem bk_M_takeInput_0 {d : Nat} {K : jxK} {X : jxX} (hX : jx_clo jx_G1 (d + 1) (jx_call jx_G1 jx_T (d + 1)) kc_M_takeInput K X) (M : jxM)
    (h : (((M 2 1) ≤ 16 → (((0 : Int) ≤ 0 ∧ (0 : Int) ≤ 0 ∧ (0 : Int) ≤ (M 2 1) ∧ 0 + (M 2 1) ≤ 20 ∧ 0 + (M 2 1) ≤ 16)) ∧ jx_call jx_G1 jx_T (d + 1) 127 [.inr 14, .inl 0] (jx_up (jx_cp M 3 0 13 0 (M 2 1)) 4 5 (M 2 1)) (fun r M5 => r = none ∧ K none M5)) ∧ (16 < (M 2 1) → K none M))) :
    X 0 [.inr 4, .inr 2] [] M := by
  refine jk_aload (pc := 0) hX 1 rfl rfl ?_
  refine jk_getI (pc := 1) hX 5 1 rfl rfl rfl ?_
  refine jk_const (pc := 2) hX 16 rfl (by decide) ?_
  refine jk_cle (pc := 3) hX 5 rfl (fun q8 => ?_) (fun q9 => ?_)
  · have h1 := h.1 q8
    obtain ⟨g3, h7⟩ := h1
    refine jk_aload (pc := 5) hX 1 rfl rfl ?_
    refine jk_getR (pc := 6) hX 5 0 rfl rfl (r := 2) rfl ?_
    refine jk_const (pc := 7) hX 0 rfl (by decide) ?_
    refine jk_aload (pc := 8) hX 0 rfl rfl ?_
    refine jk_getR (pc := 9) hX 3 2 rfl rfl (r := 12) rfl ?_
    refine jk_const (pc := 10) hX 0 rfl (by decide) ?_
    refine jk_aload (pc := 11) hX 1 rfl rfl ?_
    refine jk_getI (pc := 12) hX 5 1 rfl rfl rfl ?_
    refine jk_copy (pc := 13) hX 20 16 rfl (by omega) (Nat.le_of_ble_eq_true rfl) rfl rfl g3 ?_
    refine jk_aload (pc := 14) hX 0 rfl rfl ?_
    refine jk_aload (pc := 15) hX 1 rfl rfl ?_
    refine jk_getI (pc := 16) hX 5 1 rfl rfl rfl (jx_vX (jx_cpc (by decide)) ?_)
    refine jk_put (pc := 17) hX 3 5 rfl rfl rfl ?_
    refine jk_aload (pc := 18) hX 0 rfl rfl ?_
    refine jk_getR (pc := 19) hX 3 3 rfl rfl (r := 13) rfl ?_
    refine jk_const (pc := 20) hX 0 rfl (by decide) ?_
    refine jk_cs (pc := 21) hX 127 2 rfl [.inr 14, .inl 0] [] rfl rfl (Nat.le_of_ble_eq_true rfl) (jx_mono (fun r M5 hr => ?_) h7)
    obtain ⟨rfl, h6⟩ := hr
    show X 22 [.inr 4, .inr 2] [] M5
    exact jk_vret (pc := 22) hX rfl h6
  · have h2 := h.2 q9
    exact jk_vret (pc := 4) hX rfl h2
set_option maxHeartbeats 4000000 in
theorem bk_F_fault_0 {d : Nat} {K : jxK} {X : jxX} (hX : jx_clo jx_G2 (d + 1) (jx_call jx_G2 jx_T (d + 1)) kc_F_fault K X) (v1 : Int) (M : jxM)
    (h : X 2 [.inr 1, .inl v1, .inl 0] [] M) :
    X 0 [.inr 1, .inl v1, .inr 0] [] M := by
  refine jk_const (pc := 0) hX 0 rfl (by decide) ?_
  refine jk_store (pc := 1) hX 2 rfl (Nat.le_of_ble_eq_true rfl) (ls' := [.inr 1, .inl v1, .inl 0]) rfl ?_
  exact h
set_option maxHeartbeats 4000000 in
theorem bk_F_fault_2 {d : Nat} {K : jxK} {X : jxX} (hX : jx_clo jx_G2 (d + 1) (jx_call jx_G2 jx_T (d + 1)) kc_F_fault K X) (v1 : Int) (v2 : Int) (M : jxM)
    (h : (((M 1 4) ≤ v2 → K (some (.inl (-9))) M) ∧ (v2 < (M 1 4) → ((v2 = v1 → K (some (.inl v2)) M) ∧ (v2 ≠ v1 → ((0 ≤ v2 ∧ v2 < 20)) ∧ (((97 : Int) ≤ (M 4 v2) ∧ (M 4 v2) ≤ (122 : Int) → (((-2147483648 : Int) ≤ v2 + 1 ∧ v2 + 1 ≤ 2147483647)) ∧ X 2 [.inr 1, .inl v1, .inl (v2 + 1)] [] M) ∧ (¬ ((97 : Int) ≤ (M 4 v2) ∧ (M 4 v2) ≤ (122 : Int)) → K (some (.inl v2)) M))))))) :
    X 2 [.inr 1, .inl v1, .inl v2] [] M := by
  refine jk_load (pc := 2) hX 2 rfl rfl ?_
  refine jk_aload (pc := 3) hX 0 rfl rfl ?_
  refine jk_getI (pc := 4) hX 7 4 rfl rfl rfl ?_
  refine jk_cge (pc := 5) hX 21 rfl (fun q15 => ?_) (fun q16 => ?_)
  · have h1 := h.1 q15
    refine jk_const (pc := 21) hX (-9) rfl (by decide) ?_
    exact jk_iret (pc := 22) hX rfl h1
  · have h2 := h.2 q16
    refine jk_load (pc := 6) hX 2 rfl rfl ?_
    refine jk_load (pc := 7) hX 1 rfl rfl ?_
    refine jk_ceq (pc := 8) hX 17 rfl (fun q13 => ?_) (fun q14 => ?_)
    · have h3 := h2.1 q13
      refine jk_load (pc := 17) hX 2 rfl rfl ?_
      exact jk_iret (pc := 18) hX rfl h3
    · have h4 := h2.2 q14
      obtain ⟨g5, h12⟩ := h4
      refine jk_aload (pc := 9) hX 0 rfl rfl ?_
      refine jk_getR (pc := 10) hX 7 3 rfl rfl (r := 3) rfl ?_
      refine jk_load (pc := 11) hX 2 rfl rfl ?_
      refine jk_iald (pc := 12) hX 20 rfl rfl g5 ?_
      refine jk_const (pc := 13) hX 97 rfl (by decide) ?_
      refine jk_const (pc := 14) hX 122 rfl (by decide) ?_
      refine jk_cs (pc := 15) hX 80 3 rfl [.inl (M 4 v2), .inl 97, .inl 122] [] rfl rfl (Nat.le_of_ble_eq_true rfl) (sp_F_in d (M 4 v2) (97 : Int) (122 : Int) M  ?_)
      show X 16 [.inr 1, .inl v1, .inl v2] [.inl (jx_b ((97 : Int) ≤ (M 4 v2) ∧ (M 4 v2) ≤ (122 : Int)))] M
      refine jk_zneB (pc := 16) hX 19 rfl (fun q10 => ?_) (fun q11 => ?_)
      · have h6 := h12.1 q10
        obtain ⟨g8, h9⟩ := h6
        refine jk_iinc (pc := 19) hX 2 1 rfl rfl g8 (ls' := [.inr 1, .inl v1, .inl (v2 + 1)]) rfl ?_
        refine jk_goto (pc := 20) hX 2 rfl ?_
        exact h9
      · have h7 := h12.2 q11
        refine jk_load (pc := 17) hX 2 rfl rfl ?_
        exact jk_iret (pc := 18) hX rfl h7
set_option maxHeartbeats 4000000 in
theorem bk_F_isEntry_0 {d : Nat} {K : jxK} {X : jxX} (hX : jx_clo jx_G2 (d + 1) (jx_call jx_G2 jx_T (d + 1)) kc_F_isEntry K X) (v1 : Int) (M : jxM)
    (h : (((-2147483648 : Int) ≤ (M 2 0) - 1 ∧ (M 2 0) - 1 ≤ 2147483647)) ∧ K (some (.inl (jx_b ((0 : Int) ≤ v1 ∧ v1 ≤ ((M 2 0) - 1))))) M) :
    X 0 [.inr 1, .inl v1] [] M := by
  obtain ⟨g1, h2⟩ := h
  refine jk_load (pc := 0) hX 1 rfl rfl ?_
  refine jk_const (pc := 1) hX 0 rfl (by decide) ?_
  refine jk_aload (pc := 2) hX 0 rfl rfl ?_
  refine jk_getR (pc := 3) hX 7 0 rfl rfl (r := 1) rfl ?_
  refine jk_const (pc := 4) hX 0 rfl (by decide) ?_
  refine jk_iald (pc := 5) hX 305 rfl rfl (by decide) ?_
  refine jk_const (pc := 6) hX 1 rfl (by decide) ?_
  refine jk_sub (pc := 7) hX rfl g1 ?_
  refine jk_cs (pc := 8) hX 80 3 rfl [.inl v1, .inl 0, .inl ((M 2 0) - 1)] [] rfl rfl (Nat.le_of_ble_eq_true rfl) (sp_F_in d v1 (0 : Int) ((M 2 0) - 1) M  ?_)
  show X 9 [.inr 1, .inl v1] [.inl (jx_b ((0 : Int) ≤ v1 ∧ v1 ≤ ((M 2 0) - 1)))] M
  exact jk_zret (pc := 9) hX rfl (jx_b01 _) h2
set_option maxHeartbeats 4000000 in
theorem bk_F_begins_0 {d : Nat} {K : jxK} {X : jxX} (hX : jx_clo jx_G2 (d + 1) (jx_call jx_G2 jx_T (d + 1)) kc_F_begins K X) (v1 : Int) (M : jxM)
    (h : (((0 : Int) ≤ v1 ∧ v1 ≤ 20) ∧ (0 ≤ (1 + 11 * v1) ∧ (1 + 11 * v1) < 305)) ∧ (((M 2 (1 + 11 * v1)) < (M 1 4) → X 14 [.inr 1, .inl v1, .inl 0, .inl 0] [] M) ∧ ((M 1 4) ≤ (M 2 (1 + 11 * v1)) → X 14 [.inr 1, .inl v1, .inl 1, .inl 0] [] M))) :
    X 0 [.inr 1, .inl v1, .inr 0, .inr 0] [] M := by
  obtain ⟨⟨g1, g2⟩, h7⟩ := h
  refine jk_aload (pc := 0) hX 0 rfl rfl ?_
  refine jk_getI (pc := 1) hX 7 4 rfl rfl rfl ?_
  refine jk_aload (pc := 2) hX 0 rfl rfl ?_
  refine jk_getR (pc := 3) hX 7 0 rfl rfl (r := 1) rfl ?_
  refine jk_load (pc := 4) hX 1 rfl rfl ?_
  refine jk_cs (pc := 5) hX 86 1 rfl [.inl v1] [.inr 2, .inl (M 1 4)] rfl rfl (Nat.le_of_ble_eq_true rfl) (sp_F_at d v1 M g1 ?_)
  show X 6 [.inr 1, .inl v1, .inr 0, .inr 0] [.inl (1 + 11 * v1), .inr 2, .inl (M 1 4)] M
  refine jk_iald (pc := 6) hX 305 rfl rfl g2 ?_
  refine jk_cgt (pc := 7) hX 10 rfl (fun q5 => ?_) (fun q6 => ?_)
  · have h3 := h7.1 q5
    refine jk_const (pc := 10) hX 0 rfl (by decide) ?_
    refine jk_store (pc := 11) hX 2 rfl (Nat.le_of_ble_eq_true rfl) (ls' := [.inr 1, .inl v1, .inl 0, .inr 0]) rfl ?_
    refine jk_const (pc := 12) hX 0 rfl (by decide) ?_
    refine jk_store (pc := 13) hX 3 rfl (Nat.le_of_ble_eq_true rfl) (ls' := [.inr 1, .inl v1, .inl 0, .inl 0]) rfl ?_
    exact h3
  · have h4 := h7.2 q6
    refine jk_const (pc := 8) hX 1 rfl (by decide) ?_
    refine jk_goto (pc := 9) hX 11 rfl ?_
    refine jk_store (pc := 11) hX 2 rfl (Nat.le_of_ble_eq_true rfl) (ls' := [.inr 1, .inl v1, .inl 1, .inr 0]) rfl ?_
    refine jk_const (pc := 12) hX 0 rfl (by decide) ?_
    refine jk_store (pc := 13) hX 3 rfl (Nat.le_of_ble_eq_true rfl) (ls' := [.inr 1, .inl v1, .inl 1, .inl 0]) rfl ?_
    exact h4
set_option maxHeartbeats 4000000 in
theorem bk_F_begins_14 {d : Nat} {K : jxK} {X : jxX} (hX : jx_clo jx_G2 (d + 1) (jx_call jx_G2 jx_T (d + 1)) kc_F_begins K X) (v1 : Int) (v2 : Int) (v3 : Int) (M : jxM)
    (h : (((M 1 4) ≤ v3 → ((v2 = 0 ∨ v2 = 1)) ∧ K (some (.inl v2)) M) ∧ (v3 < (M 1 4) → ((v2 = 0 → ((v2 = 0 ∨ v2 = 1)) ∧ K (some (.inl v2)) M) ∧ (v2 ≠ 0 → ((0 ≤ v3 ∧ v3 < 20) ∧ ((0 : Int) ≤ v1 ∧ v1 ≤ 20) ∧ ((-2147483648 : Int) ≤ (1 + 11 * v1) + 1 ∧ (1 + 11 * v1) + 1 ≤ 2147483647) ∧ ((-2147483648 : Int) ≤ ((1 + 11 * v1) + 1) + v3 ∧ ((1 + 11 * v1) + 1) + v3 ≤ 2147483647) ∧ (0 ≤ (((1 + 11 * v1) + 1) + v3) ∧ (((1 + 11 * v1) + 1) + v3) < 305)) ∧ (((M 4 v3) ≠ (M 2 (((1 + 11 * v1) + 1) + v3)) → (((-2147483648 : Int) ≤ v3 + 1 ∧ v3 + 1 ≤ 2147483647)) ∧ X 14 [.inr 1, .inl v1, .inl 0, .inl (v3 + 1)] [] M) ∧ ((M 4 v3) = (M 2 (((1 + 11 * v1) + 1) + v3)) → (((-2147483648 : Int) ≤ v3 + 1 ∧ v3 + 1 ≤ 2147483647)) ∧ X 14 [.inr 1, .inl v1, .inl 1, .inl (v3 + 1)] [] M))))))) :
    X 14 [.inr 1, .inl v1, .inl v2, .inl v3] [] M := by
  refine jk_load (pc := 14) hX 3 rfl rfl ?_
  refine jk_aload (pc := 15) hX 0 rfl rfl ?_
  refine jk_getI (pc := 16) hX 7 4 rfl rfl rfl ?_
  refine jk_cge (pc := 17) hX 40 rfl (fun q25 => ?_) (fun q26 => ?_)
  · have h1 := h.1 q25
    obtain ⟨g3, h4⟩ := h1
    refine jk_load (pc := 40) hX 2 rfl rfl ?_
    exact jk_zret (pc := 41) hX rfl g3 h4
  · have h2 := h.2 q26
    refine jk_load (pc := 18) hX 2 rfl rfl ?_
    refine jk_zeq (pc := 19) hX 40 rfl (fun q23 => ?_) (fun q24 => ?_)
    · have h5 := h2.1 q23
      obtain ⟨g7, h8⟩ := h5
      refine jk_load (pc := 40) hX 2 rfl rfl ?_
      exact jk_zret (pc := 41) hX rfl g7 h8
    · have h6 := h2.2 q24
      obtain ⟨⟨g9, g10, g11, g12, g13⟩, h22⟩ := h6
      refine jk_aload (pc := 20) hX 0 rfl rfl ?_
      refine jk_getR (pc := 21) hX 7 3 rfl rfl (r := 3) rfl ?_
      refine jk_load (pc := 22) hX 3 rfl rfl ?_
      refine jk_iald (pc := 23) hX 20 rfl rfl g9 ?_
      refine jk_aload (pc := 24) hX 0 rfl rfl ?_
      refine jk_getR (pc := 25) hX 7 0 rfl rfl (r := 1) rfl ?_
      refine jk_load (pc := 26) hX 1 rfl rfl ?_
      refine jk_cs (pc := 27) hX 86 1 rfl [.inl v1] [.inr 2, .inl (M 4 v3)] rfl rfl (Nat.le_of_ble_eq_true rfl) (sp_F_at d v1 M g10 ?_)
      show X 28 [.inr 1, .inl v1, .inl v2, .inl v3] [.inl (1 + 11 * v1), .inr 2, .inl (M 4 v3)] M
      refine jk_const (pc := 28) hX 1 rfl (by decide) ?_
      refine jk_add (pc := 29) hX rfl g11 ?_
      refine jk_load (pc := 30) hX 3 rfl rfl ?_
      refine jk_add (pc := 31) hX rfl g12 ?_
      refine jk_iald (pc := 32) hX 305 rfl rfl g13 ?_
      refine jk_cne (pc := 33) hX 36 rfl (fun q20 => ?_) (fun q21 => ?_)
      · have h14 := h22.1 q20
        obtain ⟨g16, h17⟩ := h14
        refine jk_const (pc := 36) hX 0 rfl (by decide) ?_
        refine jk_store (pc := 37) hX 2 rfl (Nat.le_of_ble_eq_true rfl) (ls' := [.inr 1, .inl v1, .inl 0, .inl v3]) rfl ?_
        refine jk_iinc (pc := 38) hX 3 1 rfl rfl g16 (ls' := [.inr 1, .inl v1, .inl 0, .inl (v3 + 1)]) rfl ?_
        refine jk_goto (pc := 39) hX 14 rfl ?_
        exact h17
      · have h15 := h22.2 q21
        obtain ⟨g18, h19⟩ := h15
        refine jk_const (pc := 34) hX 1 rfl (by decide) ?_
        refine jk_goto (pc := 35) hX 37 rfl ?_
        refine jk_store (pc := 37) hX 2 rfl (Nat.le_of_ble_eq_true rfl) (ls' := [.inr 1, .inl v1, .inl 1, .inl v3]) rfl ?_
        refine jk_iinc (pc := 38) hX 3 1 rfl rfl g18 (ls' := [.inr 1, .inl v1, .inl 1, .inl (v3 + 1)]) rfl ?_
        refine jk_goto (pc := 39) hX 14 rfl ?_
        exact h19
set_option maxHeartbeats 4000000 in
theorem bk_F_price_0 {d : Nat} {K : jxK} {X : jxX} (hX : jx_clo jx_G2 (d + 1) (jx_call jx_G2 jx_T (d + 1)) kc_F_price K X) (v1 : Int) (M : jxM)
    (h : (((0 : Int) ≤ v1 ∧ v1 ≤ 20) ∧ ((-2147483648 : Int) ≤ (1 + 11 * v1) + 9 ∧ (1 + 11 * v1) + 9 ≤ 2147483647) ∧ (0 ≤ ((1 + 11 * v1) + 9) ∧ ((1 + 11 * v1) + 9) < 305) ∧ ((0 : Int) ≤ v1 ∧ v1 ≤ 20) ∧ ((-2147483648 : Int) ≤ (1 + 11 * v1) + 10 ∧ (1 + 11 * v1) + 10 ≤ 2147483647) ∧ (0 ≤ ((1 + 11 * v1) + 10) ∧ ((1 + 11 * v1) + 10) < 305) ∧ ((-2147483648 : Int) ≤ 3 * (M 2 ((1 + 11 * v1) + 10)) ∧ 3 * (M 2 ((1 + 11 * v1) + 10)) ≤ 2147483647) ∧ ((-2147483648 : Int) ≤ (M 2 ((1 + 11 * v1) + 9)) - (3 * (M 2 ((1 + 11 * v1) + 10))) ∧ (M 2 ((1 + 11 * v1) + 9)) - (3 * (M 2 ((1 + 11 * v1) + 10))) ≤ 2147483647)) ∧ ((0 ≤ ((M 2 ((1 + 11 * v1) + 9)) - (3 * (M 2 ((1 + 11 * v1) + 10)))) → K (some (.inl ((M 2 ((1 + 11 * v1) + 9)) - (3 * (M 2 ((1 + 11 * v1) + 10)))))) M) ∧ (((M 2 ((1 + 11 * v1) + 9)) - (3 * (M 2 ((1 + 11 * v1) + 10)))) < 0 → K (some (.inl 0)) M))) :
    X 0 [.inr 1, .inl v1, .inr 0] [] M := by
  obtain ⟨⟨g1, g2, g3, g4, g5, g6, g7, g8⟩, h13⟩ := h
  refine jk_aload (pc := 0) hX 0 rfl rfl ?_
  refine jk_getR (pc := 1) hX 7 0 rfl rfl (r := 1) rfl ?_
  refine jk_load (pc := 2) hX 1 rfl rfl ?_
  refine jk_cs (pc := 3) hX 86 1 rfl [.inl v1] [.inr 2] rfl rfl (Nat.le_of_ble_eq_true rfl) (sp_F_at d v1 M g1 ?_)
  show X 4 [.inr 1, .inl v1, .inr 0] [.inl (1 + 11 * v1), .inr 2] M
  refine jk_const (pc := 4) hX 9 rfl (by decide) ?_
  refine jk_add (pc := 5) hX rfl g2 ?_
  refine jk_iald (pc := 6) hX 305 rfl rfl g3 ?_
  refine jk_const (pc := 7) hX 3 rfl (by decide) ?_
  refine jk_aload (pc := 8) hX 0 rfl rfl ?_
  refine jk_getR (pc := 9) hX 7 0 rfl rfl (r := 1) rfl ?_
  refine jk_load (pc := 10) hX 1 rfl rfl ?_
  refine jk_cs (pc := 11) hX 86 1 rfl [.inl v1] [.inr 2, .inl 3, .inl (M 2 ((1 + 11 * v1) + 9))] rfl rfl (Nat.le_of_ble_eq_true rfl) (sp_F_at d v1 M g4 ?_)
  show X 12 [.inr 1, .inl v1, .inr 0] [.inl (1 + 11 * v1), .inr 2, .inl 3, .inl (M 2 ((1 + 11 * v1) + 9))] M
  refine jk_const (pc := 12) hX 10 rfl (by decide) ?_
  refine jk_add (pc := 13) hX rfl g5 ?_
  refine jk_iald (pc := 14) hX 305 rfl rfl g6 ?_
  refine jk_mul (pc := 15) hX rfl g7 ?_
  refine jk_sub (pc := 16) hX rfl g8 ?_
  refine jk_store (pc := 17) hX 2 rfl (Nat.le_of_ble_eq_true rfl) (ls' := [.inr 1, .inl v1, .inl ((M 2 ((1 + 11 * v1) + 9)) - (3 * (M 2 ((1 + 11 * v1) + 10))))]) rfl ?_
  refine jk_load (pc := 18) hX 2 rfl rfl ?_
  refine jk_zge (pc := 19) hX 22 rfl (fun q11 => ?_) (fun q12 => ?_)
  · have h9 := h13.1 q11
    refine jk_load (pc := 22) hX 2 rfl rfl ?_
    exact jk_iret (pc := 23) hX rfl h9
  · have h10 := h13.2 q12
    refine jk_const (pc := 20) hX 0 rfl (by decide) ?_
    refine jk_goto (pc := 21) hX 23 rfl ?_
    exact jk_iret (pc := 23) hX rfl h10
set_option maxHeartbeats 4000000 in
theorem bk_F_stands_0 {d : Nat} {K : jxK} {X : jxX} (hX : jx_clo jx_G2 (d + 1) (jx_call jx_G2 jx_T (d + 1)) kc_F_stands K X) (v1 : Int) (v2 : Int) (M : jxM)
    (h : (((0 : Int) ≤ v1 ∧ v1 ≤ 20) ∧ (0 ≤ (1 + 11 * v1) ∧ (1 + 11 * v1) < 305) ∧ ((-2147483648 : Int) ≤ v2 + (M 2 (1 + 11 * v1)) ∧ v2 + (M 2 (1 + 11 * v1)) ≤ 2147483647)) ∧ (((M 2 271) < (v2 + (M 2 (1 + 11 * v1))) → X 20 [.inr 1, .inl v1, .inl v2, .inl (M 2 (1 + 11 * v1)), .inl 0, .inl 0] [] M) ∧ ((v2 + (M 2 (1 + 11 * v1))) ≤ (M 2 271) → X 20 [.inr 1, .inl v1, .inl v2, .inl (M 2 (1 + 11 * v1)), .inl 1, .inl 0] [] M))) :
    X 0 [.inr 1, .inl v1, .inl v2, .inr 0, .inr 0, .inr 0] [] M := by
  obtain ⟨⟨g1, g2, g3⟩, h8⟩ := h
  refine jk_aload (pc := 0) hX 0 rfl rfl ?_
  refine jk_getR (pc := 1) hX 7 0 rfl rfl (r := 1) rfl ?_
  refine jk_load (pc := 2) hX 1 rfl rfl ?_
  refine jk_cs (pc := 3) hX 86 1 rfl [.inl v1] [.inr 2] rfl rfl (Nat.le_of_ble_eq_true rfl) (sp_F_at d v1 M g1 ?_)
  show X 4 [.inr 1, .inl v1, .inl v2, .inr 0, .inr 0, .inr 0] [.inl (1 + 11 * v1), .inr 2] M
  refine jk_iald (pc := 4) hX 305 rfl rfl g2 ?_
  refine jk_store (pc := 5) hX 3 rfl (Nat.le_of_ble_eq_true rfl) (ls' := [.inr 1, .inl v1, .inl v2, .inl (M 2 (1 + 11 * v1)), .inr 0, .inr 0]) rfl ?_
  refine jk_load (pc := 6) hX 2 rfl rfl ?_
  refine jk_load (pc := 7) hX 3 rfl rfl ?_
  refine jk_add (pc := 8) hX rfl g3 ?_
  refine jk_aload (pc := 9) hX 0 rfl rfl ?_
  refine jk_getR (pc := 10) hX 7 0 rfl rfl (r := 1) rfl ?_
  refine jk_const (pc := 11) hX 271 rfl (by decide) ?_
  refine jk_iald (pc := 12) hX 305 rfl rfl (by decide) ?_
  refine jk_cgt (pc := 13) hX 16 rfl (fun q6 => ?_) (fun q7 => ?_)
  · have h4 := h8.1 q6
    refine jk_const (pc := 16) hX 0 rfl (by decide) ?_
    refine jk_store (pc := 17) hX 4 rfl (Nat.le_of_ble_eq_true rfl) (ls' := [.inr 1, .inl v1, .inl v2, .inl (M 2 (1 + 11 * v1)), .inl 0, .inr 0]) rfl ?_
    refine jk_const (pc := 18) hX 0 rfl (by decide) ?_
    refine jk_store (pc := 19) hX 5 rfl (Nat.le_of_ble_eq_true rfl) (ls' := [.inr 1, .inl v1, .inl v2, .inl (M 2 (1 + 11 * v1)), .inl 0, .inl 0]) rfl ?_
    exact h4
  · have h5 := h8.2 q7
    refine jk_const (pc := 14) hX 1 rfl (by decide) ?_
    refine jk_goto (pc := 15) hX 17 rfl ?_
    refine jk_store (pc := 17) hX 4 rfl (Nat.le_of_ble_eq_true rfl) (ls' := [.inr 1, .inl v1, .inl v2, .inl (M 2 (1 + 11 * v1)), .inl 1, .inr 0]) rfl ?_
    refine jk_const (pc := 18) hX 0 rfl (by decide) ?_
    refine jk_store (pc := 19) hX 5 rfl (Nat.le_of_ble_eq_true rfl) (ls' := [.inr 1, .inl v1, .inl v2, .inl (M 2 (1 + 11 * v1)), .inl 1, .inl 0]) rfl ?_
    exact h5
set_option maxHeartbeats 4000000 in
theorem bk_F_stands_20 {d : Nat} {K : jxK} {X : jxX} (hX : jx_clo jx_G2 (d + 1) (jx_call jx_G2 jx_T (d + 1)) kc_F_stands K X) (v1 : Int) (v2 : Int) (v3 : Int) (v4 : Int) (v5 : Int) (M : jxM)
    (h : ((v3 ≤ v5 → ((v4 = 0 ∨ v4 = 1)) ∧ K (some (.inl v4)) M) ∧ (v5 < v3 → ((v4 = 0 → ((v4 = 0 ∨ v4 = 1)) ∧ K (some (.inl v4)) M) ∧ (v4 ≠ 0 → (((0 : Int) ≤ v1 ∧ v1 ≤ 20) ∧ ((-2147483648 : Int) ≤ (1 + 11 * v1) + 1 ∧ (1 + 11 * v1) + 1 ≤ 2147483647) ∧ ((-2147483648 : Int) ≤ ((1 + 11 * v1) + 1) + v5 ∧ ((1 + 11 * v1) + 1) + v5 ≤ 2147483647) ∧ (0 ≤ (((1 + 11 * v1) + 1) + v5) ∧ (((1 + 11 * v1) + 1) + v5) < 305) ∧ ((-2147483648 : Int) ≤ 272 + v2 ∧ 272 + v2 ≤ 2147483647) ∧ ((-2147483648 : Int) ≤ (272 + v2) + v5 ∧ (272 + v2) + v5 ≤ 2147483647) ∧ (0 ≤ ((272 + v2) + v5) ∧ ((272 + v2) + v5) < 305)) ∧ (((M 2 (((1 + 11 * v1) + 1) + v5)) ≠ (M 2 ((272 + v2) + v5)) → (((-2147483648 : Int) ≤ v5 + 1 ∧ v5 + 1 ≤ 2147483647)) ∧ X 20 [.inr 1, .inl v1, .inl v2, .inl v3, .inl 0, .inl (v5 + 1)] [] M) ∧ ((M 2 (((1 + 11 * v1) + 1) + v5)) = (M 2 ((272 + v2) + v5)) → (((-2147483648 : Int) ≤ v5 + 1 ∧ v5 + 1 ≤ 2147483647)) ∧ X 20 [.inr 1, .inl v1, .inl v2, .inl v3, .inl 1, .inl (v5 + 1)] [] M))))))) :
    X 20 [.inr 1, .inl v1, .inl v2, .inl v3, .inl v4, .inl v5] [] M := by
  refine jk_load (pc := 20) hX 5 rfl rfl ?_
  refine jk_load (pc := 21) hX 3 rfl rfl ?_
  refine jk_cge (pc := 22) hX 49 rfl (fun q27 => ?_) (fun q28 => ?_)
  · have h1 := h.1 q27
    obtain ⟨g3, h4⟩ := h1
    refine jk_load (pc := 49) hX 4 rfl rfl ?_
    exact jk_zret (pc := 50) hX rfl g3 h4
  · have h2 := h.2 q28
    refine jk_load (pc := 23) hX 4 rfl rfl ?_
    refine jk_zeq (pc := 24) hX 49 rfl (fun q25 => ?_) (fun q26 => ?_)
    · have h5 := h2.1 q25
      obtain ⟨g7, h8⟩ := h5
      refine jk_load (pc := 49) hX 4 rfl rfl ?_
      exact jk_zret (pc := 50) hX rfl g7 h8
    · have h6 := h2.2 q26
      obtain ⟨⟨g9, g10, g11, g12, g13, g14, g15⟩, h24⟩ := h6
      refine jk_aload (pc := 25) hX 0 rfl rfl ?_
      refine jk_getR (pc := 26) hX 7 0 rfl rfl (r := 1) rfl ?_
      refine jk_load (pc := 27) hX 1 rfl rfl ?_
      refine jk_cs (pc := 28) hX 86 1 rfl [.inl v1] [.inr 2] rfl rfl (Nat.le_of_ble_eq_true rfl) (sp_F_at d v1 M g9 ?_)
      show X 29 [.inr 1, .inl v1, .inl v2, .inl v3, .inl v4, .inl v5] [.inl (1 + 11 * v1), .inr 2] M
      refine jk_const (pc := 29) hX 1 rfl (by decide) ?_
      refine jk_add (pc := 30) hX rfl g10 ?_
      refine jk_load (pc := 31) hX 5 rfl rfl ?_
      refine jk_add (pc := 32) hX rfl g11 ?_
      refine jk_iald (pc := 33) hX 305 rfl rfl g12 ?_
      refine jk_aload (pc := 34) hX 0 rfl rfl ?_
      refine jk_getR (pc := 35) hX 7 0 rfl rfl (r := 1) rfl ?_
      refine jk_const (pc := 36) hX 272 rfl (by decide) ?_
      refine jk_load (pc := 37) hX 2 rfl rfl ?_
      refine jk_add (pc := 38) hX rfl g13 ?_
      refine jk_load (pc := 39) hX 5 rfl rfl ?_
      refine jk_add (pc := 40) hX rfl g14 ?_
      refine jk_iald (pc := 41) hX 305 rfl rfl g15 ?_
      refine jk_cne (pc := 42) hX 45 rfl (fun q22 => ?_) (fun q23 => ?_)
      · have h16 := h24.1 q22
        obtain ⟨g18, h19⟩ := h16
        refine jk_const (pc := 45) hX 0 rfl (by decide) ?_
        refine jk_store (pc := 46) hX 4 rfl (Nat.le_of_ble_eq_true rfl) (ls' := [.inr 1, .inl v1, .inl v2, .inl v3, .inl 0, .inl v5]) rfl ?_
        refine jk_iinc (pc := 47) hX 5 1 rfl rfl g18 (ls' := [.inr 1, .inl v1, .inl v2, .inl v3, .inl 0, .inl (v5 + 1)]) rfl ?_
        refine jk_goto (pc := 48) hX 20 rfl ?_
        exact h19
      · have h17 := h24.2 q23
        obtain ⟨g20, h21⟩ := h17
        refine jk_const (pc := 43) hX 1 rfl (by decide) ?_
        refine jk_goto (pc := 44) hX 46 rfl ?_
        refine jk_store (pc := 46) hX 4 rfl (Nat.le_of_ble_eq_true rfl) (ls' := [.inr 1, .inl v1, .inl v2, .inl v3, .inl 1, .inl v5]) rfl ?_
        refine jk_iinc (pc := 47) hX 5 1 rfl rfl g20 (ls' := [.inr 1, .inl v1, .inl v2, .inl v3, .inl 1, .inl (v5 + 1)]) rfl ?_
        refine jk_goto (pc := 48) hX 20 rfl ?_
        exact h21
set_option maxHeartbeats 4000000 in
theorem bk_F_mayCover_0 {d : Nat} {K : jxK} {X : jxX} (hX : jx_clo jx_G2 (d + 0) (jx_call jx_G2 jx_T (d + 0)) kc_F_mayCover K X) (v1 : Int) (v2 : Int) (M : jxM)
    (h : ((v2 = (M 2 271) → (((-2147483648 : Int) ≤ v1 + 1 ∧ v1 + 1 ≤ 2147483647)) ∧ X 22 [.inr 1, .inl v1, .inl v2, .inl 1, .inl (v1 + 1)] [] M) ∧ (v2 ≠ (M 2 271) → (((-2147483648 : Int) ≤ 288 + v2 ∧ 288 + v2 ≤ 2147483647) ∧ (0 ≤ (288 + v2) ∧ (288 + v2) < 305)) ∧ (((M 2 (288 + v2)) = 2 → (((-2147483648 : Int) ≤ v1 + 1 ∧ v1 + 1 ≤ 2147483647)) ∧ X 22 [.inr 1, .inl v1, .inl v2, .inl 0, .inl (v1 + 1)] [] M) ∧ ((M 2 (288 + v2)) ≠ 2 → (((-2147483648 : Int) ≤ v1 + 1 ∧ v1 + 1 ≤ 2147483647)) ∧ X 22 [.inr 1, .inl v1, .inl v2, .inl 1, .inl (v1 + 1)] [] M))))) :
    X 0 [.inr 1, .inl v1, .inl v2, .inr 0, .inr 0] [] M := by
  refine jk_load (pc := 0) hX 2 rfl rfl ?_
  refine jk_aload (pc := 1) hX 0 rfl rfl ?_
  refine jk_getR (pc := 2) hX 7 0 rfl rfl (r := 1) rfl ?_
  refine jk_const (pc := 3) hX 271 rfl (by decide) ?_
  refine jk_iald (pc := 4) hX 305 rfl rfl (by decide) ?_
  refine jk_ceq (pc := 5) hX 14 rfl (fun q16 => ?_) (fun q17 => ?_)
  · have h1 := h.1 q16
    obtain ⟨g3, h4⟩ := h1
    refine jk_const (pc := 14) hX 1 rfl (by decide) ?_
    refine jk_goto (pc := 15) hX 17 rfl ?_
    refine jk_store (pc := 17) hX 3 rfl (Nat.le_of_ble_eq_true rfl) (ls' := [.inr 1, .inl v1, .inl v2, .inl 1, .inr 0]) rfl ?_
    refine jk_load (pc := 18) hX 1 rfl rfl ?_
    refine jk_const (pc := 19) hX 1 rfl (by decide) ?_
    refine jk_add (pc := 20) hX rfl g3 ?_
    refine jk_store (pc := 21) hX 4 rfl (Nat.le_of_ble_eq_true rfl) (ls' := [.inr 1, .inl v1, .inl v2, .inl 1, .inl (v1 + 1)]) rfl ?_
    exact h4
  · have h2 := h.2 q17
    obtain ⟨⟨g5, g6⟩, h15⟩ := h2
    refine jk_aload (pc := 6) hX 0 rfl rfl ?_
    refine jk_getR (pc := 7) hX 7 0 rfl rfl (r := 1) rfl ?_
    refine jk_const (pc := 8) hX 288 rfl (by decide) ?_
    refine jk_load (pc := 9) hX 2 rfl rfl ?_
    refine jk_add (pc := 10) hX rfl g5 ?_
    refine jk_iald (pc := 11) hX 305 rfl rfl g6 ?_
    refine jk_const (pc := 12) hX 2 rfl (by decide) ?_
    refine jk_ceq (pc := 13) hX 16 rfl (fun q13 => ?_) (fun q14 => ?_)
    · have h7 := h15.1 q13
      obtain ⟨g9, h10⟩ := h7
      refine jk_const (pc := 16) hX 0 rfl (by decide) ?_
      refine jk_store (pc := 17) hX 3 rfl (Nat.le_of_ble_eq_true rfl) (ls' := [.inr 1, .inl v1, .inl v2, .inl 0, .inr 0]) rfl ?_
      refine jk_load (pc := 18) hX 1 rfl rfl ?_
      refine jk_const (pc := 19) hX 1 rfl (by decide) ?_
      refine jk_add (pc := 20) hX rfl g9 ?_
      refine jk_store (pc := 21) hX 4 rfl (Nat.le_of_ble_eq_true rfl) (ls' := [.inr 1, .inl v1, .inl v2, .inl 0, .inl (v1 + 1)]) rfl ?_
      exact h10
    · have h8 := h15.2 q14
      obtain ⟨g11, h12⟩ := h8
      refine jk_const (pc := 14) hX 1 rfl (by decide) ?_
      refine jk_goto (pc := 15) hX 17 rfl ?_
      refine jk_store (pc := 17) hX 3 rfl (Nat.le_of_ble_eq_true rfl) (ls' := [.inr 1, .inl v1, .inl v2, .inl 1, .inr 0]) rfl ?_
      refine jk_load (pc := 18) hX 1 rfl rfl ?_
      refine jk_const (pc := 19) hX 1 rfl (by decide) ?_
      refine jk_add (pc := 20) hX rfl g11 ?_
      refine jk_store (pc := 21) hX 4 rfl (Nat.le_of_ble_eq_true rfl) (ls' := [.inr 1, .inl v1, .inl v2, .inl 1, .inl (v1 + 1)]) rfl ?_
      exact h12
set_option maxHeartbeats 4000000 in
theorem bk_F_mayCover_22 {d : Nat} {K : jxK} {X : jxX} (hX : jx_clo jx_G2 (d + 0) (jx_call jx_G2 jx_T (d + 0)) kc_F_mayCover K X) (v1 : Int) (v2 : Int) (v3 : Int) (v4 : Int) (M : jxM)
    (h : ((v2 ≤ v4 → ((v3 = 0 ∨ v3 = 1)) ∧ K (some (.inl v3)) M) ∧ (v4 < v2 → ((v3 = 0 → (((-2147483648 : Int) ≤ v4 + 1 ∧ v4 + 1 ≤ 2147483647)) ∧ X 22 [.inr 1, .inl v1, .inl v2, .inl 0, .inl (v4 + 1)] [] M) ∧ (v3 ≠ 0 → (((-2147483648 : Int) ≤ 288 + v4 ∧ 288 + v4 ≤ 2147483647) ∧ (0 ≤ (288 + v4) ∧ (288 + v4) < 305)) ∧ (((M 2 (288 + v4)) = 1 → (((-2147483648 : Int) ≤ v4 + 1 ∧ v4 + 1 ≤ 2147483647)) ∧ X 22 [.inr 1, .inl v1, .inl v2, .inl 0, .inl (v4 + 1)] [] M) ∧ ((M 2 (288 + v4)) ≠ 1 → (((-2147483648 : Int) ≤ v4 + 1 ∧ v4 + 1 ≤ 2147483647)) ∧ X 22 [.inr 1, .inl v1, .inl v2, .inl 1, .inl (v4 + 1)] [] M))))))) :
    X 22 [.inr 1, .inl v1, .inl v2, .inl v3, .inl v4] [] M := by
  refine jk_load (pc := 22) hX 4 rfl rfl ?_
  refine jk_load (pc := 23) hX 2 rfl rfl ?_
  refine jk_cge (pc := 24) hX 41 rfl (fun q22 => ?_) (fun q23 => ?_)
  · have h1 := h.1 q22
    obtain ⟨g3, h4⟩ := h1
    refine jk_load (pc := 41) hX 3 rfl rfl ?_
    exact jk_zret (pc := 42) hX rfl g3 h4
  · have h2 := h.2 q23
    refine jk_load (pc := 25) hX 3 rfl rfl ?_
    refine jk_zeq (pc := 26) hX 37 rfl (fun q20 => ?_) (fun q21 => ?_)
    · have h5 := h2.1 q20
      obtain ⟨g7, h8⟩ := h5
      refine jk_const (pc := 37) hX 0 rfl (by decide) ?_
      refine jk_store (pc := 38) hX 3 rfl (Nat.le_of_ble_eq_true rfl) (ls' := [.inr 1, .inl v1, .inl v2, .inl 0, .inl v4]) rfl ?_
      refine jk_iinc (pc := 39) hX 4 1 rfl rfl g7 (ls' := [.inr 1, .inl v1, .inl v2, .inl 0, .inl (v4 + 1)]) rfl ?_
      refine jk_goto (pc := 40) hX 22 rfl ?_
      exact h8
    · have h6 := h2.2 q21
      obtain ⟨⟨g9, g10⟩, h19⟩ := h6
      refine jk_aload (pc := 27) hX 0 rfl rfl ?_
      refine jk_getR (pc := 28) hX 7 0 rfl rfl (r := 1) rfl ?_
      refine jk_const (pc := 29) hX 288 rfl (by decide) ?_
      refine jk_load (pc := 30) hX 4 rfl rfl ?_
      refine jk_add (pc := 31) hX rfl g9 ?_
      refine jk_iald (pc := 32) hX 305 rfl rfl g10 ?_
      refine jk_const (pc := 33) hX 1 rfl (by decide) ?_
      refine jk_ceq (pc := 34) hX 37 rfl (fun q17 => ?_) (fun q18 => ?_)
      · have h11 := h19.1 q17
        obtain ⟨g13, h14⟩ := h11
        refine jk_const (pc := 37) hX 0 rfl (by decide) ?_
        refine jk_store (pc := 38) hX 3 rfl (Nat.le_of_ble_eq_true rfl) (ls' := [.inr 1, .inl v1, .inl v2, .inl 0, .inl v4]) rfl ?_
        refine jk_iinc (pc := 39) hX 4 1 rfl rfl g13 (ls' := [.inr 1, .inl v1, .inl v2, .inl 0, .inl (v4 + 1)]) rfl ?_
        refine jk_goto (pc := 40) hX 22 rfl ?_
        exact h14
      · have h12 := h19.2 q18
        obtain ⟨g15, h16⟩ := h12
        refine jk_const (pc := 35) hX 1 rfl (by decide) ?_
        refine jk_goto (pc := 36) hX 38 rfl ?_
        refine jk_store (pc := 38) hX 3 rfl (Nat.le_of_ble_eq_true rfl) (ls' := [.inr 1, .inl v1, .inl v2, .inl 1, .inl v4]) rfl ?_
        refine jk_iinc (pc := 39) hX 4 1 rfl rfl g15 (ls' := [.inr 1, .inl v1, .inl v2, .inl 1, .inl (v4 + 1)]) rfl ?_
        refine jk_goto (pc := 40) hX 22 rfl ?_
        exact h16
set_option maxHeartbeats 4000000 in
theorem bk_F_endOf_0 {d : Nat} {K : jxK} {X : jxX} (hX : jx_clo jx_G2 (d + 1) (jx_call jx_G2 jx_T (d + 1)) kc_F_endOf K X) (v1 : Int) (v2 : Int) (M : jxM)
    (h : ((v1 ≠ (-5) → (((0 : Int) ≤ v1 ∧ v1 ≤ 20) ∧ (0 ≤ (1 + 11 * v1) ∧ (1 + 11 * v1) < 305) ∧ ((-2147483648 : Int) ≤ v2 + (M 2 (1 + 11 * v1)) ∧ v2 + (M 2 (1 + 11 * v1)) ≤ 2147483647)) ∧ K (some (.inl (v2 + (M 2 (1 + 11 * v1))))) M) ∧ (v1 = (-5) → (((-2147483648 : Int) ≤ v2 + 1 ∧ v2 + 1 ≤ 2147483647)) ∧ K (some (.inl (v2 + 1))) M))) :
    X 0 [.inr 1, .inl v1, .inl v2] [] M := by
  refine jk_load (pc := 0) hX 1 rfl rfl ?_
  refine jk_const (pc := 1) hX (-5) rfl (by decide) ?_
  refine jk_cne (pc := 2) hX 7 rfl (fun q9 => ?_) (fun q10 => ?_)
  · have h1 := h.1 q9
    obtain ⟨⟨g3, g4, g5⟩, h6⟩ := h1
    refine jk_load (pc := 7) hX 2 rfl rfl ?_
    refine jk_aload (pc := 8) hX 0 rfl rfl ?_
    refine jk_getR (pc := 9) hX 7 0 rfl rfl (r := 1) rfl ?_
    refine jk_load (pc := 10) hX 1 rfl rfl ?_
    refine jk_cs (pc := 11) hX 86 1 rfl [.inl v1] [.inr 2, .inl v2] rfl rfl (Nat.le_of_ble_eq_true rfl) (sp_F_at d v1 M g3 ?_)
    show X 12 [.inr 1, .inl v1, .inl v2] [.inl (1 + 11 * v1), .inr 2, .inl v2] M
    refine jk_iald (pc := 12) hX 305 rfl rfl g4 ?_
    refine jk_add (pc := 13) hX rfl g5 ?_
    exact jk_iret (pc := 14) hX rfl h6
  · have h2 := h.2 q10
    obtain ⟨g7, h8⟩ := h2
    refine jk_load (pc := 3) hX 2 rfl rfl ?_
    refine jk_const (pc := 4) hX 1 rfl (by decide) ?_
    refine jk_add (pc := 5) hX rfl g7 ?_
    refine jk_goto (pc := 6) hX 14 rfl ?_
    exact jk_iret (pc := 14) hX rfl h8
set_option maxHeartbeats 4000000 in
theorem bk_F_classOf_0 {d : Nat} {K : jxK} {X : jxX} (hX : jx_clo jx_G2 (d + 1) (jx_call jx_G2 jx_T (d + 1)) kc_F_classOf K X) (v1 : Int) (M : jxM)
    (h : ((v1 ≠ (-5) → (((0 : Int) ≤ v1 ∧ v1 ≤ 20) ∧ ((-2147483648 : Int) ≤ (1 + 11 * v1) + 8 ∧ (1 + 11 * v1) + 8 ≤ 2147483647) ∧ (0 ≤ ((1 + 11 * v1) + 8) ∧ ((1 + 11 * v1) + 8) < 305)) ∧ K (some (.inl (M 2 ((1 + 11 * v1) + 8)))) M) ∧ (v1 = (-5) → K (some (.inl 5)) M))) :
    X 0 [.inr 1, .inl v1] [] M := by
  refine jk_load (pc := 0) hX 1 rfl rfl ?_
  refine jk_const (pc := 1) hX (-5) rfl (by decide) ?_
  refine jk_cne (pc := 2) hX 5 rfl (fun q7 => ?_) (fun q8 => ?_)
  · have h1 := h.1 q7
    obtain ⟨⟨g3, g4, g5⟩, h6⟩ := h1
    refine jk_aload (pc := 5) hX 0 rfl rfl ?_
    refine jk_getR (pc := 6) hX 7 0 rfl rfl (r := 1) rfl ?_
    refine jk_load (pc := 7) hX 1 rfl rfl ?_
    refine jk_cs (pc := 8) hX 86 1 rfl [.inl v1] [.inr 2] rfl rfl (Nat.le_of_ble_eq_true rfl) (sp_F_at d v1 M g3 ?_)
    show X 9 [.inr 1, .inl v1] [.inl (1 + 11 * v1), .inr 2] M
    refine jk_const (pc := 9) hX 8 rfl (by decide) ?_
    refine jk_add (pc := 10) hX rfl g4 ?_
    refine jk_iald (pc := 11) hX 305 rfl rfl g5 ?_
    exact jk_iret (pc := 12) hX rfl h6
  · have h2 := h.2 q8
    refine jk_const (pc := 3) hX 5 rfl (by decide) ?_
    refine jk_goto (pc := 4) hX 12 rfl ?_
    exact jk_iret (pc := 12) hX rfl h2
set_option maxHeartbeats 4000000 in
theorem bk_F_changed_0 {d : Nat} {K : jxK} {X : jxX} (hX : jx_clo jx_G2 (d + 1) (jx_call jx_G2 jx_T (d + 1)) kc_F_changed K X) (v1 : Int) (v2 : Int) (M : jxM)
    (h : jx_call jx_G2 jx_T (d + 1) 81 [.inr 1] M (fun r M2 => r = none ∧ ((0 ≤ v1 ∧ v1 < 305) ∧ (0 ≤ v1 ∧ v1 < 305)) ∧ K (some (.inl (M2 2 v1))) (jx_up M2 2 v1 v2))) :
    X 0 [.inr 1, .inl v1, .inl v2, .inr 0] [] M := by
  refine jk_aload (pc := 0) hX 0 rfl rfl ?_
  refine jk_cv (pc := 1) hX 81 0 7 rfl 1 [] [] rfl rfl rfl (Nat.le_of_ble_eq_true rfl) (jx_mono (fun r M2 hr => ?_) h)
  obtain ⟨rfl, h3⟩ := hr
  show X 2 [.inr 1, .inl v1, .inl v2, .inr 0] [] M2
  obtain ⟨⟨g4, g5⟩, h6⟩ := h3
  refine jk_aload (pc := 2) hX 0 rfl rfl ?_
  refine jk_getR (pc := 3) hX 7 0 rfl rfl (r := 1) rfl ?_
  refine jk_load (pc := 4) hX 1 rfl rfl ?_
  refine jk_iald (pc := 5) hX 305 rfl rfl g4 ?_
  refine jk_store (pc := 6) hX 3 rfl (Nat.le_of_ble_eq_true rfl) (ls' := [.inr 1, .inl v1, .inl v2, .inl (M2 2 v1)]) rfl ?_
  refine jk_aload (pc := 7) hX 0 rfl rfl ?_
  refine jk_getR (pc := 8) hX 7 0 rfl rfl (r := 1) rfl ?_
  refine jk_load (pc := 9) hX 1 rfl rfl ?_
  refine jk_load (pc := 10) hX 2 rfl rfl ?_
  refine jk_iast (pc := 11) hX 305 rfl rfl g5 ?_
  refine jk_load (pc := 12) hX 3 rfl rfl ?_
  exact jk_iret (pc := 13) hX rfl h6
end
section
theorem sp_C_isNoEntry (d : Nat) (a : Int) (M : jxM) (h1 : 0 ≤ M 5 6 ∧ M 5 6 ≤ 20) {K : jxK} (h : K (some (.inl (jx_b (a < 0 ∨ M 5 6 ≤ a)))) M) : jx_call jx_G1 jx_T (d + 2) 75 [.inr 1, .inl a] M K := by
  intro X hX
  refine bk_C_isNoEntry_0 (d := d) hX a M ⟨by omega, ?_⟩
  rw [jx_bc (show (a < 0 ∨ M 5 6 - 1 < a) ↔ (a < 0 ∨ M 5 6 ≤ a) by omega)]
  exact h
theorem sp_C_isNoGap (d : Nat) (a : Int) (M : jxM) {K : jxK} (h : K (some (.inl (jx_b (a < 0 ∨ M 4 5 < a)))) M) : jx_call jx_G1 jx_T (d + 2) 76 [.inr 1, .inl a] M K := by
  intro X hX
  exact bk_C_isNoGap_0 (d := d) hX a M h
theorem sp_C_isNoInnerGap (d : Nat) (a : Int) (M : jxM) (h1 : 0 ≤ M 4 5 ∧ M 4 5 ≤ 16) {K : jxK} (h : K (some (.inl (jx_b (a < 1 ∨ M 4 5 - 1 < a)))) M) : jx_call jx_G1 jx_T (d + 2) 77 [.inr 1, .inl a] M K := by
  intro X hX
  exact bk_C_isNoInnerGap_0 (d := d) hX a M ⟨by omega, h⟩
theorem sp_C_isNoRank (d : Nat) (a : Int) (M : jxM) {K : jxK} (h : K (some (.inl (jx_b (a < 0 ∨ 19 < a)))) M) : jx_call jx_G1 jx_T (d + 2) 78 [.inl a] M K := by
  intro X hX
  exact bk_C_isNoRank_0 (d := d) hX a M h
/-- the first place below k, from i on, that is no letter or lies at the limit; none: no -/
def t_err (f : Int → Int) (lim no i : Int) : Nat → Int
  | 0 => no
  | k + 1 => if lim ≤ i ∨ f i < 97 ∨ 122 < f i then i else t_err f lim no (i + 1) k
theorem sp_T_firstError (d : Nat) (a : Int) (M : jxM) (h1 : 0 ≤ M 2 1 ∧ M 2 1 ≤ 20) {K : jxK} (h : K (some (.inl (t_err (M 3) a (-1) 0 (M 2 1).toNat))) M) : jx_call jx_G1 jx_T (d + 2) 45 [.inr 2, .inl a] M K := by
  intro X hX
  refine bk_T_firstError_0 (d := d) hX a M ?_
  refine jx_loop (σ := Unit) (M 2 1) (fun i _ => 0 ≤ i ∧ i ≤ M 2 1 ∧ t_err (M 3) a (-1) 0 (M 2 1).toNat = t_err (M 3) a (-1) i (M 2 1 - i).toNat) (fun i _ => X 2 [.inr 2, .inl a, .inl i] [] M) ?_ 0 () ⟨by omega, by omega, by simp⟩
  intro i _ ⟨i1, i2, i3⟩ ih
  rw [i3] at h
  refine bk_T_firstError_2 (d := d) hX a i M ⟨fun q => ?_, fun q => ⟨fun q2 => ?_, fun q2 => ⟨by omega, fun q3 => ⟨by omega, ih () q ⟨by omega, by omega, ?_⟩⟩, fun q3 => ?_⟩⟩⟩
  · rw [show (M 2 1 - i).toNat = 0 by omega] at h; exact h
  · rw [show (M 2 1 - i).toNat = (M 2 1 - (i + 1)).toNat + 1 by omega, t_err, if_pos (Or.inl q2)] at h; exact h
  · rw [i3, show (M 2 1 - i).toNat = (M 2 1 - (i + 1)).toNat + 1 by omega, t_err, if_neg (by omega)]
  · rw [show (M 2 1 - i).toNat = (M 2 1 - (i + 1)).toNat + 1 by omega, t_err, if_pos (Or.inr q3)] at h; exact h
def d_holds (M : jxM) (w c : Int) : Prop := ∃ e, 0 ≤ e ∧ e < M 5 6 ∧ M 8 e = w ∧ M 9 e = c ∧ M 7 e = M 2 1 ∧ t_begins M e
theorem sp_D_holds (d : Nat) (w c : Int) (M : jxM) (h1 : (0 ≤ M 5 6 ∧ M 5 6 ≤ 20) ∧ (0 ≤ M 2 1 ∧ M 2 1 ≤ 20) ∧ ∀ e, 0 ≤ e → e < M 5 6 → M 7 e ≤ 6) {K : jxK} (h : K (some (.inl (jx_b (d_holds M w c)))) M) : jx_call jx_G1 jx_T (d + 2) 5 [.inr 5, .inr 2, .inl w, .inl c] M K := by
  intro X hX
  refine bk_D_holds_0 (d := d) hX w c M ?_
  refine jx_loop (σ := Unit) (M 5 6) (fun i _ => 0 ≤ i ∧ ∀ e, 0 ≤ e → e < i → ¬ (M 8 e = w ∧ M 9 e = c ∧ M 7 e = M 2 1 ∧ t_begins M e)) (fun i _ => X 2 [.inr 5, .inr 2, .inl w, .inl c, .inl i] [] M) ?_ 0 () ⟨by omega, fun j _ _ => by omega⟩
  intro i _ ⟨i1, i3⟩ ih
  have hn : i < M 5 6 → ¬ (M 8 i = w ∧ M 9 i = c ∧ M 7 i = M 2 1 ∧ t_begins M i) → X 2 [.inr 5, .inr 2, .inl w, .inl c, .inl (i + 1)] [] M := fun q z => ih () q ⟨by omega, fun e e1 e2 => by
    rcases Int.lt_or_le e i with y | y
    · exact i3 e e1 y
    · obtain rfl : e = i := by omega
      exact z⟩
  refine bk_D_holds_2 (d := d) hX w c i M ⟨fun q => ?_, fun q => ⟨by omega, fun q2 => ⟨by omega, hn q (fun z => q2 z.1)⟩, fun q2 => ⟨by omega, fun q3 => ⟨by omega, hn q (fun z => q3 z.2.1)⟩, fun q3 => ⟨by omega, fun q4 => ⟨by omega, hn q (fun z => q4 z.2.2.1)⟩, fun q4 => ⟨?_, fun q5 => ⟨by omega, hn q (fun z => q5 z.2.2.2)⟩, fun q5 => ?_⟩⟩⟩⟩⟩
  · rw [jx_bf (fun ⟨e, e1, e2, e3⟩ => i3 e e1 (by omega) e3)] at h; exact h
  · have := h1.2.2 i i1 q
    omega
  · rw [jx_bt ⟨i, i1, q, q2, q3, q4, q5⟩] at h; exact h
theorem sp_D_moveDown (d : Nat) (e : Int) (M : jxM) (h1 : 1 ≤ e ∧ e < 20) {K : jxK} (h : K none (jx_up (jx_up (jx_up (jx_up (jx_up (jx_cp M 6 (e * 6) 6 ((e - 1) * 6) 6) 7 (e - 1) (M 7 e)) 8 (e - 1) (M 8 e)) 9 (e - 1) (M 9 e)) 10 (e - 1) (M 10 e)) 11 (e - 1) (M 11 e))) : jx_call jx_G1 jx_T (d + 2) 3 [.inr 5, .inl e] M K := by
  intro X hX
  exact bk_D_moveDown_0 (d := d) hX e M ⟨by omega, h⟩
theorem sp_D_append (d : Nat) (w c k : Int) (M : jxM) (h1 : 0 ≤ M 5 6 ∧ M 5 6 < 20 ∧ 0 ≤ M 2 1 ∧ M 2 1 ≤ 6) {K : jxK} (h : K none (jx_up (jx_up (jx_up (jx_up (jx_up (jx_up (jx_cp M 3 0 6 (M 5 6 * 6) (M 2 1)) 7 (M 5 6) (M 2 1)) 8 (M 5 6) w) 9 (M 5 6) c) 10 (M 5 6) k) 11 (M 5 6) 0) 5 6 (M 5 6 + 1))) : jx_call jx_G1 jx_T (d + 2) 1 [.inr 5, .inr 2, .inl w, .inl c, .inl k] M K := by
  intro X hX
  exact bk_D_append_0 (d := d) hX w c k M ⟨fun q => absurd q (by omega), fun q => ⟨fun q2 => ⟨by omega, h⟩, fun q2 => absurd q2 (by omega)⟩⟩
/-- a row filled -/
def jx_fi (M : jxM) (c : Nat) (n v : Int) : jxM := fun c' x => if c' = c ∧ 0 ≤ x ∧ x < n then v else M c' x
set_option maxHeartbeats 4000000 in
theorem sp_J_fill (d c n : Nat) (v : Int) (M : jxM) (hc : jx_G1.1 (c + 1) = (1, n)) (hn : n < 2147483647) {K : jxK} (h : K none (jx_fi M (c + 1) n v)) : jx_call jx_G1 jx_T (d + 1) 127 [.inr (c + 1), .inl v] M K := by
  intro X hX
  have hX : jx_clo jx_G1 d (jx_call jx_G1 jx_T d) kc_J_fill K X := hX
  show X 0 [.inr (c + 1), .inl v, .inr 0, .inr 0] [] M
  refine jk_const (pc := 0) hX 0 rfl (by decide) ?_
  refine jk_store (pc := 1) hX 2 rfl (Nat.le_of_ble_eq_true rfl) (ls' := [.inr (c + 1), .inl v, .inl 0, .inr 0]) rfl ?_
  refine jk_aload (pc := 2) hX 0 rfl rfl ?_
  refine jk_alen (pc := 3) hX n rfl hc ?_
  refine jk_store (pc := 4) hX 3 rfl (Nat.le_of_ble_eq_true rfl) (ls' := [.inr (c + 1), .inl v, .inl 0, .inl (n : Int)]) rfl ?_
  refine jx_loop (σ := jxM) (n : Int) (fun i M' => 0 ≤ i ∧ i ≤ n ∧ M' = fun c' x => if c' = c + 1 ∧ 0 ≤ x ∧ x < i then v else M c' x) (fun i M' => X 5 [.inr (c + 1), .inl v, .inl i, .inl (n : Int)] [] M') ?_ 0 M ⟨by omega, by omega, ?_⟩
  · intro i M' ⟨i1, i2, i3⟩ ih
    refine jk_load (pc := 5) hX 2 rfl rfl ?_
    refine jk_load (pc := 6) hX 3 rfl rfl ?_
    refine jk_cge (pc := 7) hX 14 rfl (fun q => ?_) (fun q => ?_)
    · refine jk_vret (pc := 14) hX rfl ?_
      obtain rfl : i = n := by omega
      rw [i3]
      exact h
    · refine jk_aload (pc := 8) hX 0 rfl rfl ?_
      refine jk_load (pc := 9) hX 2 rfl rfl ?_
      refine jk_load (pc := 10) hX 1 rfl rfl ?_
      refine jk_iast (pc := 11) hX n rfl hc (by omega) ?_
      refine jk_iinc (pc := 12) hX 2 1 rfl rfl (by unfold jx_r; omega) (ls' := [.inr (c + 1), .inl v, .inl (i + 1), .inl (n : Int)]) rfl ?_
      refine jk_goto (pc := 13) hX 5 rfl ?_
      refine ih _ q ⟨by omega, by omega, ?_⟩
      rw [i3]
      funext c' x
      unfold jx_up
      by_cases h1 : c' = c + 1 ∧ x = i
      · rw [if_pos h1, if_pos ⟨h1.1, by omega, by omega⟩]
      · rw [if_neg h1]
        show (if c' = c + 1 ∧ 0 ≤ x ∧ x < i then v else M c' x) = _
        by_cases h2 : c' = c + 1 ∧ 0 ≤ x ∧ x < i
        · rw [if_pos h2, if_pos ⟨h2.1, h2.2.1, by omega⟩]
        · rw [if_neg h2, if_neg (fun z => h2 ⟨z.1, z.2.1, by
            have := z.2.2
            rcases Int.lt_or_le x i with y | y
            · exact y
            · exact absurd ⟨z.1, by omega⟩ h1⟩)]
  · funext c' x
    rw [if_neg (fun z => by omega)]
theorem sp_M_takeInput (d : Nat) (M : jxM) (h1 : 0 ≤ M 2 1 ∧ M 2 1 ≤ 16) {K : jxK} (h : K none (jx_fi (jx_up (jx_cp M 3 0 13 0 (M 2 1)) 4 5 (M 2 1)) 14 17 0)) : jx_call jx_G1 jx_T (d + 2) 17 [.inr 4, .inr 2] M K := by
  intro X hX
  refine bk_M_takeInput_0 (d := d) hX M ⟨fun q => ⟨by omega, ?_⟩, fun q => absurd q (by omega)⟩
  exact sp_J_fill d 13 17 0 _ rfl (by omega) ⟨rfl, h⟩
-- ===== the reference =====
def f_stands (A : Int → Int) (e g : Int) : Prop := g + A (1 + 11 * e) ≤ A 271 ∧ ∀ i, 0 ≤ i → i < A (1 + 11 * e) → A (1 + 11 * e + 1 + i) = A (272 + g + i)
def f_may (A : Int → Int) (a b : Int) : Prop := (b = A 271 ∨ A (288 + b) ≠ 2) ∧ ∀ g, a < g → g < b → A (288 + g) ≠ 1
def f_price (A : Int → Int) (e : Int) : Int := max 0 (A (1 + 11 * e + 9) - 3 * A (1 + 11 * e + 10))
def f_end (A : Int → Int) (s g : Int) : Int := if s = -5 then g + 1 else g + A (1 + 11 * s)
def f_cls (A : Int → Int) (s : Int) : Int := if s = -5 then 5 else A (1 + 11 * s + 8)
def f_cost (A : Int → Int) (s : Int) : Int := if s = -5 then A 270 else f_price A s
def f_begins (M : jxM) (e : Int) : Prop := M 1 4 ≤ M 2 (1 + 11 * e) ∧ ∀ i, 0 ≤ i → i < M 1 4 → M 4 i = M 2 (1 + 11 * e + 1 + i)
theorem sp_F_fault (d : Nat) (a : Int) (M : jxM) (h1 : (0 ≤ M 1 4 ∧ M 1 4 ≤ 20) ∧ 0 ≤ a) {K : jxK} (h : K (some (.inl (t_err (M 4) a (-9) 0 (M 1 4).toNat))) M) : jx_call jx_G2 jx_T (d + 2) 85 [.inr 1, .inl a] M K := by
  intro X hX
  refine bk_F_fault_0 (d := d) hX a M ?_
  refine jx_loop (σ := Unit) (M 1 4) (fun i _ => 0 ≤ i ∧ i ≤ M 1 4 ∧ i ≤ a ∧ t_err (M 4) a (-9) 0 (M 1 4).toNat = t_err (M 4) a (-9) i (M 1 4 - i).toNat) (fun i _ => X 2 [.inr 1, .inl a, .inl i] [] M) ?_ 0 () ⟨by omega, by omega, by omega, by simp⟩
  intro i _ ⟨i1, i2, i4, i3⟩ ih
  rw [i3] at h
  refine bk_F_fault_2 (d := d) hX a i M ⟨fun q => ?_, fun q => ⟨fun q2 => ?_, fun q2 => ⟨by omega, fun q3 => ⟨by omega, ih () q ⟨by omega, by omega, by omega, ?_⟩⟩, fun q3 => ?_⟩⟩⟩
  · rw [show (M 1 4 - i).toNat = 0 by omega] at h; exact h
  · rw [show (M 1 4 - i).toNat = (M 1 4 - (i + 1)).toNat + 1 by omega, t_err, if_pos (Or.inl (by omega))] at h; exact h
  · rw [i3, show (M 1 4 - i).toNat = (M 1 4 - (i + 1)).toNat + 1 by omega, t_err, if_neg (by omega)]
  · rw [show (M 1 4 - i).toNat = (M 1 4 - (i + 1)).toNat + 1 by omega, t_err, if_pos (by omega)] at h; exact h
theorem sp_F_isEntry (d : Nat) (a : Int) (M : jxM) (h1 : 0 ≤ M 2 0 ∧ M 2 0 ≤ 20) {K : jxK} (h : K (some (.inl (jx_b (0 ≤ a ∧ a < M 2 0)))) M) : jx_call jx_G2 jx_T (d + 2) 87 [.inr 1, .inl a] M K := by
  intro X hX
  refine bk_F_isEntry_0 (d := d) hX a M ⟨by omega, ?_⟩
  rw [jx_bc (show (0 ≤ a ∧ a ≤ M 2 0 - 1) ↔ (0 ≤ a ∧ a < M 2 0) by omega)]
  exact h
theorem sp_F_begins (d : Nat) (e : Int) (M : jxM) (h1 : (0 ≤ e ∧ e < 20) ∧ (0 ≤ M 1 4 ∧ M 1 4 ≤ 20) ∧ M 2 (1 + 11 * e) ≤ 6) {K : jxK} (h : K (some (.inl (jx_b (f_begins M e)))) M) : jx_call jx_G2 jx_T (d + 2) 88 [.inr 1, .inl e] M K := by
  intro X hX
  have lp : ∀ (i v : Int), (0 ≤ i ∧ (v = 1 ∧ i ≤ M 1 4 ∧ M 1 4 ≤ M 2 (1 + 11 * e) ∧ (∀ j, 0 ≤ j → j < i → M 4 j = M 2 (1 + 11 * e + 1 + j)) ∨ v = 0 ∧ ¬ f_begins M e)) → X 14 [.inr 1, .inl e, .inl v, .inl i] [] M := by
    refine jx_loop (σ := Int) (M 1 4) _ _ ?_
    intro i v ⟨i1, i3⟩ ih
    refine bk_F_begins_14 (d := d) hX e v i M ⟨fun q => ⟨by omega, ?_⟩, fun q => ⟨fun q2 => ⟨by omega, ?_⟩, fun q2 => ⟨?_, fun q3 => ⟨by omega, ih _ q ⟨by omega, Or.inr ⟨rfl, ?_⟩⟩⟩, fun q3 => ⟨by omega, ih _ q ⟨by omega, Or.inl ⟨rfl, by omega, ?_, fun j j1 j2 => ?_⟩⟩⟩⟩⟩⟩
    · rcases i3 with ⟨rfl, i4, i5, i6⟩ | ⟨rfl, i4⟩
      · rw [jx_bt ⟨i5, fun j j1 j2 => i6 j j1 (by omega)⟩] at h; exact h
      · rw [jx_bf i4] at h; exact h
    · rcases i3 with ⟨rfl, i4⟩ | ⟨rfl, i4⟩
      · omega
      · rw [jx_bf i4] at h; exact h
    · rcases i3 with ⟨rfl, i4, i5, i6⟩ | ⟨rfl, i4⟩ <;> omega
    · exact fun z => q3 (z.2 i i1 q)
    · rcases i3 with ⟨rfl, i4, i5, i6⟩ | ⟨rfl, i4⟩ <;> omega
    · rcases i3 with ⟨rfl, i4, i5, i6⟩ | ⟨rfl, i4⟩
      · rcases Int.lt_or_le j i with z | z
        · exact i6 j j1 z
        · obtain rfl : j = i := by omega
          exact q3
      · omega
  refine bk_F_begins_0 (d := d) hX e M ⟨by omega, fun q => lp _ _ ⟨by omega, Or.inr ⟨rfl, fun z => ?_⟩⟩, fun q => lp _ _ ⟨by omega, Or.inl ⟨rfl, by omega, q, fun j _ _ => by omega⟩⟩⟩
  have := z.1
  omega
theorem sp_F_price (d : Nat) (e : Int) (M : jxM) (h1 : (0 ≤ e ∧ e < 20) ∧ (0 ≤ M 2 (1 + 11 * e + 9) ∧ M 2 (1 + 11 * e + 9) ≤ 99) ∧ (0 ≤ M 2 (1 + 11 * e + 10) ∧ M 2 (1 + 11 * e + 10) ≤ 9)) {K : jxK} (h : K (some (.inl (f_price (M 2) e))) M) : jx_call jx_G2 jx_T (d + 2) 93 [.inr 1, .inl e] M K := by
  intro X hX
  unfold f_price at h
  refine bk_F_price_0 (d := d) hX e M ⟨by omega, fun q => ?_, fun q => ?_⟩
  · rw [show max 0 (M 2 (1 + 11 * e + 9) - 3 * M 2 (1 + 11 * e + 10)) = M 2 (1 + 11 * e + 9) - 3 * M 2 (1 + 11 * e + 10) by omega] at h; exact h
  · rw [show max 0 (M 2 (1 + 11 * e + 9) - 3 * M 2 (1 + 11 * e + 10)) = 0 by omega] at h; exact h
theorem sp_F_stands (d : Nat) (e g : Int) (M : jxM) (h1 : (0 ≤ e ∧ e < 20) ∧ (0 ≤ M 2 (1 + 11 * e) ∧ M 2 (1 + 11 * e) ≤ 6) ∧ M 2 271 ≤ 16 ∧ 0 ≤ g ∧ g ≤ 16) {K : jxK} (h : K (some (.inl (jx_b (f_stands (M 2) e g)))) M) : jx_call jx_G2 jx_T (d + 2) 103 [.inr 1, .inl e, .inl g] M K := by
  intro X hX
  have lp : ∀ (i v : Int), (0 ≤ i ∧ (v = 1 ∧ i ≤ M 2 (1 + 11 * e) ∧ g + M 2 (1 + 11 * e) ≤ M 2 271 ∧ (∀ j, 0 ≤ j → j < i → M 2 (1 + 11 * e + 1 + j) = M 2 (272 + g + j)) ∨ v = 0 ∧ ¬ f_stands (M 2) e g)) → X 20 [.inr 1, .inl e, .inl g, .inl (M 2 (1 + 11 * e)), .inl v, .inl i] [] M := by
    refine jx_loop (σ := Int) (M 2 (1 + 11 * e)) _ _ ?_
    intro i v ⟨i1, i3⟩ ih
    refine bk_F_stands_20 (d := d) hX e g (M 2 (1 + 11 * e)) v i M ⟨fun q => ⟨by omega, ?_⟩, fun q => ⟨fun q2 => ⟨by omega, ?_⟩, fun q2 => ⟨?_, fun q3 => ⟨by omega, ih _ q ⟨by omega, Or.inr ⟨rfl, ?_⟩⟩⟩, fun q3 => ⟨by omega, ih _ q ⟨by omega, Or.inl ⟨rfl, by omega, ?_, fun j j1 j2 => ?_⟩⟩⟩⟩⟩⟩
    · rcases i3 with ⟨rfl, i4, i5, i6⟩ | ⟨rfl, i4⟩
      · rw [jx_bt ⟨i5, fun j j1 j2 => i6 j j1 (by omega)⟩] at h; exact h
      · rw [jx_bf i4] at h; exact h
    · rcases i3 with ⟨rfl, i4⟩ | ⟨rfl, i4⟩
      · omega
      · rw [jx_bf i4] at h; exact h
    · rcases i3 with ⟨rfl, i4, i5, i6⟩ | ⟨rfl, i4⟩ <;> omega
    · exact fun z => q3 (z.2 i i1 q)
    · rcases i3 with ⟨rfl, i4, i5, i6⟩ | ⟨rfl, i4⟩ <;> omega
    · rcases i3 with ⟨rfl, i4, i5, i6⟩ | ⟨rfl, i4⟩
      · rcases Int.lt_or_le j i with z | z
        · exact i6 j j1 z
        · obtain rfl : j = i := by omega
          exact q3
      · omega
  refine bk_F_stands_0 (d := d) hX e g M ⟨by omega, fun q => lp _ _ ⟨by omega, Or.inr ⟨rfl, fun z => ?_⟩⟩, fun q => lp _ _ ⟨by omega, Or.inl ⟨rfl, by omega, q, fun j _ _ => by omega⟩⟩⟩
  have := z.1
  omega
theorem sp_F_mayCover (d : Nat) (a b : Int) (M : jxM) (h1 : 0 ≤ a ∧ a ≤ 16 ∧ 0 ≤ b ∧ b ≤ 16) {K : jxK} (h : K (some (.inl (jx_b (f_may (M 2) a b)))) M) : jx_call jx_G2 jx_T (d + 1) 105 [.inr 1, .inl a, .inl b] M K := by
  intro X hX
  have lp : ∀ (i v : Int), (a < i ∧ (v = 1 ∧ (b = M 2 271 ∨ M 2 (288 + b) ≠ 2) ∧ (∀ j, a < j → j < i → M 2 (288 + j) ≠ 1) ∨ v = 0 ∧ ¬ f_may (M 2) a b)) → X 22 [.inr 1, .inl a, .inl b, .inl v, .inl i] [] M := by
    refine jx_loop (σ := Int) b _ _ ?_
    intro i v ⟨i1, i3⟩ ih
    refine bk_F_mayCover_22 (d := d) hX a b v i M ⟨fun q => ⟨by omega, ?_⟩, fun q => ⟨fun q2 => ⟨by omega, ih _ q ⟨by omega, Or.inr ⟨rfl, ?_⟩⟩⟩, fun q2 => ⟨by omega, fun q3 => ⟨by omega, ih _ q ⟨by omega, Or.inr ⟨rfl, ?_⟩⟩⟩, fun q3 => ⟨by omega, ih _ q ⟨by omega, Or.inl ⟨rfl, ?_, fun j j1 j2 => ?_⟩⟩⟩⟩⟩⟩
    · rcases i3 with ⟨rfl, i5, i6⟩ | ⟨rfl, i4⟩
      · rw [jx_bt ⟨i5, fun j j1 j2 => i6 j j1 (by omega)⟩] at h; exact h
      · rw [jx_bf i4] at h; exact h
    · rcases i3 with ⟨rfl, i4⟩ | ⟨rfl, i4⟩
      · omega
      · exact i4
    · exact fun z => z.2 i i1 q q3
    · rcases i3 with ⟨rfl, i5, i6⟩ | ⟨rfl, i4⟩
      · exact i5
      · omega
    · rcases i3 with ⟨rfl, i5, i6⟩ | ⟨rfl, i4⟩
      · rcases Int.lt_or_le j i with z | z
        · exact i6 j j1 z
        · obtain rfl : j = i := by omega
          exact q3
      · omega
  refine bk_F_mayCover_0 (d := d) hX a b M ⟨fun q => ⟨by omega, lp _ _ ⟨by omega, Or.inl ⟨rfl, Or.inl q, fun j _ _ => by omega⟩⟩⟩, fun q => ⟨by omega, fun q2 => ⟨by omega, lp _ _ ⟨by omega, Or.inr ⟨rfl, fun z => ?_⟩⟩⟩, fun q2 => ⟨by omega, lp _ _ ⟨by omega, Or.inl ⟨rfl, Or.inr q2, fun j _ _ => by omega⟩⟩⟩⟩⟩
  rcases z.1 with y | y
  · exact q y
  · exact y q2
theorem sp_F_endOf (d : Nat) (s g : Int) (M : jxM) (h1 : (s = -5 ∨ 0 ≤ s ∧ s < 20 ∧ 0 ≤ M 2 (1 + 11 * s) ∧ M 2 (1 + 11 * s) ≤ 6) ∧ 0 ≤ g ∧ g ≤ 16) {K : jxK} (h : K (some (.inl (f_end (M 2) s g))) M) : jx_call jx_G2 jx_T (d + 2) 107 [.inr 1, .inl s, .inl g] M K := by
  intro X hX
  unfold f_end at h
  refine bk_F_endOf_0 (d := d) hX s g M ⟨fun q => ⟨by omega, ?_⟩, fun q => ⟨by omega, ?_⟩⟩
  · rw [if_neg q] at h; exact h
  · rw [if_pos q] at h; exact h
theorem sp_F_classOf (d : Nat) (s : Int) (M : jxM) (h1 : s = -5 ∨ 0 ≤ s ∧ s < 20) {K : jxK} (h : K (some (.inl (f_cls (M 2) s))) M) : jx_call jx_G2 jx_T (d + 2) 108 [.inr 1, .inl s] M K := by
  intro X hX
  unfold f_cls at h
  refine bk_F_classOf_0 (d := d) hX s M ⟨fun q => ⟨by omega, ?_⟩, fun q => ?_⟩
  · rw [if_neg q] at h; exact h
  · rw [if_pos q] at h; exact h
end
section
set_option maxHeartbeats 4000000 in
theorem bk_D_drop_0 {d : Nat} {K : jxK} {X : jxX} (hX : jx_clo jx_G1 (d + 2) (jx_call jx_G1 jx_T (d + 2)) kc_D_drop K X) (v1 : Int) (M : jxM)
    (h : X 2 [.inr 5, .inl v1, .inl v1] [] M) :
    X 0 [.inr 5, .inl v1, .inr 0] [] M := by
  refine jk_load (pc := 0) hX 1 rfl rfl ?_
  refine jk_store (pc := 1) hX 2 rfl (Nat.le_of_ble_eq_true rfl) (ls' := [.inr 5, .inl v1, .inl v1]) rfl ?_
  exact h
set_option maxHeartbeats 4000000 in
theorem bk_D_drop_2 {d : Nat} {K : jxK} {X : jxX} (hX : jx_clo jx_G1 (d + 2) (jx_call jx_G1 jx_T (d + 2)) kc_D_drop K X) (v1 : Int) (v2 : Int) (M : jxM)
    (h : (((-2147483648 : Int) ≤ v2 + 1 ∧ v2 + 1 ≤ 2147483647)) ∧ (((M 5 6) ≤ (v2 + 1) → (((-2147483648 : Int) ≤ (M 5 6) - 1 ∧ (M 5 6) - 1 ≤ 2147483647)) ∧ K none (jx_up M 5 6 ((M 5 6) - 1))) ∧ ((v2 + 1) < (M 5 6) → (((-2147483648 : Int) ≤ v2 + 1 ∧ v2 + 1 ≤ 2147483647)) ∧ jx_call jx_G1 jx_T (d + 2) 3 [.inr 5, .inl (v2 + 1)] M (fun r M8 => r = none ∧ (((-2147483648 : Int) ≤ v2 + 1 ∧ v2 + 1 ≤ 2147483647)) ∧ X 2 [.inr 5, .inl v1, .inl (v2 + 1)] [] M8)))) :
    X 2 [.inr 5, .inl v1, .inl v2] [] M := by
  obtain ⟨g1, h15⟩ := h
  refine jk_load (pc := 2) hX 2 rfl rfl ?_
  refine jk_const (pc := 3) hX 1 rfl (by decide) ?_
  refine jk_add (pc := 4) hX rfl g1 ?_
  refine jk_aload (pc := 5) hX 0 rfl rfl ?_
  refine jk_getI (pc := 6) hX 0 6 rfl rfl rfl ?_
  refine jk_cge (pc := 7) hX 15 rfl (fun q13 => ?_) (fun q14 => ?_)
  · have h2 := h15.1 q13
    obtain ⟨g4, h5⟩ := h2
    refine jk_aload (pc := 15) hX 0 rfl rfl ?_
    refine jk_dup (pc := 16) hX rfl ?_
    refine jk_getI (pc := 17) hX 0 6 rfl rfl rfl ?_
    refine jk_const (pc := 18) hX 1 rfl (by decide) ?_
    refine jk_sub (pc := 19) hX rfl g4 ?_
    refine jk_put (pc := 20) hX 0 6 rfl rfl rfl ?_
    exact jk_vret (pc := 21) hX rfl h5
  · have h3 := h15.2 q14
    obtain ⟨g6, h12⟩ := h3
    refine jk_aload (pc := 8) hX 0 rfl rfl ?_
    refine jk_load (pc := 9) hX 2 rfl rfl ?_
    refine jk_const (pc := 10) hX 1 rfl (by decide) ?_
    refine jk_add (pc := 11) hX rfl g6 ?_
    refine jk_cv (pc := 12) hX 3 1 0 rfl 5 [.inl (v2 + 1)] [] rfl rfl rfl (Nat.le_of_ble_eq_true rfl) (jx_mono (fun r M8 hr => ?_) h12)
    obtain ⟨rfl, h9⟩ := hr
    show X 13 [.inr 5, .inl v1, .inl v2] [] M8
    obtain ⟨g10, h11⟩ := h9
    refine jk_iinc (pc := 13) hX 2 1 rfl rfl g10 (ls' := [.inr 5, .inl v1, .inl (v2 + 1)]) rfl ?_
    refine jk_goto (pc := 14) hX 2 rfl ?_
    exact h11
set_option maxHeartbeats 4000000 in
theorem bk_T_readingError_0 {d : Nat} {K : jxK} {X : jxX} (hX : jx_clo jx_G1 (d + 2) (jx_call jx_G1 jx_T (d + 2)) kc_T_readingError K X) (M : jxM)
    (h : (((M 2 1) ≠ 0 → (((0 : Int) ≤ (M 2 1) ∧ (M 2 1) ≤ 20)) ∧ K (some (.inl (t_err (M 3) (6 : Int) (-1) 0 ((M 2 1)).toNat))) M) ∧ ((M 2 1) = 0 → K (some (.inl 0)) M))) :
    X 0 [.inr 2] [] M := by
  refine jk_aload (pc := 0) hX 0 rfl rfl ?_
  refine jk_getI (pc := 1) hX 5 1 rfl rfl rfl ?_
  refine jk_zne (pc := 2) hX 5 rfl (fun q5 => ?_) (fun q6 => ?_)
  · have h1 := h.1 q5
    obtain ⟨g3, h4⟩ := h1
    refine jk_aload (pc := 5) hX 0 rfl rfl ?_
    refine jk_const (pc := 6) hX 6 rfl (by decide) ?_
    refine jk_cv (pc := 7) hX 45 1 5 rfl 2 [.inl 6] [] rfl rfl rfl (Nat.le_of_ble_eq_true rfl) (sp_T_firstError d (6 : Int) M g3 ?_)
    show X 8 [.inr 2] [.inl (t_err (M 3) (6 : Int) (-1) 0 ((M 2 1)).toNat)] M
    exact jk_iret (pc := 8) hX rfl h4
  · have h2 := h.2 q6
    refine jk_const (pc := 3) hX 0 rfl (by decide) ?_
    refine jk_goto (pc := 4) hX 8 rfl ?_
    exact jk_iret (pc := 8) hX rfl h2
set_option maxHeartbeats 4000000 in
theorem bk_C_appendCharacter_0 {d : Nat} {K : jxK} {X : jxX} (hX : jx_clo jx_G1 (d + 1) (jx_call jx_G1 jx_T (d + 1)) kc_C_appendCharacter K X) (v1 : Int) (M : jxM)
    (h : ((¬ (v1 < (0 : Int) ∨ (255 : Int) < v1) → (((M 2 1) < 20 → jx_call jx_G1 jx_T (d + 1) 43 [.inr 2, .inl v1] M (fun r M6 => r = none ∧ K (some (.inl (M6 2 1))) M6)) ∧ (20 ≤ (M 2 1) → K (some (.inl (-3))) M))) ∧ (v1 < (0 : Int) ∨ (255 : Int) < v1 → K (some (.inl (-1))) M))) :
    X 0 [.inr 1, .inl v1] [] M := by
  refine jk_load (pc := 0) hX 1 rfl rfl ?_
  refine jk_const (pc := 1) hX 0 rfl (by decide) ?_
  refine jk_const (pc := 2) hX 255 rfl (by decide) ?_
  refine jk_cs (pc := 3) hX 79 3 rfl [.inl v1, .inl 0, .inl 255] [] rfl rfl (Nat.le_of_ble_eq_true rfl) (sp_C_isOutside d v1 (0 : Int) (255 : Int) M  ?_)
  show X 4 [.inr 1, .inl v1] [.inl (jx_b (v1 < (0 : Int) ∨ (255 : Int) < v1))] M
  refine jk_zeqB (pc := 4) hX 7 rfl (fun q10 => ?_) (fun q11 => ?_)
  · have h1 := h.1 q10
    refine jk_aload (pc := 7) hX 0 rfl rfl ?_
    refine jk_getR (pc := 8) hX 6 0 rfl rfl (r := 1) rfl ?_
    refine jk_getI (pc := 9) hX 5 1 rfl rfl rfl ?_
    refine jk_const (pc := 10) hX 20 rfl (by decide) ?_
    refine jk_clt (pc := 11) hX 14 rfl (fun q8 => ?_) (fun q9 => ?_)
    · have h3 := h1.1 q8
      refine jk_aload (pc := 14) hX 0 rfl rfl ?_
      refine jk_getR (pc := 15) hX 6 0 rfl rfl (r := 1) rfl ?_
      refine jk_load (pc := 16) hX 1 rfl rfl ?_
      refine jk_cv (pc := 17) hX 43 1 5 rfl 2 [.inl v1] [] rfl rfl rfl (Nat.le_of_ble_eq_true rfl) (jx_mono (fun r M6 hr => ?_) h3)
      obtain ⟨rfl, h7⟩ := hr
      show X 18 [.inr 1, .inl v1] [] M6
      refine jk_aload (pc := 18) hX 0 rfl rfl ?_
      refine jk_getR (pc := 19) hX 6 0 rfl rfl (r := 1) rfl ?_
      refine jk_getI (pc := 20) hX 5 1 rfl rfl rfl ?_
      exact jk_iret (pc := 21) hX rfl h7
    · have h4 := h1.2 q9
      refine jk_const (pc := 12) hX (-3) rfl (by decide) ?_
      exact jk_iret (pc := 13) hX rfl h4
  · have h2 := h.2 q11
    refine jk_const (pc := 5) hX (-1) rfl (by decide) ?_
    exact jk_iret (pc := 6) hX rfl h2
set_option maxHeartbeats 4000000 in
theorem bk_C_clearText_0 {d : Nat} {K : jxK} {X : jxX} (hX : jx_clo jx_G1 (d + 0) (jx_call jx_G1 jx_T (d + 0)) kc_C_clearText K X) (M : jxM)
    (h : K (some (.inl (M 2 1))) (jx_up M 2 1 0)) :
    X 0 [.inr 1, .inr 0] [] M := by
  refine jk_aload (pc := 0) hX 0 rfl rfl ?_
  refine jk_getR (pc := 1) hX 6 0 rfl rfl (r := 1) rfl ?_
  refine jk_getI (pc := 2) hX 5 1 rfl rfl rfl ?_
  refine jk_store (pc := 3) hX 1 rfl (Nat.le_of_ble_eq_true rfl) (ls' := [.inr 1, .inl (M 2 1)]) rfl ?_
  refine jk_aload (pc := 4) hX 0 rfl rfl ?_
  refine jk_getR (pc := 5) hX 6 0 rfl rfl (r := 1) rfl ?_
  refine jk_const (pc := 6) hX 0 rfl (by decide) ?_
  refine jk_put (pc := 7) hX 5 1 rfl rfl rfl ?_
  refine jk_load (pc := 8) hX 1 rfl rfl ?_
  exact jk_iret (pc := 9) hX rfl h
set_option maxHeartbeats 4000000 in
theorem bk_C_entryCount_0 {d : Nat} {K : jxK} {X : jxX} (hX : jx_clo jx_G1 (d + 0) (jx_call jx_G1 jx_T (d + 0)) kc_C_entryCount K X) (M : jxM)
    (h : K (some (.inl (M 5 6))) M) :
    X 0 [.inr 1] [] M := by
  refine jk_aload (pc := 0) hX 0 rfl rfl ?_
  refine jk_getR (pc := 1) hX 6 1 rfl rfl (r := 3) rfl ?_
  refine jk_getR (pc := 2) hX 3 0 rfl rfl (r := 4) rfl ?_
  refine jk_getI (pc := 3) hX 0 6 rfl rfl rfl ?_
  exact jk_iret (pc := 4) hX rfl h
set_option maxHeartbeats 4000000 in
theorem bk_C_wordOf_0 {d : Nat} {K : jxK} {X : jxX} (hX : jx_clo jx_G1 (d + 2) (jx_call jx_G1 jx_T (d + 2)) kc_C_wordOf K X) (v1 : Int) (M : jxM)
    (h : (((0 : Int) ≤ (M 5 6) ∧ (M 5 6) ≤ 20)) ∧ ((¬ (v1 < 0 ∨ (M 5 6) ≤ v1) → ((0 ≤ v1 ∧ v1 < 20)) ∧ K (some (.inl (M 8 v1))) M) ∧ (v1 < 0 ∨ (M 5 6) ≤ v1 → K (some (.inl (-1))) M))) :
    X 0 [.inr 1, .inl v1] [] M := by
  obtain ⟨g1, h8⟩ := h
  refine jk_aload (pc := 0) hX 0 rfl rfl ?_
  refine jk_load (pc := 1) hX 1 rfl rfl ?_
  refine jk_cv (pc := 2) hX 75 1 6 rfl 1 [.inl v1] [] rfl rfl rfl (Nat.le_of_ble_eq_true rfl) (sp_C_isNoEntry d v1 M g1 ?_)
  show X 3 [.inr 1, .inl v1] [.inl (jx_b (v1 < 0 ∨ (M 5 6) ≤ v1))] M
  refine jk_zeqB (pc := 3) hX 6 rfl (fun q6 => ?_) (fun q7 => ?_)
  · have h2 := h8.1 q6
    obtain ⟨g4, h5⟩ := h2
    refine jk_aload (pc := 6) hX 0 rfl rfl ?_
    refine jk_getR (pc := 7) hX 6 1 rfl rfl (r := 3) rfl ?_
    refine jk_getR (pc := 8) hX 3 0 rfl rfl (r := 4) rfl ?_
    refine jk_getR (pc := 9) hX 0 2 rfl rfl (r := 7) rfl ?_
    refine jk_load (pc := 10) hX 1 rfl rfl ?_
    refine jk_iald (pc := 11) hX 20 rfl rfl g4 ?_
    exact jk_iret (pc := 12) hX rfl h5
  · have h3 := h8.2 q7
    refine jk_const (pc := 4) hX (-1) rfl (by decide) ?_
    exact jk_iret (pc := 5) hX rfl h3
set_option maxHeartbeats 4000000 in
theorem bk_C_costOf_0 {d : Nat} {K : jxK} {X : jxX} (hX : jx_clo jx_G1 (d + 2) (jx_call jx_G1 jx_T (d + 2)) kc_C_costOf K X) (v1 : Int) (M : jxM)
    (h : (((0 : Int) ≤ (M 5 6) ∧ (M 5 6) ≤ 20)) ∧ ((¬ (v1 < 0 ∨ (M 5 6) ≤ v1) → ((((0 : Int) ≤ v1 ∧ v1 < 20) ∧ ((0 : Int) ≤ (M 10 v1) ∧ (M 10 v1) ≤ 99) ∧ ((0 : Int) ≤ (M 11 v1) ∧ (M 11 v1) ≤ 9))) ∧ K (some (.inl (max 0 ((M 10 v1) - 3 * (M 11 v1))))) M) ∧ (v1 < 0 ∨ (M 5 6) ≤ v1 → K (some (.inl (-1))) M))) :
    X 0 [.inr 1, .inl v1] [] M := by
  obtain ⟨g1, h8⟩ := h
  refine jk_aload (pc := 0) hX 0 rfl rfl ?_
  refine jk_load (pc := 1) hX 1 rfl rfl ?_
  refine jk_cv (pc := 2) hX 75 1 6 rfl 1 [.inl v1] [] rfl rfl rfl (Nat.le_of_ble_eq_true rfl) (sp_C_isNoEntry d v1 M g1 ?_)
  show X 3 [.inr 1, .inl v1] [.inl (jx_b (v1 < 0 ∨ (M 5 6) ≤ v1))] M
  refine jk_zeqB (pc := 3) hX 6 rfl (fun q6 => ?_) (fun q7 => ?_)
  · have h2 := h8.1 q6
    obtain ⟨g4, h5⟩ := h2
    refine jk_aload (pc := 6) hX 0 rfl rfl ?_
    refine jk_getR (pc := 7) hX 6 1 rfl rfl (r := 3) rfl ?_
    refine jk_getR (pc := 8) hX 3 0 rfl rfl (r := 4) rfl ?_
    refine jk_load (pc := 9) hX 1 rfl rfl ?_
    refine jk_cv (pc := 10) hX 6 1 0 rfl 5 [.inl v1] [] rfl rfl rfl (Nat.le_of_ble_eq_true rfl) (sp_D_presentCost d v1 M g4 ?_)
    show X 11 [.inr 1, .inl v1] [.inl (max 0 ((M 10 v1) - 3 * (M 11 v1)))] M
    exact jk_iret (pc := 11) hX rfl h5
  · have h3 := h8.2 q7
    refine jk_const (pc := 4) hX (-1) rfl (by decide) ?_
    exact jk_iret (pc := 5) hX rfl h3
set_option maxHeartbeats 4000000 in
theorem bk_C_useCount_0 {d : Nat} {K : jxK} {X : jxX} (hX : jx_clo jx_G1 (d + 2) (jx_call jx_G1 jx_T (d + 2)) kc_C_useCount K X) (v1 : Int) (M : jxM)
    (h : (((0 : Int) ≤ (M 5 6) ∧ (M 5 6) ≤ 20)) ∧ ((¬ (v1 < 0 ∨ (M 5 6) ≤ v1) → ((0 ≤ v1 ∧ v1 < 20)) ∧ K (some (.inl (M 11 v1))) M) ∧ (v1 < 0 ∨ (M 5 6) ≤ v1 → K (some (.inl (-1))) M))) :
    X 0 [.inr 1, .inl v1] [] M := by
  obtain ⟨g1, h8⟩ := h
  refine jk_aload (pc := 0) hX 0 rfl rfl ?_
  refine jk_load (pc := 1) hX 1 rfl rfl ?_
  refine jk_cv (pc := 2) hX 75 1 6 rfl 1 [.inl v1] [] rfl rfl rfl (Nat.le_of_ble_eq_true rfl) (sp_C_isNoEntry d v1 M g1 ?_)
  show X 3 [.inr 1, .inl v1] [.inl (jx_b (v1 < 0 ∨ (M 5 6) ≤ v1))] M
  refine jk_zeqB (pc := 3) hX 6 rfl (fun q6 => ?_) (fun q7 => ?_)
  · have h2 := h8.1 q6
    obtain ⟨g4, h5⟩ := h2
    refine jk_aload (pc := 6) hX 0 rfl rfl ?_
    refine jk_getR (pc := 7) hX 6 1 rfl rfl (r := 3) rfl ?_
    refine jk_getR (pc := 8) hX 3 0 rfl rfl (r := 4) rfl ?_
    refine jk_getR (pc := 9) hX 0 5 rfl rfl (r := 10) rfl ?_
    refine jk_load (pc := 10) hX 1 rfl rfl ?_
    refine jk_iald (pc := 11) hX 20 rfl rfl g4 ?_
    exact jk_iret (pc := 12) hX rfl h5
  · have h3 := h8.2 q7
    refine jk_const (pc := 4) hX (-1) rfl (by decide) ?_
    exact jk_iret (pc := 5) hX rfl h3
set_option maxHeartbeats 4000000 in
theorem bk_C_entriesWithPrefix_0 {d : Nat} {K : jxK} {X : jxX} (hX : jx_clo jx_G1 (d + 1) (jx_call jx_G1 jx_T (d + 1)) kc_C_entriesWithPrefix K X) (M : jxM)
    (h : X 8 [.inr 1, .inr 5, .inl 0, .inl 0] [] M) :
    X 0 [.inr 1, .inr 0, .inr 0, .inr 0] [] M := by
  refine jk_aload (pc := 0) hX 0 rfl rfl ?_
  refine jk_getR (pc := 1) hX 6 1 rfl rfl (r := 3) rfl ?_
  refine jk_getR (pc := 2) hX 3 0 rfl rfl (r := 4) rfl ?_
  refine jk_astore (pc := 3) hX 1 rfl (Nat.le_of_ble_eq_true rfl) (ls' := [.inr 1, .inr 5, .inr 0, .inr 0]) rfl ?_
  refine jk_const (pc := 4) hX 0 rfl (by decide) ?_
  refine jk_store (pc := 5) hX 2 rfl (Nat.le_of_ble_eq_true rfl) (ls' := [.inr 1, .inr 5, .inl 0, .inr 0]) rfl ?_
  refine jk_const (pc := 6) hX 0 rfl (by decide) ?_
  refine jk_store (pc := 7) hX 3 rfl (Nat.le_of_ble_eq_true rfl) (ls' := [.inr 1, .inr 5, .inl 0, .inl 0]) rfl ?_
  exact h
set_option maxHeartbeats 4000000 in
theorem bk_C_entriesWithPrefix_8 {d : Nat} {K : jxK} {X : jxX} (hX : jx_clo jx_G1 (d + 1) (jx_call jx_G1 jx_T (d + 1)) kc_C_entriesWithPrefix K X) (v2 : Int) (v3 : Int) (M : jxM)
    (h : (((M 5 6) ≤ v3 → K (some (.inl v2)) M) ∧ (v3 < (M 5 6) → ((((0 : Int) ≤ v3 ∧ v3 < 20) ∧ ((0 : Int) ≤ (M 2 1) ∧ (M 2 1) ≤ 20) ∧ (M 7 v3) ≤ 6)) ∧ ((¬ (t_begins M v3) → (((-2147483648 : Int) ≤ v3 + 1 ∧ v3 + 1 ≤ 2147483647)) ∧ X 8 [.inr 1, .inr 5, .inl v2, .inl (v3 + 1)] [] M) ∧ (t_begins M v3 → (((-2147483648 : Int) ≤ v2 + 1 ∧ v2 + 1 ≤ 2147483647) ∧ ((-2147483648 : Int) ≤ v3 + 1 ∧ v3 + 1 ≤ 2147483647)) ∧ X 8 [.inr 1, .inr 5, .inl (v2 + 1), .inl (v3 + 1)] [] M))))) :
    X 8 [.inr 1, .inr 5, .inl v2, .inl v3] [] M := by
  refine jk_load (pc := 8) hX 3 rfl rfl ?_
  refine jk_aload (pc := 9) hX 1 rfl rfl ?_
  refine jk_getI (pc := 10) hX 0 6 rfl rfl rfl ?_
  refine jk_cge (pc := 11) hX 21 rfl (fun q14 => ?_) (fun q15 => ?_)
  · have h1 := h.1 q14
    refine jk_load (pc := 21) hX 2 rfl rfl ?_
    exact jk_iret (pc := 22) hX rfl h1
  · have h2 := h.2 q15
    obtain ⟨g3, h13⟩ := h2
    refine jk_aload (pc := 12) hX 1 rfl rfl ?_
    refine jk_load (pc := 13) hX 3 rfl rfl ?_
    refine jk_aload (pc := 14) hX 0 rfl rfl ?_
    refine jk_getR (pc := 15) hX 6 0 rfl rfl (r := 1) rfl ?_
    refine jk_cv (pc := 16) hX 4 2 0 rfl 5 [.inl v3, .inr 2] [] rfl rfl rfl (Nat.le_of_ble_eq_true rfl) (sp_D_beginsWith d v3 M g3 ?_)
    show X 17 [.inr 1, .inr 5, .inl v2, .inl v3] [.inl (jx_b (t_begins M v3))] M
    refine jk_zeqB (pc := 17) hX 19 rfl (fun q11 => ?_) (fun q12 => ?_)
    · have h4 := h13.1 q11
      obtain ⟨g6, h7⟩ := h4
      refine jk_iinc (pc := 19) hX 3 1 rfl rfl g6 (ls' := [.inr 1, .inr 5, .inl v2, .inl (v3 + 1)]) rfl ?_
      refine jk_goto (pc := 20) hX 8 rfl ?_
      exact h7
    · have h5 := h13.2 q12
      obtain ⟨⟨g8, g9⟩, h10⟩ := h5
      refine jk_iinc (pc := 18) hX 2 1 rfl rfl g8 (ls' := [.inr 1, .inr 5, .inl (v2 + 1), .inl v3]) rfl ?_
      refine jk_iinc (pc := 19) hX 3 1 rfl rfl g9 (ls' := [.inr 1, .inr 5, .inl (v2 + 1), .inl (v3 + 1)]) rfl ?_
      refine jk_goto (pc := 20) hX 8 rfl ?_
      exact h10
set_option maxHeartbeats 4000000 in
theorem bk_C_inputLength_0 {d : Nat} {K : jxK} {X : jxX} (hX : jx_clo jx_G1 (d + 0) (jx_call jx_G1 jx_T (d + 0)) kc_C_inputLength K X) (M : jxM)
    (h : K (some (.inl (M 4 5))) M) :
    X 0 [.inr 1] [] M := by
  refine jk_aload (pc := 0) hX 0 rfl rfl ?_
  refine jk_getR (pc := 1) hX 6 1 rfl rfl (r := 3) rfl ?_
  refine jk_getI (pc := 2) hX 3 5 rfl rfl rfl ?_
  exact jk_iret (pc := 3) hX rfl h
set_option maxHeartbeats 4000000 in
theorem bk_C_segmentsAt_0 {d : Nat} {K : jxK} {X : jxX} (hX : jx_clo jx_G1 (d + 2) (jx_call jx_G1 jx_T (d + 2)) kc_C_segmentsAt K X) (v1 : Int) (M : jxM)
    (h : ((¬ (v1 < 0 ∨ (M 4 5) < v1) → X 10 [.inr 1, .inl v1, .inl 0, .inl 0] [] M) ∧ (v1 < 0 ∨ (M 4 5) < v1 → K (some (.inl (-1))) M))) :
    X 0 [.inr 1, .inl v1, .inr 0, .inr 0] [] M := by
  refine jk_aload (pc := 0) hX 0 rfl rfl ?_
  refine jk_load (pc := 1) hX 1 rfl rfl ?_
  refine jk_cv (pc := 2) hX 76 1 6 rfl 1 [.inl v1] [] rfl rfl rfl (Nat.le_of_ble_eq_true rfl) (sp_C_isNoGap d v1 M  ?_)
  show X 3 [.inr 1, .inl v1, .inr 0, .inr 0] [.inl (jx_b (v1 < 0 ∨ (M 4 5) < v1))] M
  refine jk_zeqB (pc := 3) hX 6 rfl (fun q3 => ?_) (fun q4 => ?_)
  · have h1 := h.1 q3
    refine jk_const (pc := 6) hX 0 rfl (by decide) ?_
    refine jk_store (pc := 7) hX 2 rfl (Nat.le_of_ble_eq_true rfl) (ls' := [.inr 1, .inl v1, .inl 0, .inr 0]) rfl ?_
    refine jk_const (pc := 8) hX 0 rfl (by decide) ?_
    refine jk_store (pc := 9) hX 3 rfl (Nat.le_of_ble_eq_true rfl) (ls' := [.inr 1, .inl v1, .inl 0, .inl 0]) rfl ?_
    exact h1
  · have h2 := h.2 q4
    refine jk_const (pc := 4) hX (-1) rfl (by decide) ?_
    exact jk_iret (pc := 5) hX rfl h2
set_option maxHeartbeats 4000000 in
theorem bk_C_segmentsAt_10 {d : Nat} {K : jxK} {X : jxX} (hX : jx_clo jx_G1 (d + 2) (jx_call jx_G1 jx_T (d + 2)) kc_C_segmentsAt K X) (v1 : Int) (v2 : Int) (v3 : Int) (M : jxM)
    (h : (((M 5 6) ≤ v3 → K (some (.inl v2)) M) ∧ (v3 < (M 5 6) → ((((0 : Int) ≤ v3 ∧ v3 < 20) ∧ ((0 : Int) ≤ (M 7 v3) ∧ (M 7 v3) ≤ 6) ∧ (M 4 5) ≤ 16 ∧ (0 : Int) ≤ v1 ∧ v1 ≤ 16)) ∧ ((¬ (m_stands M v3 v1) → (((-2147483648 : Int) ≤ v3 + 1 ∧ v3 + 1 ≤ 2147483647)) ∧ X 10 [.inr 1, .inl v1, .inl v2, .inl (v3 + 1)] [] M) ∧ (m_stands M v3 v1 → (((-2147483648 : Int) ≤ v2 + 1 ∧ v2 + 1 ≤ 2147483647) ∧ ((-2147483648 : Int) ≤ v3 + 1 ∧ v3 + 1 ≤ 2147483647)) ∧ X 10 [.inr 1, .inl v1, .inl (v2 + 1), .inl (v3 + 1)] [] M))))) :
    X 10 [.inr 1, .inl v1, .inl v2, .inl v3] [] M := by
  refine jk_load (pc := 10) hX 3 rfl rfl ?_
  refine jk_aload (pc := 11) hX 0 rfl rfl ?_
  refine jk_getR (pc := 12) hX 6 1 rfl rfl (r := 3) rfl ?_
  refine jk_getR (pc := 13) hX 3 0 rfl rfl (r := 4) rfl ?_
  refine jk_getI (pc := 14) hX 0 6 rfl rfl rfl ?_
  refine jk_cge (pc := 15) hX 25 rfl (fun q14 => ?_) (fun q15 => ?_)
  · have h1 := h.1 q14
    refine jk_load (pc := 25) hX 2 rfl rfl ?_
    exact jk_iret (pc := 26) hX rfl h1
  · have h2 := h.2 q15
    obtain ⟨g3, h13⟩ := h2
    refine jk_aload (pc := 16) hX 0 rfl rfl ?_
    refine jk_getR (pc := 17) hX 6 1 rfl rfl (r := 3) rfl ?_
    refine jk_load (pc := 18) hX 3 rfl rfl ?_
    refine jk_load (pc := 19) hX 1 rfl rfl ?_
    refine jk_cv (pc := 20) hX 19 2 3 rfl 4 [.inl v3, .inl v1] [] rfl rfl rfl (Nat.le_of_ble_eq_true rfl) (sp_M_standsAt (d + 1) v3 v1 M g3 ?_)
    show X 21 [.inr 1, .inl v1, .inl v2, .inl v3] [.inl (jx_b (m_stands M v3 v1))] M
    refine jk_zeqB (pc := 21) hX 23 rfl (fun q11 => ?_) (fun q12 => ?_)
    · have h4 := h13.1 q11
      obtain ⟨g6, h7⟩ := h4
      refine jk_iinc (pc := 23) hX 3 1 rfl rfl g6 (ls' := [.inr 1, .inl v1, .inl v2, .inl (v3 + 1)]) rfl ?_
      refine jk_goto (pc := 24) hX 10 rfl ?_
      exact h7
    · have h5 := h13.2 q12
      obtain ⟨⟨g8, g9⟩, h10⟩ := h5
      refine jk_iinc (pc := 22) hX 2 1 rfl rfl g8 (ls' := [.inr 1, .inl v1, .inl (v2 + 1), .inl v3]) rfl ?_
      refine jk_iinc (pc := 23) hX 3 1 rfl rfl g9 (ls' := [.inr 1, .inl v1, .inl (v2 + 1), .inl (v3 + 1)]) rfl ?_
      refine jk_goto (pc := 24) hX 10 rfl ?_
      exact h10
set_option maxHeartbeats 4000000 in
theorem bk_F_appendCharacter_0 {d : Nat} {K : jxK} {X : jxX} (hX : jx_clo jx_G2 (d + 1) (jx_call jx_G2 jx_T (d + 1)) kc_F_appendCharacter K X) (v1 : Int) (M : jxM)
    (h : (((0 : Int) ≤ v1 ∧ v1 ≤ (255 : Int) → (((M 1 4) ≠ 20 → ((0 ≤ (M 1 4) ∧ (M 1 4) < 20) ∧ ((-2147483648 : Int) ≤ (M 1 4) + 1 ∧ (M 1 4) + 1 ≤ 2147483647)) ∧ K (some (.inl (((M 1 4) + 1)))) (jx_up (jx_up M 4 (M 1 4) v1) 1 4 ((M 1 4) + 1))) ∧ ((M 1 4) = 20 → K (some (.inl (-3))) M))) ∧ (¬ ((0 : Int) ≤ v1 ∧ v1 ≤ (255 : Int)) → K (some (.inl (-1))) M))) :
    X 0 [.inr 1, .inl v1] [] M := by
  refine jk_load (pc := 0) hX 1 rfl rfl ?_
  refine jk_const (pc := 1) hX 0 rfl (by decide) ?_
  refine jk_const (pc := 2) hX 255 rfl (by decide) ?_
  refine jk_cs (pc := 3) hX 80 3 rfl [.inl v1, .inl 0, .inl 255] [] rfl rfl (Nat.le_of_ble_eq_true rfl) (sp_F_in d v1 (0 : Int) (255 : Int) M  ?_)
  show X 4 [.inr 1, .inl v1] [.inl (jx_b ((0 : Int) ≤ v1 ∧ v1 ≤ (255 : Int)))] M
  refine jk_zneB (pc := 4) hX 7 rfl (fun q10 => ?_) (fun q11 => ?_)
  · have h1 := h.1 q10
    refine jk_aload (pc := 7) hX 0 rfl rfl ?_
    refine jk_getI (pc := 8) hX 7 4 rfl rfl rfl ?_
    refine jk_const (pc := 9) hX 20 rfl (by decide) ?_
    refine jk_cne (pc := 10) hX 13 rfl (fun q8 => ?_) (fun q9 => ?_)
    · have h3 := h1.1 q8
      obtain ⟨⟨g5, g6⟩, h7⟩ := h3
      refine jk_aload (pc := 13) hX 0 rfl rfl ?_
      refine jk_getR (pc := 14) hX 7 3 rfl rfl (r := 3) rfl ?_
      refine jk_aload (pc := 15) hX 0 rfl rfl ?_
      refine jk_getI (pc := 16) hX 7 4 rfl rfl rfl ?_
      refine jk_load (pc := 17) hX 1 rfl rfl ?_
      refine jk_iast (pc := 18) hX 20 rfl rfl g5 ?_
      refine jk_aload (pc := 19) hX 0 rfl rfl ?_
      refine jk_dup (pc := 20) hX rfl ?_
      refine jk_getI (pc := 21) hX 7 4 rfl rfl rfl (jx_vX (jx_upc (by decide)) ?_)
      refine jk_const (pc := 22) hX 1 rfl (by decide) ?_
      refine jk_add (pc := 23) hX rfl g6 ?_
      refine jk_put (pc := 24) hX 7 4 rfl rfl rfl ?_
      refine jk_aload (pc := 25) hX 0 rfl rfl ?_
      refine jk_getI (pc := 26) hX 7 4 rfl rfl rfl (jx_vX (jx_ups) ?_)
      exact jk_iret (pc := 27) hX rfl h7
    · have h4 := h1.2 q9
      refine jk_const (pc := 11) hX (-3) rfl (by decide) ?_
      exact jk_iret (pc := 12) hX rfl h4
  · have h2 := h.2 q11
    refine jk_const (pc := 5) hX (-1) rfl (by decide) ?_
    exact jk_iret (pc := 6) hX rfl h2
set_option maxHeartbeats 4000000 in
theorem bk_F_wordOf_0 {d : Nat} {K : jxK} {X : jxX} (hX : jx_clo jx_G2 (d + 2) (jx_call jx_G2 jx_T (d + 2)) kc_F_wordOf K X) (v1 : Int) (M : jxM)
    (h : (((0 : Int) ≤ (M 2 0) ∧ (M 2 0) ≤ 20)) ∧ ((¬ (0 ≤ v1 ∧ v1 < (M 2 0)) → K (some (.inl (-1))) M) ∧ (0 ≤ v1 ∧ v1 < (M 2 0) → (((0 : Int) ≤ v1 ∧ v1 ≤ 20) ∧ ((-2147483648 : Int) ≤ (1 + 11 * v1) + 7 ∧ (1 + 11 * v1) + 7 ≤ 2147483647) ∧ (0 ≤ ((1 + 11 * v1) + 7) ∧ ((1 + 11 * v1) + 7) < 305)) ∧ K (some (.inl (M 2 ((1 + 11 * v1) + 7)))) M))) :
    X 0 [.inr 1, .inl v1] [] M := by
  obtain ⟨g1, h10⟩ := h
  refine jk_aload (pc := 0) hX 0 rfl rfl ?_
  refine jk_load (pc := 1) hX 1 rfl rfl ?_
  refine jk_cv (pc := 2) hX 87 1 7 rfl 1 [.inl v1] [] rfl rfl rfl (Nat.le_of_ble_eq_true rfl) (sp_F_isEntry d v1 M g1 ?_)
  show X 3 [.inr 1, .inl v1] [.inl (jx_b (0 ≤ v1 ∧ v1 < (M 2 0)))] M
  refine jk_zeqB (pc := 3) hX 12 rfl (fun q8 => ?_) (fun q9 => ?_)
  · have h2 := h10.1 q8
    refine jk_const (pc := 12) hX (-1) rfl (by decide) ?_
    exact jk_iret (pc := 13) hX rfl h2
  · have h3 := h10.2 q9
    obtain ⟨⟨g4, g5, g6⟩, h7⟩ := h3
    refine jk_aload (pc := 4) hX 0 rfl rfl ?_
    refine jk_getR (pc := 5) hX 7 0 rfl rfl (r := 1) rfl ?_
    refine jk_load (pc := 6) hX 1 rfl rfl ?_
    refine jk_cs (pc := 7) hX 86 1 rfl [.inl v1] [.inr 2] rfl rfl (Nat.le_of_ble_eq_true rfl) (sp_F_at (d + 1) v1 M g4 ?_)
    show X 8 [.inr 1, .inl v1] [.inl (1 + 11 * v1), .inr 2] M
    refine jk_const (pc := 8) hX 7 rfl (by decide) ?_
    refine jk_add (pc := 9) hX rfl g5 ?_
    refine jk_iald (pc := 10) hX 305 rfl rfl g6 ?_
    refine jk_goto (pc := 11) hX 13 rfl ?_
    exact jk_iret (pc := 13) hX rfl h7
set_option maxHeartbeats 4000000 in
theorem bk_F_costOf_0 {d : Nat} {K : jxK} {X : jxX} (hX : jx_clo jx_G2 (d + 2) (jx_call jx_G2 jx_T (d + 2)) kc_F_costOf K X) (v1 : Int) (M : jxM)
    (h : (((0 : Int) ≤ (M 2 0) ∧ (M 2 0) ≤ 20)) ∧ ((¬ (0 ≤ v1 ∧ v1 < (M 2 0)) → K (some (.inl (-1))) M) ∧ (0 ≤ v1 ∧ v1 < (M 2 0) → ((((0 : Int) ≤ v1 ∧ v1 < 20) ∧ ((0 : Int) ≤ (M 2 (1 + 11 * v1 + 9)) ∧ (M 2 (1 + 11 * v1 + 9)) ≤ 99) ∧ ((0 : Int) ≤ (M 2 (1 + 11 * v1 + 10)) ∧ (M 2 (1 + 11 * v1 + 10)) ≤ 9))) ∧ K (some (.inl (f_price (M 2) v1))) M))) :
    X 0 [.inr 1, .inl v1] [] M := by
  obtain ⟨g1, h8⟩ := h
  refine jk_aload (pc := 0) hX 0 rfl rfl ?_
  refine jk_load (pc := 1) hX 1 rfl rfl ?_
  refine jk_cv (pc := 2) hX 87 1 7 rfl 1 [.inl v1] [] rfl rfl rfl (Nat.le_of_ble_eq_true rfl) (sp_F_isEntry d v1 M g1 ?_)
  show X 3 [.inr 1, .inl v1] [.inl (jx_b (0 ≤ v1 ∧ v1 < (M 2 0)))] M
  refine jk_zeqB (pc := 3) hX 8 rfl (fun q6 => ?_) (fun q7 => ?_)
  · have h2 := h8.1 q6
    refine jk_const (pc := 8) hX (-1) rfl (by decide) ?_
    exact jk_iret (pc := 9) hX rfl h2
  · have h3 := h8.2 q7
    obtain ⟨g4, h5⟩ := h3
    refine jk_aload (pc := 4) hX 0 rfl rfl ?_
    refine jk_load (pc := 5) hX 1 rfl rfl ?_
    refine jk_cv (pc := 6) hX 93 1 7 rfl 1 [.inl v1] [] rfl rfl rfl (Nat.le_of_ble_eq_true rfl) (sp_F_price d v1 M g4 ?_)
    show X 7 [.inr 1, .inl v1] [.inl (f_price (M 2) v1)] M
    refine jk_goto (pc := 7) hX 9 rfl ?_
    exact jk_iret (pc := 9) hX rfl h5
set_option maxHeartbeats 4000000 in
theorem bk_F_useCount_0 {d : Nat} {K : jxK} {X : jxX} (hX : jx_clo jx_G2 (d + 2) (jx_call jx_G2 jx_T (d + 2)) kc_F_useCount K X) (v1 : Int) (M : jxM)
    (h : (((0 : Int) ≤ (M 2 0) ∧ (M 2 0) ≤ 20)) ∧ ((¬ (0 ≤ v1 ∧ v1 < (M 2 0)) → K (some (.inl (-1))) M) ∧ (0 ≤ v1 ∧ v1 < (M 2 0) → (((0 : Int) ≤ v1 ∧ v1 ≤ 20) ∧ ((-2147483648 : Int) ≤ (1 + 11 * v1) + 10 ∧ (1 + 11 * v1) + 10 ≤ 2147483647) ∧ (0 ≤ ((1 + 11 * v1) + 10) ∧ ((1 + 11 * v1) + 10) < 305)) ∧ K (some (.inl (M 2 ((1 + 11 * v1) + 10)))) M))) :
    X 0 [.inr 1, .inl v1] [] M := by
  obtain ⟨g1, h10⟩ := h
  refine jk_aload (pc := 0) hX 0 rfl rfl ?_
  refine jk_load (pc := 1) hX 1 rfl rfl ?_
  refine jk_cv (pc := 2) hX 87 1 7 rfl 1 [.inl v1] [] rfl rfl rfl (Nat.le_of_ble_eq_true rfl) (sp_F_isEntry d v1 M g1 ?_)
  show X 3 [.inr 1, .inl v1] [.inl (jx_b (0 ≤ v1 ∧ v1 < (M 2 0)))] M
  refine jk_zeqB (pc := 3) hX 12 rfl (fun q8 => ?_) (fun q9 => ?_)
  · have h2 := h10.1 q8
    refine jk_const (pc := 12) hX (-1) rfl (by decide) ?_
    exact jk_iret (pc := 13) hX rfl h2
  · have h3 := h10.2 q9
    obtain ⟨⟨g4, g5, g6⟩, h7⟩ := h3
    refine jk_aload (pc := 4) hX 0 rfl rfl ?_
    refine jk_getR (pc := 5) hX 7 0 rfl rfl (r := 1) rfl ?_
    refine jk_load (pc := 6) hX 1 rfl rfl ?_
    refine jk_cs (pc := 7) hX 86 1 rfl [.inl v1] [.inr 2] rfl rfl (Nat.le_of_ble_eq_true rfl) (sp_F_at (d + 1) v1 M g4 ?_)
    show X 8 [.inr 1, .inl v1] [.inl (1 + 11 * v1), .inr 2] M
    refine jk_const (pc := 8) hX 10 rfl (by decide) ?_
    refine jk_add (pc := 9) hX rfl g5 ?_
    refine jk_iald (pc := 10) hX 305 rfl rfl g6 ?_
    refine jk_goto (pc := 11) hX 13 rfl ?_
    exact jk_iret (pc := 13) hX rfl h7
set_option maxHeartbeats 4000000 in
theorem bk_F_entriesWithPrefix_0 {d : Nat} {K : jxK} {X : jxX} (hX : jx_clo jx_G2 (d + 2) (jx_call jx_G2 jx_T (d + 2)) kc_F_entriesWithPrefix K X) (M : jxM)
    (h : X 4 [.inr 1, .inl 0, .inl 0] [] M) :
    X 0 [.inr 1, .inr 0, .inr 0] [] M := by
  refine jk_const (pc := 0) hX 0 rfl (by decide) ?_
  refine jk_store (pc := 1) hX 1 rfl (Nat.le_of_ble_eq_true rfl) (ls' := [.inr 1, .inl 0, .inr 0]) rfl ?_
  refine jk_const (pc := 2) hX 0 rfl (by decide) ?_
  refine jk_store (pc := 3) hX 2 rfl (Nat.le_of_ble_eq_true rfl) (ls' := [.inr 1, .inl 0, .inl 0]) rfl ?_
  exact h
set_option maxHeartbeats 4000000 in
theorem bk_F_entriesWithPrefix_4 {d : Nat} {K : jxK} {X : jxX} (hX : jx_clo jx_G2 (d + 2) (jx_call jx_G2 jx_T (d + 2)) kc_F_entriesWithPrefix K X) (v1 : Int) (v2 : Int) (M : jxM)
    (h : (((M 2 0) ≤ v2 → K (some (.inl v1)) M) ∧ (v2 < (M 2 0) → ((((0 : Int) ≤ v2 ∧ v2 < 20) ∧ ((0 : Int) ≤ (M 1 4) ∧ (M 1 4) ≤ 20) ∧ (M 2 (1 + 11 * v2)) ≤ 6)) ∧ ((¬ (f_begins M v2) → (((-2147483648 : Int) ≤ v1 + 0 ∧ v1 + 0 ≤ 2147483647) ∧ ((-2147483648 : Int) ≤ v2 + 1 ∧ v2 + 1 ≤ 2147483647)) ∧ X 4 [.inr 1, .inl (v1 + 0), .inl (v2 + 1)] [] M) ∧ (f_begins M v2 → (((-2147483648 : Int) ≤ v1 + 1 ∧ v1 + 1 ≤ 2147483647) ∧ ((-2147483648 : Int) ≤ v2 + 1 ∧ v2 + 1 ≤ 2147483647)) ∧ X 4 [.inr 1, .inl (v1 + 1), .inl (v2 + 1)] [] M))))) :
    X 4 [.inr 1, .inl v1, .inl v2] [] M := by
  refine jk_load (pc := 4) hX 2 rfl rfl ?_
  refine jk_aload (pc := 5) hX 0 rfl rfl ?_
  refine jk_getR (pc := 6) hX 7 0 rfl rfl (r := 1) rfl ?_
  refine jk_const (pc := 7) hX 0 rfl (by decide) ?_
  refine jk_iald (pc := 8) hX 305 rfl rfl (by decide) ?_
  refine jk_cge (pc := 9) hX 22 rfl (fun q15 => ?_) (fun q16 => ?_)
  · have h1 := h.1 q15
    refine jk_load (pc := 22) hX 1 rfl rfl ?_
    exact jk_iret (pc := 23) hX rfl h1
  · have h2 := h.2 q16
    obtain ⟨g3, h14⟩ := h2
    refine jk_load (pc := 10) hX 1 rfl rfl ?_
    refine jk_aload (pc := 11) hX 0 rfl rfl ?_
    refine jk_load (pc := 12) hX 2 rfl rfl ?_
    refine jk_cv (pc := 13) hX 88 1 7 rfl 1 [.inl v2] [.inl v1] rfl rfl rfl (Nat.le_of_ble_eq_true rfl) (sp_F_begins d v2 M g3 ?_)
    show X 14 [.inr 1, .inl v1, .inl v2] [.inl (jx_b (f_begins M v2)), .inl v1] M
    refine jk_zeqB (pc := 14) hX 17 rfl (fun q12 => ?_) (fun q13 => ?_)
    · have h4 := h14.1 q12
      obtain ⟨⟨g6, g7⟩, h8⟩ := h4
      refine jk_const (pc := 17) hX 0 rfl (by decide) ?_
      refine jk_add (pc := 18) hX rfl g6 ?_
      refine jk_store (pc := 19) hX 1 rfl (Nat.le_of_ble_eq_true rfl) (ls' := [.inr 1, .inl (v1 + 0), .inl v2]) rfl ?_
      refine jk_iinc (pc := 20) hX 2 1 rfl rfl g7 (ls' := [.inr 1, .inl (v1 + 0), .inl (v2 + 1)]) rfl ?_
      refine jk_goto (pc := 21) hX 4 rfl ?_
      exact h8
    · have h5 := h14.2 q13
      obtain ⟨⟨g9, g10⟩, h11⟩ := h5
      refine jk_const (pc := 15) hX 1 rfl (by decide) ?_
      refine jk_goto (pc := 16) hX 18 rfl ?_
      refine jk_add (pc := 18) hX rfl g9 ?_
      refine jk_store (pc := 19) hX 1 rfl (Nat.le_of_ble_eq_true rfl) (ls' := [.inr 1, .inl (v1 + 1), .inl v2]) rfl ?_
      refine jk_iinc (pc := 20) hX 2 1 rfl rfl g10 (ls' := [.inr 1, .inl (v1 + 1), .inl (v2 + 1)]) rfl ?_
      refine jk_goto (pc := 21) hX 4 rfl ?_
      exact h11
set_option maxHeartbeats 4000000 in
theorem bk_F_segmentsAt_0 {d : Nat} {K : jxK} {X : jxX} (hX : jx_clo jx_G2 (d + 2) (jx_call jx_G2 jx_T (d + 2)) kc_F_segmentsAt K X) (v1 : Int) (M : jxM)
    (h : (((0 : Int) ≤ v1 ∧ v1 ≤ (M 2 271) → X 14 [.inr 1, .inl v1, .inl 0, .inl 0] [] M) ∧ (¬ ((0 : Int) ≤ v1 ∧ v1 ≤ (M 2 271)) → K (some (.inl (-1))) M))) :
    X 0 [.inr 1, .inl v1, .inr 0, .inr 0] [] M := by
  refine jk_load (pc := 0) hX 1 rfl rfl ?_
  refine jk_const (pc := 1) hX 0 rfl (by decide) ?_
  refine jk_aload (pc := 2) hX 0 rfl rfl ?_
  refine jk_getR (pc := 3) hX 7 0 rfl rfl (r := 1) rfl ?_
  refine jk_const (pc := 4) hX 271 rfl (by decide) ?_
  refine jk_iald (pc := 5) hX 305 rfl rfl (by decide) ?_
  refine jk_cs (pc := 6) hX 80 3 rfl [.inl v1, .inl 0, .inl (M 2 271)] [] rfl rfl (Nat.le_of_ble_eq_true rfl) (sp_F_in (d + 1) v1 (0 : Int) (M 2 271) M  ?_)
  show X 7 [.inr 1, .inl v1, .inr 0, .inr 0] [.inl (jx_b ((0 : Int) ≤ v1 ∧ v1 ≤ (M 2 271)))] M
  refine jk_zneB (pc := 7) hX 10 rfl (fun q3 => ?_) (fun q4 => ?_)
  · have h1 := h.1 q3
    refine jk_const (pc := 10) hX 0 rfl (by decide) ?_
    refine jk_store (pc := 11) hX 2 rfl (Nat.le_of_ble_eq_true rfl) (ls' := [.inr 1, .inl v1, .inl 0, .inr 0]) rfl ?_
    refine jk_const (pc := 12) hX 0 rfl (by decide) ?_
    refine jk_store (pc := 13) hX 3 rfl (Nat.le_of_ble_eq_true rfl) (ls' := [.inr 1, .inl v1, .inl 0, .inl 0]) rfl ?_
    exact h1
  · have h2 := h.2 q4
    refine jk_const (pc := 8) hX (-1) rfl (by decide) ?_
    exact jk_iret (pc := 9) hX rfl h2
set_option maxHeartbeats 4000000 in
theorem bk_F_segmentsAt_14 {d : Nat} {K : jxK} {X : jxX} (hX : jx_clo jx_G2 (d + 2) (jx_call jx_G2 jx_T (d + 2)) kc_F_segmentsAt K X) (v1 : Int) (v2 : Int) (v3 : Int) (M : jxM)
    (h : (((M 2 0) ≤ v3 → K (some (.inl v2)) M) ∧ (v3 < (M 2 0) → ((((0 : Int) ≤ v3 ∧ v3 < 20) ∧ ((0 : Int) ≤ (M 2 (1 + 11 * v3)) ∧ (M 2 (1 + 11 * v3)) ≤ 6) ∧ (M 2 271) ≤ 16 ∧ (0 : Int) ≤ v1 ∧ v1 ≤ 16)) ∧ ((¬ (f_stands (M 2) v3 v1) → (((-2147483648 : Int) ≤ v2 + 0 ∧ v2 + 0 ≤ 2147483647) ∧ ((-2147483648 : Int) ≤ v3 + 1 ∧ v3 + 1 ≤ 2147483647)) ∧ X 14 [.inr 1, .inl v1, .inl (v2 + 0), .inl (v3 + 1)] [] M) ∧ (f_stands (M 2) v3 v1 → (((-2147483648 : Int) ≤ v2 + 1 ∧ v2 + 1 ≤ 2147483647) ∧ ((-2147483648 : Int) ≤ v3 + 1 ∧ v3 + 1 ≤ 2147483647)) ∧ X 14 [.inr 1, .inl v1, .inl (v2 + 1), .inl (v3 + 1)] [] M))))) :
    X 14 [.inr 1, .inl v1, .inl v2, .inl v3] [] M := by
  refine jk_load (pc := 14) hX 3 rfl rfl ?_
  refine jk_aload (pc := 15) hX 0 rfl rfl ?_
  refine jk_getR (pc := 16) hX 7 0 rfl rfl (r := 1) rfl ?_
  refine jk_const (pc := 17) hX 0 rfl (by decide) ?_
  refine jk_iald (pc := 18) hX 305 rfl rfl (by decide) ?_
  refine jk_cge (pc := 19) hX 33 rfl (fun q15 => ?_) (fun q16 => ?_)
  · have h1 := h.1 q15
    refine jk_load (pc := 33) hX 2 rfl rfl ?_
    exact jk_iret (pc := 34) hX rfl h1
  · have h2 := h.2 q16
    obtain ⟨g3, h14⟩ := h2
    refine jk_load (pc := 20) hX 2 rfl rfl ?_
    refine jk_aload (pc := 21) hX 0 rfl rfl ?_
    refine jk_load (pc := 22) hX 3 rfl rfl ?_
    refine jk_load (pc := 23) hX 1 rfl rfl ?_
    refine jk_cv (pc := 24) hX 103 2 7 rfl 1 [.inl v3, .inl v1] [.inl v2] rfl rfl rfl (Nat.le_of_ble_eq_true rfl) (sp_F_stands d v3 v1 M g3 ?_)
    show X 25 [.inr 1, .inl v1, .inl v2, .inl v3] [.inl (jx_b (f_stands (M 2) v3 v1)), .inl v2] M
    refine jk_zeqB (pc := 25) hX 28 rfl (fun q12 => ?_) (fun q13 => ?_)
    · have h4 := h14.1 q12
      obtain ⟨⟨g6, g7⟩, h8⟩ := h4
      refine jk_const (pc := 28) hX 0 rfl (by decide) ?_
      refine jk_add (pc := 29) hX rfl g6 ?_
      refine jk_store (pc := 30) hX 2 rfl (Nat.le_of_ble_eq_true rfl) (ls' := [.inr 1, .inl v1, .inl (v2 + 0), .inl v3]) rfl ?_
      refine jk_iinc (pc := 31) hX 3 1 rfl rfl g7 (ls' := [.inr 1, .inl v1, .inl (v2 + 0), .inl (v3 + 1)]) rfl ?_
      refine jk_goto (pc := 32) hX 14 rfl ?_
      exact h8
    · have h5 := h14.2 q13
      obtain ⟨⟨g9, g10⟩, h11⟩ := h5
      refine jk_const (pc := 26) hX 1 rfl (by decide) ?_
      refine jk_goto (pc := 27) hX 29 rfl ?_
      refine jk_add (pc := 29) hX rfl g9 ?_
      refine jk_store (pc := 30) hX 2 rfl (Nat.le_of_ble_eq_true rfl) (ls' := [.inr 1, .inl v1, .inl (v2 + 1), .inl v3]) rfl ?_
      refine jk_iinc (pc := 31) hX 3 1 rfl rfl g10 (ls' := [.inr 1, .inl v1, .inl (v2 + 1), .inl (v3 + 1)]) rfl ?_
      refine jk_goto (pc := 32) hX 14 rfl ?_
      exact h11
set_option maxHeartbeats 4000000 in
theorem bk_F_segmentCost_0 {d : Nat} {K : jxK} {X : jxX} (hX : jx_clo jx_G2 (d + 2) (jx_call jx_G2 jx_T (d + 2)) kc_F_segmentCost K X) (v1 : Int) (M : jxM)
    (h : ((v1 ≠ (-5) → ((((0 : Int) ≤ v1 ∧ v1 < 20) ∧ ((0 : Int) ≤ (M 2 (1 + 11 * v1 + 9)) ∧ (M 2 (1 + 11 * v1 + 9)) ≤ 99) ∧ ((0 : Int) ≤ (M 2 (1 + 11 * v1 + 10)) ∧ (M 2 (1 + 11 * v1 + 10)) ≤ 9))) ∧ K (some (.inl (f_price (M 2) v1))) M) ∧ (v1 = (-5) → K (some (.inl (M 2 270))) M))) :
    X 0 [.inr 1, .inl v1] [] M := by
  refine jk_load (pc := 0) hX 1 rfl rfl ?_
  refine jk_const (pc := 1) hX (-5) rfl (by decide) ?_
  refine jk_cne (pc := 2) hX 8 rfl (fun q5 => ?_) (fun q6 => ?_)
  · have h1 := h.1 q5
    obtain ⟨g3, h4⟩ := h1
    refine jk_aload (pc := 8) hX 0 rfl rfl ?_
    refine jk_load (pc := 9) hX 1 rfl rfl ?_
    refine jk_cv (pc := 10) hX 93 1 7 rfl 1 [.inl v1] [] rfl rfl rfl (Nat.le_of_ble_eq_true rfl) (sp_F_price d v1 M g3 ?_)
    show X 11 [.inr 1, .inl v1] [.inl (f_price (M 2) v1)] M
    exact jk_iret (pc := 11) hX rfl h4
  · have h2 := h.2 q6
    refine jk_aload (pc := 3) hX 0 rfl rfl ?_
    refine jk_getR (pc := 4) hX 7 0 rfl rfl (r := 1) rfl ?_
    refine jk_const (pc := 5) hX 270 rfl (by decide) ?_
    refine jk_iald (pc := 6) hX 305 rfl rfl (by decide) ?_
    refine jk_goto (pc := 7) hX 11 rfl ?_
    exact jk_iret (pc := 11) hX rfl h2
set_option maxHeartbeats 4000000 in
theorem bk_F_addEntry_0 {d : Nat} {K : jxK} {X : jxX} (hX : jx_clo jx_G2 (d + 2) (jx_call jx_G2 jx_T (d + 2)) kc_F_addEntry K X) (v1 : Int) (v2 : Int) (v3 : Int) (M : jxM)
    (h : ((¬ ((0 : Int) ≤ v1 ∧ v1 ≤ (99 : Int)) → K (some (.inl (-1))) M) ∧ ((0 : Int) ≤ v1 ∧ v1 ≤ (99 : Int) → ((¬ ((0 : Int) ≤ v2 ∧ v2 ≤ (4 : Int)) → K (some (.inl (-1))) M) ∧ ((0 : Int) ≤ v2 ∧ v2 ≤ (4 : Int) → (((0 : Int) ≤ v3 ∧ v3 ≤ (99 : Int) → X 19 [.inr 1, .inl v1, .inl v2, .inl v3, .inl 0, .inr 0, .inr 0] [] M) ∧ (¬ ((0 : Int) ≤ v3 ∧ v3 ≤ (99 : Int)) → K (some (.inl (-1))) M))))))) :
    X 0 [.inr 1, .inl v1, .inl v2, .inl v3, .inr 0, .inr 0, .inr 0] [] M := by
  refine jk_load (pc := 0) hX 1 rfl rfl ?_
  refine jk_const (pc := 1) hX 0 rfl (by decide) ?_
  refine jk_const (pc := 2) hX 99 rfl (by decide) ?_
  refine jk_cs (pc := 3) hX 80 3 rfl [.inl v1, .inl 0, .inl 99] [] rfl rfl (Nat.le_of_ble_eq_true rfl) (sp_F_in (d + 1) v1 (0 : Int) (99 : Int) M  ?_)
  show X 4 [.inr 1, .inl v1, .inl v2, .inl v3, .inr 0, .inr 0, .inr 0] [.inl (jx_b ((0 : Int) ≤ v1 ∧ v1 ≤ (99 : Int)))] M
  refine jk_zeqB (pc := 4) hX 15 rfl (fun q11 => ?_) (fun q12 => ?_)
  · have h1 := h.1 q11
    refine jk_const (pc := 15) hX (-1) rfl (by decide) ?_
    exact jk_iret (pc := 16) hX rfl h1
  · have h2 := h.2 q12
    refine jk_load (pc := 5) hX 2 rfl rfl ?_
    refine jk_const (pc := 6) hX 0 rfl (by decide) ?_
    refine jk_const (pc := 7) hX 4 rfl (by decide) ?_
    refine jk_cs (pc := 8) hX 80 3 rfl [.inl v2, .inl 0, .inl 4] [] rfl rfl (Nat.le_of_ble_eq_true rfl) (sp_F_in (d + 1) v2 (0 : Int) (4 : Int) M  ?_)
    show X 9 [.inr 1, .inl v1, .inl v2, .inl v3, .inr 0, .inr 0, .inr 0] [.inl (jx_b ((0 : Int) ≤ v2 ∧ v2 ≤ (4 : Int)))] M
    refine jk_zeqB (pc := 9) hX 15 rfl (fun q9 => ?_) (fun q10 => ?_)
    · have h3 := h2.1 q9
      refine jk_const (pc := 15) hX (-1) rfl (by decide) ?_
      exact jk_iret (pc := 16) hX rfl h3
    · have h4 := h2.2 q10
      refine jk_load (pc := 10) hX 3 rfl rfl ?_
      refine jk_const (pc := 11) hX 0 rfl (by decide) ?_
      refine jk_const (pc := 12) hX 99 rfl (by decide) ?_
      refine jk_cs (pc := 13) hX 80 3 rfl [.inl v3, .inl 0, .inl 99] [] rfl rfl (Nat.le_of_ble_eq_true rfl) (sp_F_in (d + 1) v3 (0 : Int) (99 : Int) M  ?_)
      show X 14 [.inr 1, .inl v1, .inl v2, .inl v3, .inr 0, .inr 0, .inr 0] [.inl (jx_b ((0 : Int) ≤ v3 ∧ v3 ≤ (99 : Int)))] M
      refine jk_zneB (pc := 14) hX 17 rfl (fun q7 => ?_) (fun q8 => ?_)
      · have h5 := h4.1 q7
        refine jk_const (pc := 17) hX 0 rfl (by decide) ?_
        refine jk_store (pc := 18) hX 4 rfl (Nat.le_of_ble_eq_true rfl) (ls' := [.inr 1, .inl v1, .inl v2, .inl v3, .inl 0, .inr 0, .inr 0]) rfl ?_
        exact h5
      · have h6 := h4.2 q8
        refine jk_const (pc := 15) hX (-1) rfl (by decide) ?_
        exact jk_iret (pc := 16) hX rfl h6
set_option maxHeartbeats 4000000 in
theorem bk_F_addEntry_19 {d : Nat} {K : jxK} {X : jxX} (hX : jx_clo jx_G2 (d + 2) (jx_call jx_G2 jx_T (d + 2)) kc_F_addEntry K X) (v1 : Int) (v2 : Int) (v3 : Int) (v4 : Int) (M : jxM)
    (h : (((M 2 0) ≤ v4 → (((M 2 0) ≠ 20 → (((M 1 4) ≠ 0 → ((((0 : Int) ≤ (M 1 4) ∧ (M 1 4) ≤ 20) ∧ (0 : Int) ≤ (6 : Int))) ∧ (((t_err (M 4) (6 : Int) (-9) 0 ((M 1 4)).toNat) = (-9) → jx_call jx_G2 jx_T (d + 2) 81 [.inr 1] M (fun r M11 => r = none ∧ (((0 : Int) ≤ (M11 2 0) ∧ (M11 2 0) ≤ 20) ∧ (0 ≤ (1 + 11 * (M11 2 0)) ∧ (1 + 11 * (M11 2 0)) < 305)) ∧ X 99 [.inr 1, .inl v1, .inl v2, .inl v3, .inl (t_err (M 4) (6 : Int) (-9) 0 ((M 1 4)).toNat), .inl (1 + 11 * (M11 2 0)), .inl 0] [] (jx_up M11 2 (1 + 11 * (M11 2 0)) (M11 1 4)))) ∧ ((t_err (M 4) (6 : Int) (-9) 0 ((M 1 4)).toNat) ≠ (-9) → (((-2147483648 : Int) ≤ (-10) - (t_err (M 4) (6 : Int) (-9) 0 ((M 1 4)).toNat) ∧ (-10) - (t_err (M 4) (6 : Int) (-9) 0 ((M 1 4)).toNat) ≤ 2147483647)) ∧ K (some (.inl ((-10) - (t_err (M 4) (6 : Int) (-9) 0 ((M 1 4)).toNat)))) M))) ∧ ((M 1 4) = 0 → K (some (.inl (-10))) M))) ∧ ((M 2 0) = 20 → K (some (.inl (-3))) M))) ∧ (v4 < (M 2 0) → (((0 : Int) ≤ v4 ∧ v4 ≤ 20) ∧ (0 ≤ (1 + 11 * v4) ∧ (1 + 11 * v4) < 305)) ∧ (((M 2 (1 + 11 * v4)) ≠ (M 1 4) → (((-2147483648 : Int) ≤ v4 + 1 ∧ v4 + 1 ≤ 2147483647)) ∧ X 19 [.inr 1, .inl v1, .inl v2, .inl v3, .inl (v4 + 1), .inr 0, .inr 0] [] M) ∧ ((M 2 (1 + 11 * v4)) = (M 1 4) → ((((0 : Int) ≤ v4 ∧ v4 < 20) ∧ ((0 : Int) ≤ (M 1 4) ∧ (M 1 4) ≤ 20) ∧ (M 2 (1 + 11 * v4)) ≤ 6)) ∧ ((¬ (f_begins M v4) → (((-2147483648 : Int) ≤ v4 + 1 ∧ v4 + 1 ≤ 2147483647)) ∧ X 19 [.inr 1, .inl v1, .inl v2, .inl v3, .inl (v4 + 1), .inr 0, .inr 0] [] M) ∧ (f_begins M v4 → (((0 : Int) ≤ v4 ∧ v4 ≤ 20) ∧ ((-2147483648 : Int) ≤ (1 + 11 * v4) + 7 ∧ (1 + 11 * v4) + 7 ≤ 2147483647) ∧ (0 ≤ ((1 + 11 * v4) + 7) ∧ ((1 + 11 * v4) + 7) < 305)) ∧ (((M 2 ((1 + 11 * v4) + 7)) ≠ v1 → (((-2147483648 : Int) ≤ v4 + 1 ∧ v4 + 1 ≤ 2147483647)) ∧ X 19 [.inr 1, .inl v1, .inl v2, .inl v3, .inl (v4 + 1), .inr 0, .inr 0] [] M) ∧ ((M 2 ((1 + 11 * v4) + 7)) = v1 → (((0 : Int) ≤ v4 ∧ v4 ≤ 20) ∧ ((-2147483648 : Int) ≤ (1 + 11 * v4) + 8 ∧ (1 + 11 * v4) + 8 ≤ 2147483647) ∧ (0 ≤ ((1 + 11 * v4) + 8) ∧ ((1 + 11 * v4) + 8) < 305)) ∧ (((M 2 ((1 + 11 * v4) + 8)) ≠ v2 → (((-2147483648 : Int) ≤ v4 + 1 ∧ v4 + 1 ≤ 2147483647)) ∧ X 19 [.inr 1, .inl v1, .inl v2, .inl v3, .inl (v4 + 1), .inr 0, .inr 0] [] M) ∧ ((M 2 ((1 + 11 * v4) + 8)) = v2 → K (some (.inl (-2))) M))))))))))) :
    X 19 [.inr 1, .inl v1, .inl v2, .inl v3, .inl v4, .inr 0, .inr 0] [] M := by
  refine jk_load (pc := 19) hX 4 rfl rfl ?_
  refine jk_aload (pc := 20) hX 0 rfl rfl ?_
  refine jk_getR (pc := 21) hX 7 0 rfl rfl (r := 1) rfl ?_
  refine jk_const (pc := 22) hX 0 rfl (by decide) ?_
  refine jk_iald (pc := 23) hX 305 rfl rfl (by decide) ?_
  refine jk_cge (pc := 24) hX 59 rfl (fun q62 => ?_) (fun q63 => ?_)
  · have h1 := h.1 q62
    refine jk_aload (pc := 59) hX 0 rfl rfl ?_
    refine jk_getR (pc := 60) hX 7 0 rfl rfl (r := 1) rfl ?_
    refine jk_const (pc := 61) hX 0 rfl (by decide) ?_
    refine jk_iald (pc := 62) hX 305 rfl rfl (by decide) ?_
    refine jk_const (pc := 63) hX 20 rfl (by decide) ?_
    refine jk_cne (pc := 64) hX 67 rfl (fun q23 => ?_) (fun q24 => ?_)
    · have h3 := h1.1 q23
      refine jk_aload (pc := 67) hX 0 rfl rfl ?_
      refine jk_getI (pc := 68) hX 7 4 rfl rfl rfl ?_
      refine jk_zne (pc := 69) hX 72 rfl (fun q21 => ?_) (fun q22 => ?_)
      · have h5 := h3.1 q21
        obtain ⟨g7, h20⟩ := h5
        refine jk_aload (pc := 72) hX 0 rfl rfl ?_
        refine jk_const (pc := 73) hX 6 rfl (by decide) ?_
        refine jk_cv (pc := 74) hX 85 1 7 rfl 1 [.inl 6] [] rfl rfl rfl (Nat.le_of_ble_eq_true rfl) (sp_F_fault d (6 : Int) M g7 ?_)
        show X 75 [.inr 1, .inl v1, .inl v2, .inl v3, .inl v4, .inr 0, .inr 0] [.inl (t_err (M 4) (6 : Int) (-9) 0 ((M 1 4)).toNat)] M
        refine jk_store (pc := 75) hX 4 rfl (Nat.le_of_ble_eq_true rfl) (ls' := [.inr 1, .inl v1, .inl v2, .inl v3, .inl (t_err (M 4) (6 : Int) (-9) 0 ((M 1 4)).toNat), .inr 0, .inr 0]) rfl ?_
        refine jk_load (pc := 76) hX 4 rfl rfl ?_
        refine jk_const (pc := 77) hX (-9) rfl (by decide) ?_
        refine jk_ceq (pc := 78) hX 83 rfl (fun q18 => ?_) (fun q19 => ?_)
        · have h8 := h20.1 q18
          refine jk_aload (pc := 83) hX 0 rfl rfl ?_
          refine jk_cv (pc := 84) hX 81 0 7 rfl 1 [] [] rfl rfl rfl (Nat.le_of_ble_eq_true rfl) (jx_mono (fun r M11 hr => ?_) h8)
          obtain ⟨rfl, h12⟩ := hr
          show X 85 [.inr 1, .inl v1, .inl v2, .inl v3, .inl (t_err (M 4) (6 : Int) (-9) 0 ((M 1 4)).toNat), .inr 0, .inr 0] [] M11
          obtain ⟨⟨g13, g14⟩, h15⟩ := h12
          refine jk_aload (pc := 85) hX 0 rfl rfl ?_
          refine jk_getR (pc := 86) hX 7 0 rfl rfl (r := 1) rfl ?_
          refine jk_const (pc := 87) hX 0 rfl (by decide) ?_
          refine jk_iald (pc := 88) hX 305 rfl rfl (by decide) ?_
          refine jk_cs (pc := 89) hX 86 1 rfl [.inl (M11 2 0)] [] rfl rfl (Nat.le_of_ble_eq_true rfl) (sp_F_at (d + 1) (M11 2 0) M11 g13 ?_)
          show X 90 [.inr 1, .inl v1, .inl v2, .inl v3, .inl (t_err (M 4) (6 : Int) (-9) 0 ((M 1 4)).toNat), .inr 0, .inr 0] [.inl (1 + 11 * (M11 2 0))] M11
          refine jk_store (pc := 90) hX 5 rfl (Nat.le_of_ble_eq_true rfl) (ls' := [.inr 1, .inl v1, .inl v2, .inl v3, .inl (t_err (M 4) (6 : Int) (-9) 0 ((M 1 4)).toNat), .inl (1 + 11 * (M11 2 0)), .inr 0]) rfl ?_
          refine jk_aload (pc := 91) hX 0 rfl rfl ?_
          refine jk_getR (pc := 92) hX 7 0 rfl rfl (r := 1) rfl ?_
          refine jk_load (pc := 93) hX 5 rfl rfl ?_
          refine jk_aload (pc := 94) hX 0 rfl rfl ?_
          refine jk_getI (pc := 95) hX 7 4 rfl rfl rfl ?_
          refine jk_iast (pc := 96) hX 305 rfl rfl g14 ?_
          refine jk_const (pc := 97) hX 0 rfl (by decide) ?_
          refine jk_store (pc := 98) hX 6 rfl (Nat.le_of_ble_eq_true rfl) (ls' := [.inr 1, .inl v1, .inl v2, .inl v3, .inl (t_err (M 4) (6 : Int) (-9) 0 ((M 1 4)).toNat), .inl (1 + 11 * (M11 2 0)), .inl 0]) rfl ?_
          exact h15
        · have h9 := h20.2 q19
          obtain ⟨g16, h17⟩ := h9
          refine jk_const (pc := 79) hX (-10) rfl (by decide) ?_
          refine jk_load (pc := 80) hX 4 rfl rfl ?_
          refine jk_sub (pc := 81) hX rfl g16 ?_
          exact jk_iret (pc := 82) hX rfl h17
      · have h6 := h3.2 q22
        refine jk_const (pc := 70) hX 0 rfl (by decide) ?_
        refine jk_goto (pc := 71) hX 75 rfl ?_
        refine jk_store (pc := 75) hX 4 rfl (Nat.le_of_ble_eq_true rfl) (ls' := [.inr 1, .inl v1, .inl v2, .inl v3, .inl 0, .inr 0, .inr 0]) rfl ?_
        refine jk_load (pc := 76) hX 4 rfl rfl ?_
        refine jk_const (pc := 77) hX (-9) rfl (by decide) ?_
        refine jk_ceq (pc := 78) hX 83 rfl (fun q => absurd q (by decide)) (fun _ => ?_)
        refine jk_const (pc := 79) hX (-10) rfl (by decide) ?_
        refine jk_load (pc := 80) hX 4 rfl rfl ?_
        refine jk_sub (pc := 81) hX rfl (by decide) ?_
        exact jk_iret (pc := 82) hX rfl h6
    · have h4 := h1.2 q24
      refine jk_const (pc := 65) hX (-3) rfl (by decide) ?_
      exact jk_iret (pc := 66) hX rfl h4
  · have h2 := h.2 q63
    obtain ⟨⟨g25, g26⟩, h61⟩ := h2
    refine jk_aload (pc := 25) hX 0 rfl rfl ?_
    refine jk_getR (pc := 26) hX 7 0 rfl rfl (r := 1) rfl ?_
    refine jk_load (pc := 27) hX 4 rfl rfl ?_
    refine jk_cs (pc := 28) hX 86 1 rfl [.inl v4] [.inr 2] rfl rfl (Nat.le_of_ble_eq_true rfl) (sp_F_at (d + 1) v4 M g25 ?_)
    show X 29 [.inr 1, .inl v1, .inl v2, .inl v3, .inl v4, .inr 0, .inr 0] [.inl (1 + 11 * v4), .inr 2] M
    refine jk_iald (pc := 29) hX 305 rfl rfl g26 ?_
    refine jk_aload (pc := 30) hX 0 rfl rfl ?_
    refine jk_getI (pc := 31) hX 7 4 rfl rfl rfl ?_
    refine jk_cne (pc := 32) hX 57 rfl (fun q59 => ?_) (fun q60 => ?_)
    · have h27 := h61.1 q59
      obtain ⟨g29, h30⟩ := h27
      refine jk_iinc (pc := 57) hX 4 1 rfl rfl g29 (ls' := [.inr 1, .inl v1, .inl v2, .inl v3, .inl (v4 + 1), .inr 0, .inr 0]) rfl ?_
      refine jk_goto (pc := 58) hX 19 rfl ?_
      exact h30
    · have h28 := h61.2 q60
      obtain ⟨g31, h58⟩ := h28
      refine jk_aload (pc := 33) hX 0 rfl rfl ?_
      refine jk_load (pc := 34) hX 4 rfl rfl ?_
      refine jk_cv (pc := 35) hX 88 1 7 rfl 1 [.inl v4] [] rfl rfl rfl (Nat.le_of_ble_eq_true rfl) (sp_F_begins d v4 M g31 ?_)
      show X 36 [.inr 1, .inl v1, .inl v2, .inl v3, .inl v4, .inr 0, .inr 0] [.inl (jx_b (f_begins M v4))] M
      refine jk_zeqB (pc := 36) hX 57 rfl (fun q56 => ?_) (fun q57 => ?_)
      · have h32 := h58.1 q56
        obtain ⟨g34, h35⟩ := h32
        refine jk_iinc (pc := 57) hX 4 1 rfl rfl g34 (ls' := [.inr 1, .inl v1, .inl v2, .inl v3, .inl (v4 + 1), .inr 0, .inr 0]) rfl ?_
        refine jk_goto (pc := 58) hX 19 rfl ?_
        exact h35
      · have h33 := h58.2 q57
        obtain ⟨⟨g36, g37, g38⟩, h55⟩ := h33
        refine jk_aload (pc := 37) hX 0 rfl rfl ?_
        refine jk_getR (pc := 38) hX 7 0 rfl rfl (r := 1) rfl ?_
        refine jk_load (pc := 39) hX 4 rfl rfl ?_
        refine jk_cs (pc := 40) hX 86 1 rfl [.inl v4] [.inr 2] rfl rfl (Nat.le_of_ble_eq_true rfl) (sp_F_at (d + 1) v4 M g36 ?_)
        show X 41 [.inr 1, .inl v1, .inl v2, .inl v3, .inl v4, .inr 0, .inr 0] [.inl (1 + 11 * v4), .inr 2] M
        refine jk_const (pc := 41) hX 7 rfl (by decide) ?_
        refine jk_add (pc := 42) hX rfl g37 ?_
        refine jk_iald (pc := 43) hX 305 rfl rfl g38 ?_
        refine jk_load (pc := 44) hX 1 rfl rfl ?_
        refine jk_cne (pc := 45) hX 57 rfl (fun q53 => ?_) (fun q54 => ?_)
        · have h39 := h55.1 q53
          obtain ⟨g41, h42⟩ := h39
          refine jk_iinc (pc := 57) hX 4 1 rfl rfl g41 (ls' := [.inr 1, .inl v1, .inl v2, .inl v3, .inl (v4 + 1), .inr 0, .inr 0]) rfl ?_
          refine jk_goto (pc := 58) hX 19 rfl ?_
          exact h42
        · have h40 := h55.2 q54
          obtain ⟨⟨g43, g44, g45⟩, h52⟩ := h40
          refine jk_aload (pc := 46) hX 0 rfl rfl ?_
          refine jk_getR (pc := 47) hX 7 0 rfl rfl (r := 1) rfl ?_
          refine jk_load (pc := 48) hX 4 rfl rfl ?_
          refine jk_cs (pc := 49) hX 86 1 rfl [.inl v4] [.inr 2] rfl rfl (Nat.le_of_ble_eq_true rfl) (sp_F_at (d + 1) v4 M g43 ?_)
          show X 50 [.inr 1, .inl v1, .inl v2, .inl v3, .inl v4, .inr 0, .inr 0] [.inl (1 + 11 * v4), .inr 2] M
          refine jk_const (pc := 50) hX 8 rfl (by decide) ?_
          refine jk_add (pc := 51) hX rfl g44 ?_
          refine jk_iald (pc := 52) hX 305 rfl rfl g45 ?_
          refine jk_load (pc := 53) hX 2 rfl rfl ?_
          refine jk_cne (pc := 54) hX 57 rfl (fun q50 => ?_) (fun q51 => ?_)
          · have h46 := h52.1 q50
            obtain ⟨g48, h49⟩ := h46
            refine jk_iinc (pc := 57) hX 4 1 rfl rfl g48 (ls' := [.inr 1, .inl v1, .inl v2, .inl v3, .inl (v4 + 1), .inr 0, .inr 0]) rfl ?_
            refine jk_goto (pc := 58) hX 19 rfl ?_
            exact h49
          · have h47 := h52.2 q51
            refine jk_const (pc := 55) hX (-2) rfl (by decide) ?_
            exact jk_iret (pc := 56) hX rfl h47
set_option maxHeartbeats 4000000 in
theorem bk_F_addEntry_99 {d : Nat} {K : jxK} {X : jxX} (hX : jx_clo jx_G2 (d + 2) (jx_call jx_G2 jx_T (d + 2)) kc_F_addEntry K X) (v1 : Int) (v2 : Int) (v3 : Int) (v4 : Int) (v5 : Int) (v6 : Int) (M : jxM)
    (h : ((6 ≤ v6 → (((-2147483648 : Int) ≤ v5 + 7 ∧ v5 + 7 ≤ 2147483647) ∧ (0 ≤ (v5 + 7) ∧ (v5 + 7) < 305) ∧ ((-2147483648 : Int) ≤ v5 + 8 ∧ v5 + 8 ≤ 2147483647) ∧ (0 ≤ (v5 + 8) ∧ (v5 + 8) < 305) ∧ ((-2147483648 : Int) ≤ v5 + 9 ∧ v5 + 9 ≤ 2147483647) ∧ (0 ≤ (v5 + 9) ∧ (v5 + 9) < 305) ∧ ((-2147483648 : Int) ≤ v5 + 10 ∧ v5 + 10 ≤ 2147483647) ∧ (0 ≤ (v5 + 10) ∧ (v5 + 10) < 305) ∧ ((-2147483648 : Int) ≤ ((jx_up (jx_up (jx_up (jx_up M 2 (v5 + 7) v1) 2 (v5 + 8) v2) 2 (v5 + 9) v3) 2 (v5 + 10) 0) 2 0) + 1 ∧ ((jx_up (jx_up (jx_up (jx_up M 2 (v5 + 7) v1) 2 (v5 + 8) v2) 2 (v5 + 9) v3) 2 (v5 + 10) 0) 2 0) + 1 ≤ 2147483647) ∧ ((-2147483648 : Int) ≤ ((((jx_up (jx_up (jx_up (jx_up M 2 (v5 + 7) v1) 2 (v5 + 8) v2) 2 (v5 + 9) v3) 2 (v5 + 10) 0) 2 0) + 1)) - 1 ∧ ((((jx_up (jx_up (jx_up (jx_up M 2 (v5 + 7) v1) 2 (v5 + 8) v2) 2 (v5 + 9) v3) 2 (v5 + 10) 0) 2 0) + 1)) - 1 ≤ 2147483647)) ∧ K (some (.inl (((((jx_up (jx_up (jx_up (jx_up M 2 (v5 + 7) v1) 2 (v5 + 8) v2) 2 (v5 + 9) v3) 2 (v5 + 10) 0) 2 0) + 1)) - 1))) (jx_up (jx_up (jx_up (jx_up (jx_up (jx_up M 2 (v5 + 7) v1) 2 (v5 + 8) v2) 2 (v5 + 9) v3) 2 (v5 + 10) 0) 2 0 (((jx_up (jx_up (jx_up (jx_up M 2 (v5 + 7) v1) 2 (v5 + 8) v2) 2 (v5 + 9) v3) 2 (v5 + 10) 0) 2 0) + 1)) 1 4 0)) ∧ (v6 < 6 → (((-2147483648 : Int) ≤ v5 + 1 ∧ v5 + 1 ≤ 2147483647) ∧ ((-2147483648 : Int) ≤ (v5 + 1) + v6 ∧ (v5 + 1) + v6 ≤ 2147483647)) ∧ (((M 1 4) ≤ v6 → ((0 ≤ ((v5 + 1) + v6) ∧ ((v5 + 1) + v6) < 305) ∧ ((-2147483648 : Int) ≤ v6 + 1 ∧ v6 + 1 ≤ 2147483647)) ∧ X 99 [.inr 1, .inl v1, .inl v2, .inl v3, .inl v4, .inl v5, .inl (v6 + 1)] [] (jx_up M 2 ((v5 + 1) + v6) 0)) ∧ (v6 < (M 1 4) → ((0 ≤ v6 ∧ v6 < 20) ∧ (0 ≤ ((v5 + 1) + v6) ∧ ((v5 + 1) + v6) < 305) ∧ ((-2147483648 : Int) ≤ v6 + 1 ∧ v6 + 1 ≤ 2147483647)) ∧ X 99 [.inr 1, .inl v1, .inl v2, .inl v3, .inl v4, .inl v5, .inl (v6 + 1)] [] (jx_up M 2 ((v5 + 1) + v6) (M 4 v6))))))) :
    X 99 [.inr 1, .inl v1, .inl v2, .inl v3, .inl v4, .inl v5, .inl v6] [] M := by
  refine jk_load (pc := 99) hX 6 rfl rfl ?_
  refine jk_const (pc := 100) hX 6 rfl (by decide) ?_
  refine jk_cge (pc := 101) hX 122 rfl (fun q28 => ?_) (fun q29 => ?_)
  · have h1 := h.1 q28
    obtain ⟨⟨g3, g4, g5, g6, g7, g8, g9, g10, g11, g12⟩, h13⟩ := h1
    refine jk_aload (pc := 122) hX 0 rfl rfl ?_
    refine jk_getR (pc := 123) hX 7 0 rfl rfl (r := 1) rfl ?_
    refine jk_load (pc := 124) hX 5 rfl rfl ?_
    refine jk_const (pc := 125) hX 7 rfl (by decide) ?_
    refine jk_add (pc := 126) hX rfl g3 ?_
    refine jk_load (pc := 127) hX 1 rfl rfl ?_
    refine jk_iast (pc := 128) hX 305 rfl rfl g4 ?_
    refine jk_aload (pc := 129) hX 0 rfl rfl ?_
    refine jk_getR (pc := 130) hX 7 0 rfl rfl (r := 1) rfl ?_
    refine jk_load (pc := 131) hX 5 rfl rfl ?_
    refine jk_const (pc := 132) hX 8 rfl (by decide) ?_
    refine jk_add (pc := 133) hX rfl g5 ?_
    refine jk_load (pc := 134) hX 2 rfl rfl ?_
    refine jk_iast (pc := 135) hX 305 rfl rfl g6 ?_
    refine jk_aload (pc := 136) hX 0 rfl rfl ?_
    refine jk_getR (pc := 137) hX 7 0 rfl rfl (r := 1) rfl ?_
    refine jk_load (pc := 138) hX 5 rfl rfl ?_
    refine jk_const (pc := 139) hX 9 rfl (by decide) ?_
    refine jk_add (pc := 140) hX rfl g7 ?_
    refine jk_load (pc := 141) hX 3 rfl rfl ?_
    refine jk_iast (pc := 142) hX 305 rfl rfl g8 ?_
    refine jk_aload (pc := 143) hX 0 rfl rfl ?_
    refine jk_getR (pc := 144) hX 7 0 rfl rfl (r := 1) rfl ?_
    refine jk_load (pc := 145) hX 5 rfl rfl ?_
    refine jk_const (pc := 146) hX 10 rfl (by decide) ?_
    refine jk_add (pc := 147) hX rfl g9 ?_
    refine jk_const (pc := 148) hX 0 rfl (by decide) ?_
    refine jk_iast (pc := 149) hX 305 rfl rfl g10 ?_
    refine jk_aload (pc := 150) hX 0 rfl rfl ?_
    refine jk_getR (pc := 151) hX 7 0 rfl rfl (r := 1) rfl ?_
    refine jk_const (pc := 152) hX 0 rfl (by decide) ?_
    refine jk_dup2 (pc := 153) hX rfl ?_
    refine jk_iald (pc := 154) hX 305 rfl rfl (by decide) ?_
    refine jk_const (pc := 155) hX 1 rfl (by decide) ?_
    refine jk_add (pc := 156) hX rfl g11 ?_
    refine jk_iast (pc := 157) hX 305 rfl rfl (by decide) ?_
    refine jk_aload (pc := 158) hX 0 rfl rfl ?_
    refine jk_const (pc := 159) hX 0 rfl (by decide) ?_
    refine jk_put (pc := 160) hX 7 4 rfl rfl rfl ?_
    refine jk_aload (pc := 161) hX 0 rfl rfl ?_
    refine jk_getR (pc := 162) hX 7 0 rfl rfl (r := 1) rfl ?_
    refine jk_const (pc := 163) hX 0 rfl (by decide) ?_
    refine jk_iald (pc := 164) hX 305 rfl rfl (by decide) (jx_vX ((jx_upc (by decide)).trans (jx_ups)) ?_)
    refine jk_const (pc := 165) hX 1 rfl (by decide) ?_
    refine jk_sub (pc := 166) hX rfl g12 ?_
    exact jk_iret (pc := 167) hX rfl h13
  · have h2 := h.2 q29
    obtain ⟨⟨g14, g15⟩, h27⟩ := h2
    refine jk_aload (pc := 102) hX 0 rfl rfl ?_
    refine jk_getR (pc := 103) hX 7 0 rfl rfl (r := 1) rfl ?_
    refine jk_load (pc := 104) hX 5 rfl rfl ?_
    refine jk_const (pc := 105) hX 1 rfl (by decide) ?_
    refine jk_add (pc := 106) hX rfl g14 ?_
    refine jk_load (pc := 107) hX 6 rfl rfl ?_
    refine jk_add (pc := 108) hX rfl g15 ?_
    refine jk_load (pc := 109) hX 6 rfl rfl ?_
    refine jk_aload (pc := 110) hX 0 rfl rfl ?_
    refine jk_getI (pc := 111) hX 7 4 rfl rfl rfl ?_
    refine jk_cge (pc := 112) hX 118 rfl (fun q25 => ?_) (fun q26 => ?_)
    · have h16 := h27.1 q25
      obtain ⟨⟨g18, g19⟩, h20⟩ := h16
      refine jk_const (pc := 118) hX 0 rfl (by decide) ?_
      refine jk_iast (pc := 119) hX 305 rfl rfl g18 ?_
      refine jk_iinc (pc := 120) hX 6 1 rfl rfl g19 (ls' := [.inr 1, .inl v1, .inl v2, .inl v3, .inl v4, .inl v5, .inl (v6 + 1)]) rfl ?_
      refine jk_goto (pc := 121) hX 99 rfl ?_
      exact h20
    · have h17 := h27.2 q26
      obtain ⟨⟨g21, g22, g23⟩, h24⟩ := h17
      refine jk_aload (pc := 113) hX 0 rfl rfl ?_
      refine jk_getR (pc := 114) hX 7 3 rfl rfl (r := 3) rfl ?_
      refine jk_load (pc := 115) hX 6 rfl rfl ?_
      refine jk_iald (pc := 116) hX 20 rfl rfl g21 ?_
      refine jk_goto (pc := 117) hX 119 rfl ?_
      refine jk_iast (pc := 119) hX 305 rfl rfl g22 ?_
      refine jk_iinc (pc := 120) hX 6 1 rfl rfl g23 (ls' := [.inr 1, .inl v1, .inl v2, .inl v3, .inl v4, .inl v5, .inl (v6 + 1)]) rfl ?_
      refine jk_goto (pc := 121) hX 99 rfl ?_
      exact h24
set_option maxHeartbeats 4000000 in
theorem bk_F_removeEntry_0 {d : Nat} {K : jxK} {X : jxX} (hX : jx_clo jx_G2 (d + 2) (jx_call jx_G2 jx_T (d + 2)) kc_F_removeEntry K X) (v1 : Int) (M : jxM)
    (h : (((0 : Int) ≤ (M 2 0) ∧ (M 2 0) ≤ 20)) ∧ ((0 ≤ v1 ∧ v1 < (M 2 0) → jx_call jx_G2 jx_T (d + 2) 81 [.inr 1] M (fun r M5 => r = none ∧ (((-2147483648 : Int) ≤ (M5 2 0) - 1 ∧ (M5 2 0) - 1 ≤ 2147483647) ∧ ((0 : Int) ≤ v1 ∧ v1 ≤ 20)) ∧ X 19 [.inr 1, .inl v1, .inl (1 + 11 * v1)] [] (jx_up M5 2 0 ((M5 2 0) - 1)))) ∧ (¬ (0 ≤ v1 ∧ v1 < (M 2 0)) → K (some (.inl (-1))) M))) :
    X 0 [.inr 1, .inl v1, .inr 0] [] M := by
  obtain ⟨g1, h12⟩ := h
  refine jk_aload (pc := 0) hX 0 rfl rfl ?_
  refine jk_load (pc := 1) hX 1 rfl rfl ?_
  refine jk_cv (pc := 2) hX 87 1 7 rfl 1 [.inl v1] [] rfl rfl rfl (Nat.le_of_ble_eq_true rfl) (sp_F_isEntry d v1 M g1 ?_)
  show X 3 [.inr 1, .inl v1, .inr 0] [.inl (jx_b (0 ≤ v1 ∧ v1 < (M 2 0)))] M
  refine jk_zneB (pc := 3) hX 6 rfl (fun q10 => ?_) (fun q11 => ?_)
  · have h2 := h12.1 q10
    refine jk_aload (pc := 6) hX 0 rfl rfl ?_
    refine jk_cv (pc := 7) hX 81 0 7 rfl 1 [] [] rfl rfl rfl (Nat.le_of_ble_eq_true rfl) (jx_mono (fun r M5 hr => ?_) h2)
    obtain ⟨rfl, h6⟩ := hr
    show X 8 [.inr 1, .inl v1, .inr 0] [] M5
    obtain ⟨⟨g7, g8⟩, h9⟩ := h6
    refine jk_aload (pc := 8) hX 0 rfl rfl ?_
    refine jk_getR (pc := 9) hX 7 0 rfl rfl (r := 1) rfl ?_
    refine jk_const (pc := 10) hX 0 rfl (by decide) ?_
    refine jk_dup2 (pc := 11) hX rfl ?_
    refine jk_iald (pc := 12) hX 305 rfl rfl (by decide) ?_
    refine jk_const (pc := 13) hX 1 rfl (by decide) ?_
    refine jk_sub (pc := 14) hX rfl g7 ?_
    refine jk_iast (pc := 15) hX 305 rfl rfl (by decide) ?_
    refine jk_load (pc := 16) hX 1 rfl rfl ?_
    refine jk_cs (pc := 17) hX 86 1 rfl [.inl v1] [] rfl rfl (Nat.le_of_ble_eq_true rfl) (sp_F_at (d + 1) v1 (jx_up M5 2 0 ((M5 2 0) - 1)) g8 ?_)
    show X 18 [.inr 1, .inl v1, .inr 0] [.inl (1 + 11 * v1)] (jx_up M5 2 0 ((M5 2 0) - 1))
    refine jk_store (pc := 18) hX 2 rfl (Nat.le_of_ble_eq_true rfl) (ls' := [.inr 1, .inl v1, .inl (1 + 11 * v1)]) rfl ?_
    exact h9
  · have h3 := h12.2 q11
    refine jk_const (pc := 4) hX (-1) rfl (by decide) ?_
    exact jk_iret (pc := 5) hX rfl h3
set_option maxHeartbeats 4000000 in
theorem bk_F_removeEntry_19 {d : Nat} {K : jxK} {X : jxX} (hX : jx_clo jx_G2 (d + 2) (jx_call jx_G2 jx_T (d + 2)) kc_F_removeEntry K X) (v1 : Int) (v2 : Int) (M : jxM)
    (h : (((0 : Int) ≤ (M 2 0) ∧ (M 2 0) ≤ 20)) ∧ (((1 + 11 * (M 2 0)) ≤ v2 → K (some (.inl (M 2 0))) M) ∧ (v2 < (1 + 11 * (M 2 0)) → (((-2147483648 : Int) ≤ v2 + 11 ∧ v2 + 11 ≤ 2147483647) ∧ (0 ≤ (v2 + 11) ∧ (v2 + 11) < 305) ∧ (0 ≤ v2 ∧ v2 < 305) ∧ ((-2147483648 : Int) ≤ v2 + 1 ∧ v2 + 1 ≤ 2147483647)) ∧ X 19 [.inr 1, .inl v1, .inl (v2 + 1)] [] (jx_up M 2 v2 (M 2 (v2 + 11)))))) :
    X 19 [.inr 1, .inl v1, .inl v2] [] M := by
  obtain ⟨g1, h11⟩ := h
  refine jk_load (pc := 19) hX 2 rfl rfl ?_
  refine jk_aload (pc := 20) hX 0 rfl rfl ?_
  refine jk_getR (pc := 21) hX 7 0 rfl rfl (r := 1) rfl ?_
  refine jk_const (pc := 22) hX 0 rfl (by decide) ?_
  refine jk_iald (pc := 23) hX 305 rfl rfl (by decide) ?_
  refine jk_cs (pc := 24) hX 86 1 rfl [.inl (M 2 0)] [.inl v2] rfl rfl (Nat.le_of_ble_eq_true rfl) (sp_F_at (d + 1) (M 2 0) M g1 ?_)
  show X 25 [.inr 1, .inl v1, .inl v2] [.inl (1 + 11 * (M 2 0)), .inl v2] M
  refine jk_cge (pc := 25) hX 38 rfl (fun q9 => ?_) (fun q10 => ?_)
  · have h2 := h11.1 q9
    refine jk_aload (pc := 38) hX 0 rfl rfl ?_
    refine jk_getR (pc := 39) hX 7 0 rfl rfl (r := 1) rfl ?_
    refine jk_const (pc := 40) hX 0 rfl (by decide) ?_
    refine jk_iald (pc := 41) hX 305 rfl rfl (by decide) ?_
    exact jk_iret (pc := 42) hX rfl h2
  · have h3 := h11.2 q10
    obtain ⟨⟨g4, g5, g6, g7⟩, h8⟩ := h3
    refine jk_aload (pc := 26) hX 0 rfl rfl ?_
    refine jk_getR (pc := 27) hX 7 0 rfl rfl (r := 1) rfl ?_
    refine jk_load (pc := 28) hX 2 rfl rfl ?_
    refine jk_aload (pc := 29) hX 0 rfl rfl ?_
    refine jk_getR (pc := 30) hX 7 0 rfl rfl (r := 1) rfl ?_
    refine jk_load (pc := 31) hX 2 rfl rfl ?_
    refine jk_const (pc := 32) hX 11 rfl (by decide) ?_
    refine jk_add (pc := 33) hX rfl g4 ?_
    refine jk_iald (pc := 34) hX 305 rfl rfl g5 ?_
    refine jk_iast (pc := 35) hX 305 rfl rfl g6 ?_
    refine jk_iinc (pc := 36) hX 2 1 rfl rfl g7 (ls' := [.inr 1, .inl v1, .inl (v2 + 1)]) rfl ?_
    refine jk_goto (pc := 37) hX 19 rfl ?_
    exact h8
set_option maxHeartbeats 4000000 in
theorem bk_F_setConnection_0 {d : Nat} {K : jxK} {X : jxX} (hX : jx_clo jx_G2 (d + 2) (jx_call jx_G2 jx_T (d + 2)) kc_F_setConnection K X) (v1 : Int) (v2 : Int) (v3 : Int) (M : jxM)
    (h : ((¬ ((0 : Int) ≤ v1 ∧ v1 ≤ (6 : Int)) → K (some (.inl (-1))) M) ∧ ((0 : Int) ≤ v1 ∧ v1 ≤ (6 : Int) → ((¬ ((0 : Int) ≤ v2 ∧ v2 ≤ (6 : Int)) → K (some (.inl (-1))) M) ∧ ((0 : Int) ≤ v2 ∧ v2 ≤ (6 : Int) → ((¬ ((0 : Int) ≤ v3 ∧ v3 ≤ (99 : Int)) → K (some (.inl (-1))) M) ∧ ((0 : Int) ≤ v3 ∧ v3 ≤ (99 : Int) → (((-2147483648 : Int) ≤ 7 * v1 ∧ 7 * v1 ≤ 2147483647) ∧ ((-2147483648 : Int) ≤ 221 + (7 * v1) ∧ 221 + (7 * v1) ≤ 2147483647) ∧ ((-2147483648 : Int) ≤ (221 + (7 * v1)) + v2 ∧ (221 + (7 * v1)) + v2 ≤ 2147483647)) ∧ jx_call jx_G2 jx_T (d + 2) 97 [.inr 1, .inl ((221 + (7 * v1)) + v2), .inl v3] M (fun r M11 => ∃ r10 : Int, r = some (.inl r10) ∧ K (some (.inl r10)) M11)))))))) :
    X 0 [.inr 1, .inl v1, .inl v2, .inl v3] [] M := by
  refine jk_load (pc := 0) hX 1 rfl rfl ?_
  refine jk_const (pc := 1) hX 0 rfl (by decide) ?_
  refine jk_const (pc := 2) hX 6 rfl (by decide) ?_
  refine jk_cs (pc := 3) hX 80 3 rfl [.inl v1, .inl 0, .inl 6] [] rfl rfl (Nat.le_of_ble_eq_true rfl) (sp_F_in (d + 1) v1 (0 : Int) (6 : Int) M  ?_)
  show X 4 [.inr 1, .inl v1, .inl v2, .inl v3] [.inl (jx_b ((0 : Int) ≤ v1 ∧ v1 ≤ (6 : Int)))] M
  refine jk_zeqB (pc := 4) hX 26 rfl (fun q18 => ?_) (fun q19 => ?_)
  · have h1 := h.1 q18
    refine jk_const (pc := 26) hX (-1) rfl (by decide) ?_
    exact jk_iret (pc := 27) hX rfl h1
  · have h2 := h.2 q19
    refine jk_load (pc := 5) hX 2 rfl rfl ?_
    refine jk_const (pc := 6) hX 0 rfl (by decide) ?_
    refine jk_const (pc := 7) hX 6 rfl (by decide) ?_
    refine jk_cs (pc := 8) hX 80 3 rfl [.inl v2, .inl 0, .inl 6] [] rfl rfl (Nat.le_of_ble_eq_true rfl) (sp_F_in (d + 1) v2 (0 : Int) (6 : Int) M  ?_)
    show X 9 [.inr 1, .inl v1, .inl v2, .inl v3] [.inl (jx_b ((0 : Int) ≤ v2 ∧ v2 ≤ (6 : Int)))] M
    refine jk_zeqB (pc := 9) hX 26 rfl (fun q16 => ?_) (fun q17 => ?_)
    · have h3 := h2.1 q16
      refine jk_const (pc := 26) hX (-1) rfl (by decide) ?_
      exact jk_iret (pc := 27) hX rfl h3
    · have h4 := h2.2 q17
      refine jk_load (pc := 10) hX 3 rfl rfl ?_
      refine jk_const (pc := 11) hX 0 rfl (by decide) ?_
      refine jk_const (pc := 12) hX 99 rfl (by decide) ?_
      refine jk_cs (pc := 13) hX 80 3 rfl [.inl v3, .inl 0, .inl 99] [] rfl rfl (Nat.le_of_ble_eq_true rfl) (sp_F_in (d + 1) v3 (0 : Int) (99 : Int) M  ?_)
      show X 14 [.inr 1, .inl v1, .inl v2, .inl v3] [.inl (jx_b ((0 : Int) ≤ v3 ∧ v3 ≤ (99 : Int)))] M
      refine jk_zeqB (pc := 14) hX 26 rfl (fun q14 => ?_) (fun q15 => ?_)
      · have h5 := h4.1 q14
        refine jk_const (pc := 26) hX (-1) rfl (by decide) ?_
        exact jk_iret (pc := 27) hX rfl h5
      · have h6 := h4.2 q15
        obtain ⟨⟨g7, g8, g9⟩, h13⟩ := h6
        refine jk_aload (pc := 15) hX 0 rfl rfl ?_
        refine jk_const (pc := 16) hX 221 rfl (by decide) ?_
        refine jk_const (pc := 17) hX 7 rfl (by decide) ?_
        refine jk_load (pc := 18) hX 1 rfl rfl ?_
        refine jk_mul (pc := 19) hX rfl g7 ?_
        refine jk_add (pc := 20) hX rfl g8 ?_
        refine jk_load (pc := 21) hX 2 rfl rfl ?_
        refine jk_add (pc := 22) hX rfl g9 ?_
        refine jk_load (pc := 23) hX 3 rfl rfl ?_
        refine jk_cv (pc := 24) hX 97 2 7 rfl 1 [.inl ((221 + (7 * v1)) + v2), .inl v3] [] rfl rfl rfl (Nat.le_of_ble_eq_true rfl) (jx_mono (fun r M11 hr => ?_) h13)
        obtain ⟨r10, rfl, h12⟩ := hr
        show X 25 [.inr 1, .inl v1, .inl v2, .inl v3] [.inl r10] M11
        refine jk_goto (pc := 25) hX 27 rfl ?_
        exact jk_iret (pc := 27) hX rfl h12
set_option maxHeartbeats 4000000 in
theorem bk_F_setUnknownCost_0 {d : Nat} {K : jxK} {X : jxX} (hX : jx_clo jx_G2 (d + 2) (jx_call jx_G2 jx_T (d + 2)) kc_F_setUnknownCost K X) (v1 : Int) (M : jxM)
    (h : ((¬ ((0 : Int) ≤ v1 ∧ v1 ≤ (200 : Int)) → K (some (.inl (-1))) M) ∧ ((0 : Int) ≤ v1 ∧ v1 ≤ (200 : Int) → jx_call jx_G2 jx_T (d + 2) 97 [.inr 1, .inl 270, .inl v1] M (fun r M4 => ∃ r3 : Int, r = some (.inl r3) ∧ K (some (.inl r3)) M4)))) :
    X 0 [.inr 1, .inl v1] [] M := by
  refine jk_load (pc := 0) hX 1 rfl rfl ?_
  refine jk_const (pc := 1) hX 0 rfl (by decide) ?_
  refine jk_const (pc := 2) hX 200 rfl (by decide) ?_
  refine jk_cs (pc := 3) hX 80 3 rfl [.inl v1, .inl 0, .inl 200] [] rfl rfl (Nat.le_of_ble_eq_true rfl) (sp_F_in (d + 1) v1 (0 : Int) (200 : Int) M  ?_)
  show X 4 [.inr 1, .inl v1] [.inl (jx_b ((0 : Int) ≤ v1 ∧ v1 ≤ (200 : Int)))] M
  refine jk_zeqB (pc := 4) hX 10 rfl (fun q6 => ?_) (fun q7 => ?_)
  · have h1 := h.1 q6
    refine jk_const (pc := 10) hX (-1) rfl (by decide) ?_
    exact jk_iret (pc := 11) hX rfl h1
  · have h2 := h.2 q7
    refine jk_aload (pc := 5) hX 0 rfl rfl ?_
    refine jk_const (pc := 6) hX 270 rfl (by decide) ?_
    refine jk_load (pc := 7) hX 1 rfl rfl ?_
    refine jk_cv (pc := 8) hX 97 2 7 rfl 1 [.inl 270, .inl v1] [] rfl rfl rfl (Nat.le_of_ble_eq_true rfl) (jx_mono (fun r M4 hr => ?_) h2)
    obtain ⟨r3, rfl, h5⟩ := hr
    show X 9 [.inr 1, .inl v1] [.inl r3] M4
    refine jk_goto (pc := 9) hX 11 rfl ?_
    exact jk_iret (pc := 11) hX rfl h5
set_option maxHeartbeats 4000000 in
theorem bk_F_setInput_0 {d : Nat} {K : jxK} {X : jxX} (hX : jx_clo jx_G2 (d + 2) (jx_call jx_G2 jx_T (d + 2)) kc_F_setInput K X) (M : jxM)
    (h : ((((0 : Int) ≤ (M 1 4) ∧ (M 1 4) ≤ 20) ∧ (0 : Int) ≤ (16 : Int))) ∧ (((t_err (M 4) (16 : Int) (-9) 0 ((M 1 4)).toNat) = (-9) → jx_call jx_G2 jx_T (d + 2) 81 [.inr 1] M (fun r M5 => r = none ∧ X 21 [.inr 1, .inl (t_err (M 4) (16 : Int) (-9) 0 ((M 1 4)).toNat), .inl 0] [] (jx_up M5 2 271 (M5 1 4)))) ∧ ((t_err (M 4) (16 : Int) (-9) 0 ((M 1 4)).toNat) ≠ (-9) → (((-2147483648 : Int) ≤ (-10) - (t_err (M 4) (16 : Int) (-9) 0 ((M 1 4)).toNat) ∧ (-10) - (t_err (M 4) (16 : Int) (-9) 0 ((M 1 4)).toNat) ≤ 2147483647)) ∧ K (some (.inl ((-10) - (t_err (M 4) (16 : Int) (-9) 0 ((M 1 4)).toNat)))) M))) :
    X 0 [.inr 1, .inr 0, .inr 0] [] M := by
  obtain ⟨g1, h11⟩ := h
  refine jk_aload (pc := 0) hX 0 rfl rfl ?_
  refine jk_const (pc := 1) hX 16 rfl (by decide) ?_
  refine jk_cv (pc := 2) hX 85 1 7 rfl 1 [.inl 16] [] rfl rfl rfl (Nat.le_of_ble_eq_true rfl) (sp_F_fault d (16 : Int) M g1 ?_)
  show X 3 [.inr 1, .inr 0, .inr 0] [.inl (t_err (M 4) (16 : Int) (-9) 0 ((M 1 4)).toNat)] M
  refine jk_store (pc := 3) hX 1 rfl (Nat.le_of_ble_eq_true rfl) (ls' := [.inr 1, .inl (t_err (M 4) (16 : Int) (-9) 0 ((M 1 4)).toNat), .inr 0]) rfl ?_
  refine jk_load (pc := 4) hX 1 rfl rfl ?_
  refine jk_const (pc := 5) hX (-9) rfl (by decide) ?_
  refine jk_ceq (pc := 6) hX 11 rfl (fun q9 => ?_) (fun q10 => ?_)
  · have h2 := h11.1 q9
    refine jk_aload (pc := 11) hX 0 rfl rfl ?_
    refine jk_cv (pc := 12) hX 81 0 7 rfl 1 [] [] rfl rfl rfl (Nat.le_of_ble_eq_true rfl) (jx_mono (fun r M5 hr => ?_) h2)
    obtain ⟨rfl, h6⟩ := hr
    show X 13 [.inr 1, .inl (t_err (M 4) (16 : Int) (-9) 0 ((M 1 4)).toNat), .inr 0] [] M5
    refine jk_aload (pc := 13) hX 0 rfl rfl ?_
    refine jk_getR (pc := 14) hX 7 0 rfl rfl (r := 1) rfl ?_
    refine jk_const (pc := 15) hX 271 rfl (by decide) ?_
    refine jk_aload (pc := 16) hX 0 rfl rfl ?_
    refine jk_getI (pc := 17) hX 7 4 rfl rfl rfl ?_
    refine jk_iast (pc := 18) hX 305 rfl rfl (by decide) ?_
    refine jk_const (pc := 19) hX 0 rfl (by decide) ?_
    refine jk_store (pc := 20) hX 2 rfl (Nat.le_of_ble_eq_true rfl) (ls' := [.inr 1, .inl (t_err (M 4) (16 : Int) (-9) 0 ((M 1 4)).toNat), .inl 0]) rfl ?_
    exact h6
  · have h3 := h11.2 q10
    obtain ⟨g7, h8⟩ := h3
    refine jk_const (pc := 7) hX (-10) rfl (by decide) ?_
    refine jk_load (pc := 8) hX 1 rfl rfl ?_
    refine jk_sub (pc := 9) hX rfl g7 ?_
    exact jk_iret (pc := 10) hX rfl h8
set_option maxHeartbeats 4000000 in
theorem bk_F_setInput_21 {d : Nat} {K : jxK} {X : jxX} (hX : jx_clo jx_G2 (d + 2) (jx_call jx_G2 jx_T (d + 2)) kc_F_setInput K X) (v1 : Int) (v2 : Int) (M : jxM)
    (h : ((16 ≤ v2 → X 44 [.inr 1, .inl v1, .inl 0] [] M) ∧ (v2 < 16 → (((-2147483648 : Int) ≤ 272 + v2 ∧ 272 + v2 ≤ 2147483647)) ∧ (((M 1 4) ≤ v2 → ((0 ≤ (272 + v2) ∧ (272 + v2) < 305) ∧ ((-2147483648 : Int) ≤ v2 + 1 ∧ v2 + 1 ≤ 2147483647)) ∧ X 21 [.inr 1, .inl v1, .inl (v2 + 1)] [] (jx_up M 2 (272 + v2) 0)) ∧ (v2 < (M 1 4) → ((0 ≤ v2 ∧ v2 < 20) ∧ (0 ≤ (272 + v2) ∧ (272 + v2) < 305) ∧ ((-2147483648 : Int) ≤ v2 + 1 ∧ v2 + 1 ≤ 2147483647)) ∧ X 21 [.inr 1, .inl v1, .inl (v2 + 1)] [] (jx_up M 2 (272 + v2) (M 4 v2))))))) :
    X 21 [.inr 1, .inl v1, .inl v2] [] M := by
  refine jk_load (pc := 21) hX 2 rfl rfl ?_
  refine jk_const (pc := 22) hX 16 rfl (by decide) ?_
  refine jk_cge (pc := 23) hX 42 rfl (fun q16 => ?_) (fun q17 => ?_)
  · have h1 := h.1 q16
    refine jk_const (pc := 42) hX 0 rfl (by decide) ?_
    refine jk_store (pc := 43) hX 2 rfl (Nat.le_of_ble_eq_true rfl) (ls' := [.inr 1, .inl v1, .inl 0]) rfl ?_
    exact h1
  · have h2 := h.2 q17
    obtain ⟨g3, h15⟩ := h2
    refine jk_aload (pc := 24) hX 0 rfl rfl ?_
    refine jk_getR (pc := 25) hX 7 0 rfl rfl (r := 1) rfl ?_
    refine jk_const (pc := 26) hX 272 rfl (by decide) ?_
    refine jk_load (pc := 27) hX 2 rfl rfl ?_
    refine jk_add (pc := 28) hX rfl g3 ?_
    refine jk_load (pc := 29) hX 2 rfl rfl ?_
    refine jk_aload (pc := 30) hX 0 rfl rfl ?_
    refine jk_getI (pc := 31) hX 7 4 rfl rfl rfl ?_
    refine jk_cge (pc := 32) hX 38 rfl (fun q13 => ?_) (fun q14 => ?_)
    · have h4 := h15.1 q13
      obtain ⟨⟨g6, g7⟩, h8⟩ := h4
      refine jk_const (pc := 38) hX 0 rfl (by decide) ?_
      refine jk_iast (pc := 39) hX 305 rfl rfl g6 ?_
      refine jk_iinc (pc := 40) hX 2 1 rfl rfl g7 (ls' := [.inr 1, .inl v1, .inl (v2 + 1)]) rfl ?_
      refine jk_goto (pc := 41) hX 21 rfl ?_
      exact h8
    · have h5 := h15.2 q14
      obtain ⟨⟨g9, g10, g11⟩, h12⟩ := h5
      refine jk_aload (pc := 33) hX 0 rfl rfl ?_
      refine jk_getR (pc := 34) hX 7 3 rfl rfl (r := 3) rfl ?_
      refine jk_load (pc := 35) hX 2 rfl rfl ?_
      refine jk_iald (pc := 36) hX 20 rfl rfl g9 ?_
      refine jk_goto (pc := 37) hX 39 rfl ?_
      refine jk_iast (pc := 39) hX 305 rfl rfl g10 ?_
      refine jk_iinc (pc := 40) hX 2 1 rfl rfl g11 (ls' := [.inr 1, .inl v1, .inl (v2 + 1)]) rfl ?_
      refine jk_goto (pc := 41) hX 21 rfl ?_
      exact h12
set_option maxHeartbeats 4000000 in
theorem bk_F_setInput_44 {d : Nat} {K : jxK} {X : jxX} (hX : jx_clo jx_G2 (d + 2) (jx_call jx_G2 jx_T (d + 2)) kc_F_setInput K X) (v1 : Int) (v2 : Int) (M : jxM)
    (h : ((16 < v2 → K (some (.inl (M 2 271))) (jx_up M 1 4 0)) ∧ (v2 ≤ 16 → (((-2147483648 : Int) ≤ 288 + v2 ∧ 288 + v2 ≤ 2147483647) ∧ (0 ≤ (288 + v2) ∧ (288 + v2) < 305) ∧ ((-2147483648 : Int) ≤ v2 + 1 ∧ v2 + 1 ≤ 2147483647)) ∧ X 44 [.inr 1, .inl v1, .inl (v2 + 1)] [] (jx_up M 2 (288 + v2) 0)))) :
    X 44 [.inr 1, .inl v1, .inl v2] [] M := by
  refine jk_load (pc := 44) hX 2 rfl rfl ?_
  refine jk_const (pc := 45) hX 16 rfl (by decide) ?_
  refine jk_cgt (pc := 46) hX 56 rfl (fun q7 => ?_) (fun q8 => ?_)
  · have h1 := h.1 q7
    refine jk_aload (pc := 56) hX 0 rfl rfl ?_
    refine jk_const (pc := 57) hX 0 rfl (by decide) ?_
    refine jk_put (pc := 58) hX 7 4 rfl rfl rfl ?_
    refine jk_aload (pc := 59) hX 0 rfl rfl ?_
    refine jk_getR (pc := 60) hX 7 0 rfl rfl (r := 1) rfl ?_
    refine jk_const (pc := 61) hX 271 rfl (by decide) ?_
    refine jk_iald (pc := 62) hX 305 rfl rfl (by decide) (jx_vX (jx_upc (by decide)) ?_)
    exact jk_iret (pc := 63) hX rfl h1
  · have h2 := h.2 q8
    obtain ⟨⟨g3, g4, g5⟩, h6⟩ := h2
    refine jk_aload (pc := 47) hX 0 rfl rfl ?_
    refine jk_getR (pc := 48) hX 7 0 rfl rfl (r := 1) rfl ?_
    refine jk_const (pc := 49) hX 288 rfl (by decide) ?_
    refine jk_load (pc := 50) hX 2 rfl rfl ?_
    refine jk_add (pc := 51) hX rfl g3 ?_
    refine jk_const (pc := 52) hX 0 rfl (by decide) ?_
    refine jk_iast (pc := 53) hX 305 rfl rfl g4 ?_
    refine jk_iinc (pc := 54) hX 2 1 rfl rfl g5 (ls' := [.inr 1, .inl v1, .inl (v2 + 1)]) rfl ?_
    refine jk_goto (pc := 55) hX 44 rfl ?_
    exact h6
set_option maxHeartbeats 4000000 in
theorem bk_F_setConstraint_0 {d : Nat} {K : jxK} {X : jxX} (hX : jx_clo jx_G2 (d + 2) (jx_call jx_G2 jx_T (d + 2)) kc_F_setConstraint K X) (v1 : Int) (v2 : Int) (M : jxM)
    (h : (((-2147483648 : Int) ≤ (M 2 271) - 1 ∧ (M 2 271) - 1 ≤ 2147483647)) ∧ ((¬ ((1 : Int) ≤ v1 ∧ v1 ≤ ((M 2 271) - 1)) → K (some (.inl (-1))) M) ∧ ((1 : Int) ≤ v1 ∧ v1 ≤ ((M 2 271) - 1) → ((¬ ((0 : Int) ≤ v2 ∧ v2 ≤ (2 : Int)) → K (some (.inl (-1))) M) ∧ ((0 : Int) ≤ v2 ∧ v2 ≤ (2 : Int) → (((-2147483648 : Int) ≤ 288 + v1 ∧ 288 + v1 ≤ 2147483647)) ∧ jx_call jx_G2 jx_T (d + 2) 97 [.inr 1, .inl (288 + v1), .inl v2] M (fun r M8 => ∃ r7 : Int, r = some (.inl r7) ∧ K (some (.inl r7)) M8)))))) :
    X 0 [.inr 1, .inl v1, .inl v2] [] M := by
  obtain ⟨g1, h15⟩ := h
  refine jk_load (pc := 0) hX 1 rfl rfl ?_
  refine jk_const (pc := 1) hX 1 rfl (by decide) ?_
  refine jk_aload (pc := 2) hX 0 rfl rfl ?_
  refine jk_getR (pc := 3) hX 7 0 rfl rfl (r := 1) rfl ?_
  refine jk_const (pc := 4) hX 271 rfl (by decide) ?_
  refine jk_iald (pc := 5) hX 305 rfl rfl (by decide) ?_
  refine jk_const (pc := 6) hX 1 rfl (by decide) ?_
  refine jk_sub (pc := 7) hX rfl g1 ?_
  refine jk_cs (pc := 8) hX 80 3 rfl [.inl v1, .inl 1, .inl ((M 2 271) - 1)] [] rfl rfl (Nat.le_of_ble_eq_true rfl) (sp_F_in (d + 1) v1 (1 : Int) ((M 2 271) - 1) M  ?_)
  show X 9 [.inr 1, .inl v1, .inl v2] [.inl (jx_b ((1 : Int) ≤ v1 ∧ v1 ≤ ((M 2 271) - 1)))] M
  refine jk_zeqB (pc := 9) hX 22 rfl (fun q13 => ?_) (fun q14 => ?_)
  · have h2 := h15.1 q13
    refine jk_const (pc := 22) hX (-1) rfl (by decide) ?_
    exact jk_iret (pc := 23) hX rfl h2
  · have h3 := h15.2 q14
    refine jk_load (pc := 10) hX 2 rfl rfl ?_
    refine jk_const (pc := 11) hX 0 rfl (by decide) ?_
    refine jk_const (pc := 12) hX 2 rfl (by decide) ?_
    refine jk_cs (pc := 13) hX 80 3 rfl [.inl v2, .inl 0, .inl 2] [] rfl rfl (Nat.le_of_ble_eq_true rfl) (sp_F_in (d + 1) v2 (0 : Int) (2 : Int) M  ?_)
    show X 14 [.inr 1, .inl v1, .inl v2] [.inl (jx_b ((0 : Int) ≤ v2 ∧ v2 ≤ (2 : Int)))] M
    refine jk_zeqB (pc := 14) hX 22 rfl (fun q11 => ?_) (fun q12 => ?_)
    · have h4 := h3.1 q11
      refine jk_const (pc := 22) hX (-1) rfl (by decide) ?_
      exact jk_iret (pc := 23) hX rfl h4
    · have h5 := h3.2 q12
      obtain ⟨g6, h10⟩ := h5
      refine jk_aload (pc := 15) hX 0 rfl rfl ?_
      refine jk_const (pc := 16) hX 288 rfl (by decide) ?_
      refine jk_load (pc := 17) hX 1 rfl rfl ?_
      refine jk_add (pc := 18) hX rfl g6 ?_
      refine jk_load (pc := 19) hX 2 rfl rfl ?_
      refine jk_cv (pc := 20) hX 97 2 7 rfl 1 [.inl (288 + v1), .inl v2] [] rfl rfl rfl (Nat.le_of_ble_eq_true rfl) (jx_mono (fun r M8 hr => ?_) h10)
      obtain ⟨r7, rfl, h9⟩ := hr
      show X 21 [.inr 1, .inl v1, .inl v2] [.inl r7] M8
      refine jk_goto (pc := 21) hX 23 rfl ?_
      exact jk_iret (pc := 23) hX rfl h9
set_option maxHeartbeats 4000000 in
theorem bk_F_forget_0 {d : Nat} {K : jxK} {X : jxX} (hX : jx_clo jx_G2 (d + 1) (jx_call jx_G2 jx_T (d + 1)) kc_F_forget K X) (M : jxM)
    (h : X 4 [.inr 1, .inl 0, .inl 0] [] M) :
    X 0 [.inr 1, .inr 0, .inr 0] [] M := by
  refine jk_const (pc := 0) hX 0 rfl (by decide) ?_
  refine jk_store (pc := 1) hX 1 rfl (Nat.le_of_ble_eq_true rfl) (ls' := [.inr 1, .inl 0, .inr 0]) rfl ?_
  refine jk_const (pc := 2) hX 0 rfl (by decide) ?_
  refine jk_store (pc := 3) hX 2 rfl (Nat.le_of_ble_eq_true rfl) (ls' := [.inr 1, .inl 0, .inl 0]) rfl ?_
  exact h
set_option maxHeartbeats 4000000 in
theorem bk_F_forget_4 {d : Nat} {K : jxK} {X : jxX} (hX : jx_clo jx_G2 (d + 1) (jx_call jx_G2 jx_T (d + 1)) kc_F_forget K X) (v1 : Int) (v2 : Int) (M : jxM)
    (h : (((M 2 0) ≤ v2 → ((v1 ≠ 0 → jx_call jx_G2 jx_T (d + 1) 81 [.inr 1] M (fun r M6 => r = none ∧ X 30 [.inr 1, .inl v1, .inl 0] [] M6)) ∧ (v1 = 0 → K (some (.inl (-2))) M))) ∧ (v2 < (M 2 0) → (((0 : Int) ≤ v2 ∧ v2 ≤ 20) ∧ ((-2147483648 : Int) ≤ (1 + 11 * v2) + 10 ∧ (1 + 11 * v2) + 10 ≤ 2147483647) ∧ (0 ≤ ((1 + 11 * v2) + 10) ∧ ((1 + 11 * v2) + 10) < 305) ∧ ((-2147483648 : Int) ≤ v1 + (M 2 ((1 + 11 * v2) + 10)) ∧ v1 + (M 2 ((1 + 11 * v2) + 10)) ≤ 2147483647) ∧ ((-2147483648 : Int) ≤ v2 + 1 ∧ v2 + 1 ≤ 2147483647)) ∧ X 4 [.inr 1, .inl (v1 + (M 2 ((1 + 11 * v2) + 10))), .inl (v2 + 1)] [] M))) :
    X 4 [.inr 1, .inl v1, .inl v2] [] M := by
  refine jk_load (pc := 4) hX 2 rfl rfl ?_
  refine jk_aload (pc := 5) hX 0 rfl rfl ?_
  refine jk_getR (pc := 6) hX 7 0 rfl rfl (r := 1) rfl ?_
  refine jk_const (pc := 7) hX 0 rfl (by decide) ?_
  refine jk_iald (pc := 8) hX 305 rfl rfl (by decide) ?_
  refine jk_cge (pc := 9) hX 22 rfl (fun q16 => ?_) (fun q17 => ?_)
  · have h1 := h.1 q16
    refine jk_load (pc := 22) hX 1 rfl rfl ?_
    refine jk_zne (pc := 23) hX 26 rfl (fun q8 => ?_) (fun q9 => ?_)
    · have h3 := h1.1 q8
      refine jk_aload (pc := 26) hX 0 rfl rfl ?_
      refine jk_cv (pc := 27) hX 81 0 7 rfl 1 [] [] rfl rfl rfl (Nat.le_of_ble_eq_true rfl) (jx_mono (fun r M6 hr => ?_) h3)
      obtain ⟨rfl, h7⟩ := hr
      show X 28 [.inr 1, .inl v1, .inl v2] [] M6
      refine jk_const (pc := 28) hX 0 rfl (by decide) ?_
      refine jk_store (pc := 29) hX 2 rfl (Nat.le_of_ble_eq_true rfl) (ls' := [.inr 1, .inl v1, .inl 0]) rfl ?_
      exact h7
    · have h4 := h1.2 q9
      refine jk_const (pc := 24) hX (-2) rfl (by decide) ?_
      exact jk_iret (pc := 25) hX rfl h4
  · have h2 := h.2 q17
    obtain ⟨⟨g10, g11, g12, g13, g14⟩, h15⟩ := h2
    refine jk_load (pc := 10) hX 1 rfl rfl ?_
    refine jk_aload (pc := 11) hX 0 rfl rfl ?_
    refine jk_getR (pc := 12) hX 7 0 rfl rfl (r := 1) rfl ?_
    refine jk_load (pc := 13) hX 2 rfl rfl ?_
    refine jk_cs (pc := 14) hX 86 1 rfl [.inl v2] [.inr 2, .inl v1] rfl rfl (Nat.le_of_ble_eq_true rfl) (sp_F_at d v2 M g10 ?_)
    show X 15 [.inr 1, .inl v1, .inl v2] [.inl (1 + 11 * v2), .inr 2, .inl v1] M
    refine jk_const (pc := 15) hX 10 rfl (by decide) ?_
    refine jk_add (pc := 16) hX rfl g11 ?_
    refine jk_iald (pc := 17) hX 305 rfl rfl g12 ?_
    refine jk_add (pc := 18) hX rfl g13 ?_
    refine jk_store (pc := 19) hX 1 rfl (Nat.le_of_ble_eq_true rfl) (ls' := [.inr 1, .inl (v1 + (M 2 ((1 + 11 * v2) + 10))), .inl v2]) rfl ?_
    refine jk_iinc (pc := 20) hX 2 1 rfl rfl g14 (ls' := [.inr 1, .inl (v1 + (M 2 ((1 + 11 * v2) + 10))), .inl (v2 + 1)]) rfl ?_
    refine jk_goto (pc := 21) hX 4 rfl ?_
    exact h15
set_option maxHeartbeats 4000000 in
theorem bk_F_forget_30 {d : Nat} {K : jxK} {X : jxX} (hX : jx_clo jx_G2 (d + 1) (jx_call jx_G2 jx_T (d + 1)) kc_F_forget K X) (v1 : Int) (v2 : Int) (M : jxM)
    (h : (((M 2 0) ≤ v2 → K (some (.inl v1)) M) ∧ (v2 < (M 2 0) → (((0 : Int) ≤ v2 ∧ v2 ≤ 20) ∧ ((-2147483648 : Int) ≤ (1 + 11 * v2) + 10 ∧ (1 + 11 * v2) + 10 ≤ 2147483647) ∧ (0 ≤ ((1 + 11 * v2) + 10) ∧ ((1 + 11 * v2) + 10) < 305) ∧ ((-2147483648 : Int) ≤ v2 + 1 ∧ v2 + 1 ≤ 2147483647)) ∧ X 30 [.inr 1, .inl v1, .inl (v2 + 1)] [] (jx_up M 2 ((1 + 11 * v2) + 10) 0)))) :
    X 30 [.inr 1, .inl v1, .inl v2] [] M := by
  refine jk_load (pc := 30) hX 2 rfl rfl ?_
  refine jk_aload (pc := 31) hX 0 rfl rfl ?_
  refine jk_getR (pc := 32) hX 7 0 rfl rfl (r := 1) rfl ?_
  refine jk_const (pc := 33) hX 0 rfl (by decide) ?_
  refine jk_iald (pc := 34) hX 305 rfl rfl (by decide) ?_
  refine jk_cge (pc := 35) hX 46 rfl (fun q8 => ?_) (fun q9 => ?_)
  · have h1 := h.1 q8
    refine jk_load (pc := 46) hX 1 rfl rfl ?_
    exact jk_iret (pc := 47) hX rfl h1
  · have h2 := h.2 q9
    obtain ⟨⟨g3, g4, g5, g6⟩, h7⟩ := h2
    refine jk_aload (pc := 36) hX 0 rfl rfl ?_
    refine jk_getR (pc := 37) hX 7 0 rfl rfl (r := 1) rfl ?_
    refine jk_load (pc := 38) hX 2 rfl rfl ?_
    refine jk_cs (pc := 39) hX 86 1 rfl [.inl v2] [.inr 2] rfl rfl (Nat.le_of_ble_eq_true rfl) (sp_F_at d v2 M g3 ?_)
    show X 40 [.inr 1, .inl v1, .inl v2] [.inl (1 + 11 * v2), .inr 2] M
    refine jk_const (pc := 40) hX 10 rfl (by decide) ?_
    refine jk_add (pc := 41) hX rfl g4 ?_
    refine jk_const (pc := 42) hX 0 rfl (by decide) ?_
    refine jk_iast (pc := 43) hX 305 rfl rfl g5 ?_
    refine jk_iinc (pc := 44) hX 2 1 rfl rfl g6 (ls' := [.inr 1, .inl v1, .inl (v2 + 1)]) rfl ?_
    refine jk_goto (pc := 45) hX 30 rfl ?_
    exact h7
set_option maxHeartbeats 4000000 in
theorem bk_D_copyFrom_k0_0 {d : Nat} {K : jxK} {X : jxX} (hX : jx_clo jx_G1 (d + 1) (jx_call jx_G1 jx_T (d + 1)) kc_D_copyFrom K X) (M : jxM)
    (h : K none (jx_up (jx_cp (jx_cp (jx_cp (jx_cp (jx_cp (jx_cp M 6 0 19 0 120) 7 0 20 0 20) 8 0 21 0 20) 9 0 22 0 20) 10 0 23 0 20) 11 0 24 0 20) 18 6 (M 5 6))) :
    X 0 [.inr 18, .inr 5] [] M := by
  refine jk_aload (pc := 0) hX 1 rfl rfl ?_
  refine jk_getR (pc := 1) hX 0 0 rfl rfl (r := 5) rfl ?_
  refine jk_const (pc := 2) hX 0 rfl (by decide) ?_
  refine jk_aload (pc := 3) hX 0 rfl rfl ?_
  refine jk_getR (pc := 4) hX 0 0 rfl rfl (r := 18) rfl ?_
  refine jk_const (pc := 5) hX 0 rfl (by decide) ?_
  refine jk_aload (pc := 6) hX 0 rfl rfl ?_
  refine jk_getR (pc := 7) hX 0 0 rfl rfl (r := 18) rfl ?_
  refine jk_alen (pc := 8) hX 120 rfl rfl ?_
  refine jk_copy (pc := 9) hX 120 120 rfl (by omega) (Nat.le_of_ble_eq_true rfl) rfl rfl (by decide) ?_
  refine jk_aload (pc := 10) hX 1 rfl rfl ?_
  refine jk_getR (pc := 11) hX 0 1 rfl rfl (r := 6) rfl ?_
  refine jk_const (pc := 12) hX 0 rfl (by decide) ?_
  refine jk_aload (pc := 13) hX 0 rfl rfl ?_
  refine jk_getR (pc := 14) hX 0 1 rfl rfl (r := 19) rfl ?_
  refine jk_const (pc := 15) hX 0 rfl (by decide) ?_
  refine jk_const (pc := 16) hX 20 rfl (by decide) ?_
  refine jk_copy (pc := 17) hX 20 20 rfl (by omega) (Nat.le_of_ble_eq_true rfl) rfl rfl (by decide) ?_
  refine jk_aload (pc := 18) hX 1 rfl rfl ?_
  refine jk_getR (pc := 19) hX 0 2 rfl rfl (r := 7) rfl ?_
  refine jk_const (pc := 20) hX 0 rfl (by decide) ?_
  refine jk_aload (pc := 21) hX 0 rfl rfl ?_
  refine jk_getR (pc := 22) hX 0 2 rfl rfl (r := 20) rfl ?_
  refine jk_const (pc := 23) hX 0 rfl (by decide) ?_
  refine jk_const (pc := 24) hX 20 rfl (by decide) ?_
  refine jk_copy (pc := 25) hX 20 20 rfl (by omega) (Nat.le_of_ble_eq_true rfl) rfl rfl (by decide) ?_
  refine jk_aload (pc := 26) hX 1 rfl rfl ?_
  refine jk_getR (pc := 27) hX 0 3 rfl rfl (r := 8) rfl ?_
  refine jk_const (pc := 28) hX 0 rfl (by decide) ?_
  refine jk_aload (pc := 29) hX 0 rfl rfl ?_
  refine jk_getR (pc := 30) hX 0 3 rfl rfl (r := 21) rfl ?_
  refine jk_const (pc := 31) hX 0 rfl (by decide) ?_
  refine jk_const (pc := 32) hX 20 rfl (by decide) ?_
  refine jk_copy (pc := 33) hX 20 20 rfl (by omega) (Nat.le_of_ble_eq_true rfl) rfl rfl (by decide) ?_
  refine jk_aload (pc := 34) hX 1 rfl rfl ?_
  refine jk_getR (pc := 35) hX 0 4 rfl rfl (r := 9) rfl ?_
  refine jk_const (pc := 36) hX 0 rfl (by decide) ?_
  refine jk_aload (pc := 37) hX 0 rfl rfl ?_
  refine jk_getR (pc := 38) hX 0 4 rfl rfl (r := 22) rfl ?_
  refine jk_const (pc := 39) hX 0 rfl (by decide) ?_
  refine jk_const (pc := 40) hX 20 rfl (by decide) ?_
  refine jk_copy (pc := 41) hX 20 20 rfl (by omega) (Nat.le_of_ble_eq_true rfl) rfl rfl (by decide) ?_
  refine jk_aload (pc := 42) hX 1 rfl rfl ?_
  refine jk_getR (pc := 43) hX 0 5 rfl rfl (r := 10) rfl ?_
  refine jk_const (pc := 44) hX 0 rfl (by decide) ?_
  refine jk_aload (pc := 45) hX 0 rfl rfl ?_
  refine jk_getR (pc := 46) hX 0 5 rfl rfl (r := 23) rfl ?_
  refine jk_const (pc := 47) hX 0 rfl (by decide) ?_
  refine jk_const (pc := 48) hX 20 rfl (by decide) ?_
  refine jk_copy (pc := 49) hX 20 20 rfl (by omega) (Nat.le_of_ble_eq_true rfl) rfl rfl (by decide) ?_
  refine jk_aload (pc := 50) hX 0 rfl rfl ?_
  refine jk_aload (pc := 51) hX 1 rfl rfl ?_
  refine jk_getI (pc := 52) hX 0 6 rfl rfl rfl (jx_vX ((jx_cpc (by decide)).trans ((jx_cpc (by decide)).trans ((jx_cpc (by decide)).trans ((jx_cpc (by decide)).trans ((jx_cpc (by decide)).trans (jx_cpc (by decide))))))) ?_)
  refine jk_put (pc := 53) hX 0 6 rfl rfl rfl ?_
  exact jk_vret (pc := 54) hX rfl h
set_option maxHeartbeats 4000000 in
theorem bk_D_copyFrom_b0_0 {d : Nat} {K : jxK} {X : jxX} (hX : jx_clo jx_G1 (d + 1) (jx_call jx_G1 jx_T (d + 1)) kc_D_copyFrom K X) (M : jxM)
    (h : K none (jx_up (jx_cp (jx_cp (jx_cp (jx_cp (jx_cp (jx_cp M 19 0 6 0 120) 20 0 7 0 20) 21 0 8 0 20) 22 0 9 0 20) 23 0 10 0 20) 24 0 11 0 20) 5 6 (M 18 6))) :
    X 0 [.inr 5, .inr 18] [] M := by
  refine jk_aload (pc := 0) hX 1 rfl rfl ?_
  refine jk_getR (pc := 1) hX 0 0 rfl rfl (r := 18) rfl ?_
  refine jk_const (pc := 2) hX 0 rfl (by decide) ?_
  refine jk_aload (pc := 3) hX 0 rfl rfl ?_
  refine jk_getR (pc := 4) hX 0 0 rfl rfl (r := 5) rfl ?_
  refine jk_const (pc := 5) hX 0 rfl (by decide) ?_
  refine jk_aload (pc := 6) hX 0 rfl rfl ?_
  refine jk_getR (pc := 7) hX 0 0 rfl rfl (r := 5) rfl ?_
  refine jk_alen (pc := 8) hX 120 rfl rfl ?_
  refine jk_copy (pc := 9) hX 120 120 rfl (by omega) (Nat.le_of_ble_eq_true rfl) rfl rfl (by decide) ?_
  refine jk_aload (pc := 10) hX 1 rfl rfl ?_
  refine jk_getR (pc := 11) hX 0 1 rfl rfl (r := 19) rfl ?_
  refine jk_const (pc := 12) hX 0 rfl (by decide) ?_
  refine jk_aload (pc := 13) hX 0 rfl rfl ?_
  refine jk_getR (pc := 14) hX 0 1 rfl rfl (r := 6) rfl ?_
  refine jk_const (pc := 15) hX 0 rfl (by decide) ?_
  refine jk_const (pc := 16) hX 20 rfl (by decide) ?_
  refine jk_copy (pc := 17) hX 20 20 rfl (by omega) (Nat.le_of_ble_eq_true rfl) rfl rfl (by decide) ?_
  refine jk_aload (pc := 18) hX 1 rfl rfl ?_
  refine jk_getR (pc := 19) hX 0 2 rfl rfl (r := 20) rfl ?_
  refine jk_const (pc := 20) hX 0 rfl (by decide) ?_
  refine jk_aload (pc := 21) hX 0 rfl rfl ?_
  refine jk_getR (pc := 22) hX 0 2 rfl rfl (r := 7) rfl ?_
  refine jk_const (pc := 23) hX 0 rfl (by decide) ?_
  refine jk_const (pc := 24) hX 20 rfl (by decide) ?_
  refine jk_copy (pc := 25) hX 20 20 rfl (by omega) (Nat.le_of_ble_eq_true rfl) rfl rfl (by decide) ?_
  refine jk_aload (pc := 26) hX 1 rfl rfl ?_
  refine jk_getR (pc := 27) hX 0 3 rfl rfl (r := 21) rfl ?_
  refine jk_const (pc := 28) hX 0 rfl (by decide) ?_
  refine jk_aload (pc := 29) hX 0 rfl rfl ?_
  refine jk_getR (pc := 30) hX 0 3 rfl rfl (r := 8) rfl ?_
  refine jk_const (pc := 31) hX 0 rfl (by decide) ?_
  refine jk_const (pc := 32) hX 20 rfl (by decide) ?_
  refine jk_copy (pc := 33) hX 20 20 rfl (by omega) (Nat.le_of_ble_eq_true rfl) rfl rfl (by decide) ?_
  refine jk_aload (pc := 34) hX 1 rfl rfl ?_
  refine jk_getR (pc := 35) hX 0 4 rfl rfl (r := 22) rfl ?_
  refine jk_const (pc := 36) hX 0 rfl (by decide) ?_
  refine jk_aload (pc := 37) hX 0 rfl rfl ?_
  refine jk_getR (pc := 38) hX 0 4 rfl rfl (r := 9) rfl ?_
  refine jk_const (pc := 39) hX 0 rfl (by decide) ?_
  refine jk_const (pc := 40) hX 20 rfl (by decide) ?_
  refine jk_copy (pc := 41) hX 20 20 rfl (by omega) (Nat.le_of_ble_eq_true rfl) rfl rfl (by decide) ?_
  refine jk_aload (pc := 42) hX 1 rfl rfl ?_
  refine jk_getR (pc := 43) hX 0 5 rfl rfl (r := 23) rfl ?_
  refine jk_const (pc := 44) hX 0 rfl (by decide) ?_
  refine jk_aload (pc := 45) hX 0 rfl rfl ?_
  refine jk_getR (pc := 46) hX 0 5 rfl rfl (r := 10) rfl ?_
  refine jk_const (pc := 47) hX 0 rfl (by decide) ?_
  refine jk_const (pc := 48) hX 20 rfl (by decide) ?_
  refine jk_copy (pc := 49) hX 20 20 rfl (by omega) (Nat.le_of_ble_eq_true rfl) rfl rfl (by decide) ?_
  refine jk_aload (pc := 50) hX 0 rfl rfl ?_
  refine jk_aload (pc := 51) hX 1 rfl rfl ?_
  refine jk_getI (pc := 52) hX 0 6 rfl rfl rfl (jx_vX ((jx_cpc (by decide)).trans ((jx_cpc (by decide)).trans ((jx_cpc (by decide)).trans ((jx_cpc (by decide)).trans ((jx_cpc (by decide)).trans (jx_cpc (by decide))))))) ?_)
  refine jk_put (pc := 53) hX 0 6 rfl rfl rfl ?_
  exact jk_vret (pc := 54) hX rfl h
set_option maxHeartbeats 4000000 in
theorem bk_M_copyFrom_k0_0 {d : Nat} {K : jxK} {X : jxX} (hX : jx_clo jx_G1 (d + 2) (jx_call jx_G1 jx_T (d + 2)) kc_M_copyFrom K X) (M : jxM)
    (h : jx_call jx_G1 jx_T (d + 2) 0 [.inr 18, .inr 5] M (fun r M2 => r = none ∧ K none (jx_up (jx_up (jx_cp (jx_cp (jx_cp M2 12 0 25 0 49) 13 0 26 0 16) 14 0 27 0 17) 17 4 (M2 4 4)) 17 5 (M2 4 5)))) :
    X 0 [.inr 17, .inr 4] [] M := by
  refine jk_aload (pc := 0) hX 0 rfl rfl ?_
  refine jk_getR (pc := 1) hX 3 0 rfl rfl (r := 17) rfl ?_
  refine jk_aload (pc := 2) hX 1 rfl rfl ?_
  refine jk_getR (pc := 3) hX 3 0 rfl rfl (r := 4) rfl ?_
  refine jk_cv (pc := 4) hX 0 1 0 rfl 18 [.inr 5] [] rfl rfl rfl (Nat.le_of_ble_eq_true rfl) (jx_mono (fun r M2 hr => ?_) h)
  obtain ⟨rfl, h3⟩ := hr
  show X 5 [.inr 17, .inr 4] [] M2
  refine jk_aload (pc := 5) hX 1 rfl rfl ?_
  refine jk_getR (pc := 6) hX 3 1 rfl rfl (r := 11) rfl ?_
  refine jk_const (pc := 7) hX 0 rfl (by decide) ?_
  refine jk_aload (pc := 8) hX 0 rfl rfl ?_
  refine jk_getR (pc := 9) hX 3 1 rfl rfl (r := 24) rfl ?_
  refine jk_const (pc := 10) hX 0 rfl (by decide) ?_
  refine jk_aload (pc := 11) hX 0 rfl rfl ?_
  refine jk_getR (pc := 12) hX 3 1 rfl rfl (r := 24) rfl ?_
  refine jk_alen (pc := 13) hX 49 rfl rfl ?_
  refine jk_copy (pc := 14) hX 49 49 rfl (by omega) (Nat.le_of_ble_eq_true rfl) rfl rfl (by decide) ?_
  refine jk_aload (pc := 15) hX 1 rfl rfl ?_
  refine jk_getR (pc := 16) hX 3 2 rfl rfl (r := 12) rfl ?_
  refine jk_const (pc := 17) hX 0 rfl (by decide) ?_
  refine jk_aload (pc := 18) hX 0 rfl rfl ?_
  refine jk_getR (pc := 19) hX 3 2 rfl rfl (r := 25) rfl ?_
  refine jk_const (pc := 20) hX 0 rfl (by decide) ?_
  refine jk_const (pc := 21) hX 16 rfl (by decide) ?_
  refine jk_copy (pc := 22) hX 16 16 rfl (by omega) (Nat.le_of_ble_eq_true rfl) rfl rfl (by decide) ?_
  refine jk_aload (pc := 23) hX 1 rfl rfl ?_
  refine jk_getR (pc := 24) hX 3 3 rfl rfl (r := 13) rfl ?_
  refine jk_const (pc := 25) hX 0 rfl (by decide) ?_
  refine jk_aload (pc := 26) hX 0 rfl rfl ?_
  refine jk_getR (pc := 27) hX 3 3 rfl rfl (r := 26) rfl ?_
  refine jk_const (pc := 28) hX 0 rfl (by decide) ?_
  refine jk_const (pc := 29) hX 17 rfl (by decide) ?_
  refine jk_copy (pc := 30) hX 17 17 rfl (by omega) (Nat.le_of_ble_eq_true rfl) rfl rfl (by decide) ?_
  refine jk_aload (pc := 31) hX 0 rfl rfl ?_
  refine jk_aload (pc := 32) hX 1 rfl rfl ?_
  refine jk_getI (pc := 33) hX 3 4 rfl rfl rfl (jx_vX ((jx_cpc (by decide)).trans ((jx_cpc (by decide)).trans (jx_cpc (by decide)))) ?_)
  refine jk_put (pc := 34) hX 3 4 rfl rfl rfl ?_
  refine jk_aload (pc := 35) hX 0 rfl rfl ?_
  refine jk_aload (pc := 36) hX 1 rfl rfl ?_
  refine jk_getI (pc := 37) hX 3 5 rfl rfl rfl (jx_vX ((jx_upc (by decide)).trans ((jx_cpc (by decide)).trans ((jx_cpc (by decide)).trans (jx_cpc (by decide))))) ?_)
  refine jk_put (pc := 38) hX 3 5 rfl rfl rfl ?_
  exact jk_vret (pc := 39) hX rfl h3
set_option maxHeartbeats 4000000 in
theorem bk_M_copyFrom_b0_0 {d : Nat} {K : jxK} {X : jxX} (hX : jx_clo jx_G1 (d + 2) (jx_call jx_G1 jx_T (d + 2)) kc_M_copyFrom K X) (M : jxM)
    (h : jx_call jx_G1 jx_T (d + 2) 0 [.inr 5, .inr 18] M (fun r M2 => r = none ∧ K none (jx_up (jx_up (jx_cp (jx_cp (jx_cp M2 25 0 12 0 49) 26 0 13 0 16) 27 0 14 0 17) 4 4 (M2 17 4)) 4 5 (M2 17 5)))) :
    X 0 [.inr 4, .inr 17] [] M := by
  refine jk_aload (pc := 0) hX 0 rfl rfl ?_
  refine jk_getR (pc := 1) hX 3 0 rfl rfl (r := 4) rfl ?_
  refine jk_aload (pc := 2) hX 1 rfl rfl ?_
  refine jk_getR (pc := 3) hX 3 0 rfl rfl (r := 17) rfl ?_
  refine jk_cv (pc := 4) hX 0 1 0 rfl 5 [.inr 18] [] rfl rfl rfl (Nat.le_of_ble_eq_true rfl) (jx_mono (fun r M2 hr => ?_) h)
  obtain ⟨rfl, h3⟩ := hr
  show X 5 [.inr 4, .inr 17] [] M2
  refine jk_aload (pc := 5) hX 1 rfl rfl ?_
  refine jk_getR (pc := 6) hX 3 1 rfl rfl (r := 24) rfl ?_
  refine jk_const (pc := 7) hX 0 rfl (by decide) ?_
  refine jk_aload (pc := 8) hX 0 rfl rfl ?_
  refine jk_getR (pc := 9) hX 3 1 rfl rfl (r := 11) rfl ?_
  refine jk_const (pc := 10) hX 0 rfl (by decide) ?_
  refine jk_aload (pc := 11) hX 0 rfl rfl ?_
  refine jk_getR (pc := 12) hX 3 1 rfl rfl (r := 11) rfl ?_
  refine jk_alen (pc := 13) hX 49 rfl rfl ?_
  refine jk_copy (pc := 14) hX 49 49 rfl (by omega) (Nat.le_of_ble_eq_true rfl) rfl rfl (by decide) ?_
  refine jk_aload (pc := 15) hX 1 rfl rfl ?_
  refine jk_getR (pc := 16) hX 3 2 rfl rfl (r := 25) rfl ?_
  refine jk_const (pc := 17) hX 0 rfl (by decide) ?_
  refine jk_aload (pc := 18) hX 0 rfl rfl ?_
  refine jk_getR (pc := 19) hX 3 2 rfl rfl (r := 12) rfl ?_
  refine jk_const (pc := 20) hX 0 rfl (by decide) ?_
  refine jk_const (pc := 21) hX 16 rfl (by decide) ?_
  refine jk_copy (pc := 22) hX 16 16 rfl (by omega) (Nat.le_of_ble_eq_true rfl) rfl rfl (by decide) ?_
  refine jk_aload (pc := 23) hX 1 rfl rfl ?_
  refine jk_getR (pc := 24) hX 3 3 rfl rfl (r := 26) rfl ?_
  refine jk_const (pc := 25) hX 0 rfl (by decide) ?_
  refine jk_aload (pc := 26) hX 0 rfl rfl ?_
  refine jk_getR (pc := 27) hX 3 3 rfl rfl (r := 13) rfl ?_
  refine jk_const (pc := 28) hX 0 rfl (by decide) ?_
  refine jk_const (pc := 29) hX 17 rfl (by decide) ?_
  refine jk_copy (pc := 30) hX 17 17 rfl (by omega) (Nat.le_of_ble_eq_true rfl) rfl rfl (by decide) ?_
  refine jk_aload (pc := 31) hX 0 rfl rfl ?_
  refine jk_aload (pc := 32) hX 1 rfl rfl ?_
  refine jk_getI (pc := 33) hX 3 4 rfl rfl rfl (jx_vX ((jx_cpc (by decide)).trans ((jx_cpc (by decide)).trans (jx_cpc (by decide)))) ?_)
  refine jk_put (pc := 34) hX 3 4 rfl rfl rfl ?_
  refine jk_aload (pc := 35) hX 0 rfl rfl ?_
  refine jk_aload (pc := 36) hX 1 rfl rfl ?_
  refine jk_getI (pc := 37) hX 3 5 rfl rfl rfl (jx_vX ((jx_upc (by decide)).trans ((jx_cpc (by decide)).trans ((jx_cpc (by decide)).trans (jx_cpc (by decide))))) ?_)
  refine jk_put (pc := 38) hX 3 5 rfl rfl rfl ?_
  exact jk_vret (pc := 39) hX rfl h3
set_option maxHeartbeats 4000000 in
theorem bk_D_copyFrom_k1_0 {d : Nat} {K : jxK} {X : jxX} (hX : jx_clo jx_G1 (d + 1) (jx_call jx_G1 jx_T (d + 1)) kc_D_copyFrom K X) (M : jxM)
    (h : K none (jx_up (jx_cp (jx_cp (jx_cp (jx_cp (jx_cp (jx_cp M 6 0 30 0 120) 7 0 31 0 20) 8 0 32 0 20) 9 0 33 0 20) 10 0 34 0 20) 11 0 35 0 20) 29 6 (M 5 6))) :
    X 0 [.inr 29, .inr 5] [] M := by
  refine jk_aload (pc := 0) hX 1 rfl rfl ?_
  refine jk_getR (pc := 1) hX 0 0 rfl rfl (r := 5) rfl ?_
  refine jk_const (pc := 2) hX 0 rfl (by decide) ?_
  refine jk_aload (pc := 3) hX 0 rfl rfl ?_
  refine jk_getR (pc := 4) hX 0 0 rfl rfl (r := 29) rfl ?_
  refine jk_const (pc := 5) hX 0 rfl (by decide) ?_
  refine jk_aload (pc := 6) hX 0 rfl rfl ?_
  refine jk_getR (pc := 7) hX 0 0 rfl rfl (r := 29) rfl ?_
  refine jk_alen (pc := 8) hX 120 rfl rfl ?_
  refine jk_copy (pc := 9) hX 120 120 rfl (by omega) (Nat.le_of_ble_eq_true rfl) rfl rfl (by decide) ?_
  refine jk_aload (pc := 10) hX 1 rfl rfl ?_
  refine jk_getR (pc := 11) hX 0 1 rfl rfl (r := 6) rfl ?_
  refine jk_const (pc := 12) hX 0 rfl (by decide) ?_
  refine jk_aload (pc := 13) hX 0 rfl rfl ?_
  refine jk_getR (pc := 14) hX 0 1 rfl rfl (r := 30) rfl ?_
  refine jk_const (pc := 15) hX 0 rfl (by decide) ?_
  refine jk_const (pc := 16) hX 20 rfl (by decide) ?_
  refine jk_copy (pc := 17) hX 20 20 rfl (by omega) (Nat.le_of_ble_eq_true rfl) rfl rfl (by decide) ?_
  refine jk_aload (pc := 18) hX 1 rfl rfl ?_
  refine jk_getR (pc := 19) hX 0 2 rfl rfl (r := 7) rfl ?_
  refine jk_const (pc := 20) hX 0 rfl (by decide) ?_
  refine jk_aload (pc := 21) hX 0 rfl rfl ?_
  refine jk_getR (pc := 22) hX 0 2 rfl rfl (r := 31) rfl ?_
  refine jk_const (pc := 23) hX 0 rfl (by decide) ?_
  refine jk_const (pc := 24) hX 20 rfl (by decide) ?_
  refine jk_copy (pc := 25) hX 20 20 rfl (by omega) (Nat.le_of_ble_eq_true rfl) rfl rfl (by decide) ?_
  refine jk_aload (pc := 26) hX 1 rfl rfl ?_
  refine jk_getR (pc := 27) hX 0 3 rfl rfl (r := 8) rfl ?_
  refine jk_const (pc := 28) hX 0 rfl (by decide) ?_
  refine jk_aload (pc := 29) hX 0 rfl rfl ?_
  refine jk_getR (pc := 30) hX 0 3 rfl rfl (r := 32) rfl ?_
  refine jk_const (pc := 31) hX 0 rfl (by decide) ?_
  refine jk_const (pc := 32) hX 20 rfl (by decide) ?_
  refine jk_copy (pc := 33) hX 20 20 rfl (by omega) (Nat.le_of_ble_eq_true rfl) rfl rfl (by decide) ?_
  refine jk_aload (pc := 34) hX 1 rfl rfl ?_
  refine jk_getR (pc := 35) hX 0 4 rfl rfl (r := 9) rfl ?_
  refine jk_const (pc := 36) hX 0 rfl (by decide) ?_
  refine jk_aload (pc := 37) hX 0 rfl rfl ?_
  refine jk_getR (pc := 38) hX 0 4 rfl rfl (r := 33) rfl ?_
  refine jk_const (pc := 39) hX 0 rfl (by decide) ?_
  refine jk_const (pc := 40) hX 20 rfl (by decide) ?_
  refine jk_copy (pc := 41) hX 20 20 rfl (by omega) (Nat.le_of_ble_eq_true rfl) rfl rfl (by decide) ?_
  refine jk_aload (pc := 42) hX 1 rfl rfl ?_
  refine jk_getR (pc := 43) hX 0 5 rfl rfl (r := 10) rfl ?_
  refine jk_const (pc := 44) hX 0 rfl (by decide) ?_
  refine jk_aload (pc := 45) hX 0 rfl rfl ?_
  refine jk_getR (pc := 46) hX 0 5 rfl rfl (r := 34) rfl ?_
  refine jk_const (pc := 47) hX 0 rfl (by decide) ?_
  refine jk_const (pc := 48) hX 20 rfl (by decide) ?_
  refine jk_copy (pc := 49) hX 20 20 rfl (by omega) (Nat.le_of_ble_eq_true rfl) rfl rfl (by decide) ?_
  refine jk_aload (pc := 50) hX 0 rfl rfl ?_
  refine jk_aload (pc := 51) hX 1 rfl rfl ?_
  refine jk_getI (pc := 52) hX 0 6 rfl rfl rfl (jx_vX ((jx_cpc (by decide)).trans ((jx_cpc (by decide)).trans ((jx_cpc (by decide)).trans ((jx_cpc (by decide)).trans ((jx_cpc (by decide)).trans (jx_cpc (by decide))))))) ?_)
  refine jk_put (pc := 53) hX 0 6 rfl rfl rfl ?_
  exact jk_vret (pc := 54) hX rfl h
set_option maxHeartbeats 4000000 in
theorem bk_D_copyFrom_b1_0 {d : Nat} {K : jxK} {X : jxX} (hX : jx_clo jx_G1 (d + 1) (jx_call jx_G1 jx_T (d + 1)) kc_D_copyFrom K X) (M : jxM)
    (h : K none (jx_up (jx_cp (jx_cp (jx_cp (jx_cp (jx_cp (jx_cp M 30 0 6 0 120) 31 0 7 0 20) 32 0 8 0 20) 33 0 9 0 20) 34 0 10 0 20) 35 0 11 0 20) 5 6 (M 29 6))) :
    X 0 [.inr 5, .inr 29] [] M := by
  refine jk_aload (pc := 0) hX 1 rfl rfl ?_
  refine jk_getR (pc := 1) hX 0 0 rfl rfl (r := 29) rfl ?_
  refine jk_const (pc := 2) hX 0 rfl (by decide) ?_
  refine jk_aload (pc := 3) hX 0 rfl rfl ?_
  refine jk_getR (pc := 4) hX 0 0 rfl rfl (r := 5) rfl ?_
  refine jk_const (pc := 5) hX 0 rfl (by decide) ?_
  refine jk_aload (pc := 6) hX 0 rfl rfl ?_
  refine jk_getR (pc := 7) hX 0 0 rfl rfl (r := 5) rfl ?_
  refine jk_alen (pc := 8) hX 120 rfl rfl ?_
  refine jk_copy (pc := 9) hX 120 120 rfl (by omega) (Nat.le_of_ble_eq_true rfl) rfl rfl (by decide) ?_
  refine jk_aload (pc := 10) hX 1 rfl rfl ?_
  refine jk_getR (pc := 11) hX 0 1 rfl rfl (r := 30) rfl ?_
  refine jk_const (pc := 12) hX 0 rfl (by decide) ?_
  refine jk_aload (pc := 13) hX 0 rfl rfl ?_
  refine jk_getR (pc := 14) hX 0 1 rfl rfl (r := 6) rfl ?_
  refine jk_const (pc := 15) hX 0 rfl (by decide) ?_
  refine jk_const (pc := 16) hX 20 rfl (by decide) ?_
  refine jk_copy (pc := 17) hX 20 20 rfl (by omega) (Nat.le_of_ble_eq_true rfl) rfl rfl (by decide) ?_
  refine jk_aload (pc := 18) hX 1 rfl rfl ?_
  refine jk_getR (pc := 19) hX 0 2 rfl rfl (r := 31) rfl ?_
  refine jk_const (pc := 20) hX 0 rfl (by decide) ?_
  refine jk_aload (pc := 21) hX 0 rfl rfl ?_
  refine jk_getR (pc := 22) hX 0 2 rfl rfl (r := 7) rfl ?_
  refine jk_const (pc := 23) hX 0 rfl (by decide) ?_
  refine jk_const (pc := 24) hX 20 rfl (by decide) ?_
  refine jk_copy (pc := 25) hX 20 20 rfl (by omega) (Nat.le_of_ble_eq_true rfl) rfl rfl (by decide) ?_
  refine jk_aload (pc := 26) hX 1 rfl rfl ?_
  refine jk_getR (pc := 27) hX 0 3 rfl rfl (r := 32) rfl ?_
  refine jk_const (pc := 28) hX 0 rfl (by decide) ?_
  refine jk_aload (pc := 29) hX 0 rfl rfl ?_
  refine jk_getR (pc := 30) hX 0 3 rfl rfl (r := 8) rfl ?_
  refine jk_const (pc := 31) hX 0 rfl (by decide) ?_
  refine jk_const (pc := 32) hX 20 rfl (by decide) ?_
  refine jk_copy (pc := 33) hX 20 20 rfl (by omega) (Nat.le_of_ble_eq_true rfl) rfl rfl (by decide) ?_
  refine jk_aload (pc := 34) hX 1 rfl rfl ?_
  refine jk_getR (pc := 35) hX 0 4 rfl rfl (r := 33) rfl ?_
  refine jk_const (pc := 36) hX 0 rfl (by decide) ?_
  refine jk_aload (pc := 37) hX 0 rfl rfl ?_
  refine jk_getR (pc := 38) hX 0 4 rfl rfl (r := 9) rfl ?_
  refine jk_const (pc := 39) hX 0 rfl (by decide) ?_
  refine jk_const (pc := 40) hX 20 rfl (by decide) ?_
  refine jk_copy (pc := 41) hX 20 20 rfl (by omega) (Nat.le_of_ble_eq_true rfl) rfl rfl (by decide) ?_
  refine jk_aload (pc := 42) hX 1 rfl rfl ?_
  refine jk_getR (pc := 43) hX 0 5 rfl rfl (r := 34) rfl ?_
  refine jk_const (pc := 44) hX 0 rfl (by decide) ?_
  refine jk_aload (pc := 45) hX 0 rfl rfl ?_
  refine jk_getR (pc := 46) hX 0 5 rfl rfl (r := 10) rfl ?_
  refine jk_const (pc := 47) hX 0 rfl (by decide) ?_
  refine jk_const (pc := 48) hX 20 rfl (by decide) ?_
  refine jk_copy (pc := 49) hX 20 20 rfl (by omega) (Nat.le_of_ble_eq_true rfl) rfl rfl (by decide) ?_
  refine jk_aload (pc := 50) hX 0 rfl rfl ?_
  refine jk_aload (pc := 51) hX 1 rfl rfl ?_
  refine jk_getI (pc := 52) hX 0 6 rfl rfl rfl (jx_vX ((jx_cpc (by decide)).trans ((jx_cpc (by decide)).trans ((jx_cpc (by decide)).trans ((jx_cpc (by decide)).trans ((jx_cpc (by decide)).trans (jx_cpc (by decide))))))) ?_)
  refine jk_put (pc := 53) hX 0 6 rfl rfl rfl ?_
  exact jk_vret (pc := 54) hX rfl h
set_option maxHeartbeats 4000000 in
theorem bk_M_copyFrom_k1_0 {d : Nat} {K : jxK} {X : jxX} (hX : jx_clo jx_G1 (d + 2) (jx_call jx_G1 jx_T (d + 2)) kc_M_copyFrom K X) (M : jxM)
    (h : jx_call jx_G1 jx_T (d + 2) 0 [.inr 29, .inr 5] M (fun r M2 => r = none ∧ K none (jx_up (jx_up (jx_cp (jx_cp (jx_cp M2 12 0 36 0 49) 13 0 37 0 16) 14 0 38 0 17) 28 4 (M2 4 4)) 28 5 (M2 4 5)))) :
    X 0 [.inr 28, .inr 4] [] M := by
  refine jk_aload (pc := 0) hX 0 rfl rfl ?_
  refine jk_getR (pc := 1) hX 3 0 rfl rfl (r := 28) rfl ?_
  refine jk_aload (pc := 2) hX 1 rfl rfl ?_
  refine jk_getR (pc := 3) hX 3 0 rfl rfl (r := 4) rfl ?_
  refine jk_cv (pc := 4) hX 0 1 0 rfl 29 [.inr 5] [] rfl rfl rfl (Nat.le_of_ble_eq_true rfl) (jx_mono (fun r M2 hr => ?_) h)
  obtain ⟨rfl, h3⟩ := hr
  show X 5 [.inr 28, .inr 4] [] M2
  refine jk_aload (pc := 5) hX 1 rfl rfl ?_
  refine jk_getR (pc := 6) hX 3 1 rfl rfl (r := 11) rfl ?_
  refine jk_const (pc := 7) hX 0 rfl (by decide) ?_
  refine jk_aload (pc := 8) hX 0 rfl rfl ?_
  refine jk_getR (pc := 9) hX 3 1 rfl rfl (r := 35) rfl ?_
  refine jk_const (pc := 10) hX 0 rfl (by decide) ?_
  refine jk_aload (pc := 11) hX 0 rfl rfl ?_
  refine jk_getR (pc := 12) hX 3 1 rfl rfl (r := 35) rfl ?_
  refine jk_alen (pc := 13) hX 49 rfl rfl ?_
  refine jk_copy (pc := 14) hX 49 49 rfl (by omega) (Nat.le_of_ble_eq_true rfl) rfl rfl (by decide) ?_
  refine jk_aload (pc := 15) hX 1 rfl rfl ?_
  refine jk_getR (pc := 16) hX 3 2 rfl rfl (r := 12) rfl ?_
  refine jk_const (pc := 17) hX 0 rfl (by decide) ?_
  refine jk_aload (pc := 18) hX 0 rfl rfl ?_
  refine jk_getR (pc := 19) hX 3 2 rfl rfl (r := 36) rfl ?_
  refine jk_const (pc := 20) hX 0 rfl (by decide) ?_
  refine jk_const (pc := 21) hX 16 rfl (by decide) ?_
  refine jk_copy (pc := 22) hX 16 16 rfl (by omega) (Nat.le_of_ble_eq_true rfl) rfl rfl (by decide) ?_
  refine jk_aload (pc := 23) hX 1 rfl rfl ?_
  refine jk_getR (pc := 24) hX 3 3 rfl rfl (r := 13) rfl ?_
  refine jk_const (pc := 25) hX 0 rfl (by decide) ?_
  refine jk_aload (pc := 26) hX 0 rfl rfl ?_
  refine jk_getR (pc := 27) hX 3 3 rfl rfl (r := 37) rfl ?_
  refine jk_const (pc := 28) hX 0 rfl (by decide) ?_
  refine jk_const (pc := 29) hX 17 rfl (by decide) ?_
  refine jk_copy (pc := 30) hX 17 17 rfl (by omega) (Nat.le_of_ble_eq_true rfl) rfl rfl (by decide) ?_
  refine jk_aload (pc := 31) hX 0 rfl rfl ?_
  refine jk_aload (pc := 32) hX 1 rfl rfl ?_
  refine jk_getI (pc := 33) hX 3 4 rfl rfl rfl (jx_vX ((jx_cpc (by decide)).trans ((jx_cpc (by decide)).trans (jx_cpc (by decide)))) ?_)
  refine jk_put (pc := 34) hX 3 4 rfl rfl rfl ?_
  refine jk_aload (pc := 35) hX 0 rfl rfl ?_
  refine jk_aload (pc := 36) hX 1 rfl rfl ?_
  refine jk_getI (pc := 37) hX 3 5 rfl rfl rfl (jx_vX ((jx_upc (by decide)).trans ((jx_cpc (by decide)).trans ((jx_cpc (by decide)).trans (jx_cpc (by decide))))) ?_)
  refine jk_put (pc := 38) hX 3 5 rfl rfl rfl ?_
  exact jk_vret (pc := 39) hX rfl h3
set_option maxHeartbeats 4000000 in
theorem bk_M_copyFrom_b1_0 {d : Nat} {K : jxK} {X : jxX} (hX : jx_clo jx_G1 (d + 2) (jx_call jx_G1 jx_T (d + 2)) kc_M_copyFrom K X) (M : jxM)
    (h : jx_call jx_G1 jx_T (d + 2) 0 [.inr 5, .inr 29] M (fun r M2 => r = none ∧ K none (jx_up (jx_up (jx_cp (jx_cp (jx_cp M2 36 0 12 0 49) 37 0 13 0 16) 38 0 14 0 17) 4 4 (M2 28 4)) 4 5 (M2 28 5)))) :
    X 0 [.inr 4, .inr 28] [] M := by
  refine jk_aload (pc := 0) hX 0 rfl rfl ?_
  refine jk_getR (pc := 1) hX 3 0 rfl rfl (r := 4) rfl ?_
  refine jk_aload (pc := 2) hX 1 rfl rfl ?_
  refine jk_getR (pc := 3) hX 3 0 rfl rfl (r := 28) rfl ?_
  refine jk_cv (pc := 4) hX 0 1 0 rfl 5 [.inr 29] [] rfl rfl rfl (Nat.le_of_ble_eq_true rfl) (jx_mono (fun r M2 hr => ?_) h)
  obtain ⟨rfl, h3⟩ := hr
  show X 5 [.inr 4, .inr 28] [] M2
  refine jk_aload (pc := 5) hX 1 rfl rfl ?_
  refine jk_getR (pc := 6) hX 3 1 rfl rfl (r := 35) rfl ?_
  refine jk_const (pc := 7) hX 0 rfl (by decide) ?_
  refine jk_aload (pc := 8) hX 0 rfl rfl ?_
  refine jk_getR (pc := 9) hX 3 1 rfl rfl (r := 11) rfl ?_
  refine jk_const (pc := 10) hX 0 rfl (by decide) ?_
  refine jk_aload (pc := 11) hX 0 rfl rfl ?_
  refine jk_getR (pc := 12) hX 3 1 rfl rfl (r := 11) rfl ?_
  refine jk_alen (pc := 13) hX 49 rfl rfl ?_
  refine jk_copy (pc := 14) hX 49 49 rfl (by omega) (Nat.le_of_ble_eq_true rfl) rfl rfl (by decide) ?_
  refine jk_aload (pc := 15) hX 1 rfl rfl ?_
  refine jk_getR (pc := 16) hX 3 2 rfl rfl (r := 36) rfl ?_
  refine jk_const (pc := 17) hX 0 rfl (by decide) ?_
  refine jk_aload (pc := 18) hX 0 rfl rfl ?_
  refine jk_getR (pc := 19) hX 3 2 rfl rfl (r := 12) rfl ?_
  refine jk_const (pc := 20) hX 0 rfl (by decide) ?_
  refine jk_const (pc := 21) hX 16 rfl (by decide) ?_
  refine jk_copy (pc := 22) hX 16 16 rfl (by omega) (Nat.le_of_ble_eq_true rfl) rfl rfl (by decide) ?_
  refine jk_aload (pc := 23) hX 1 rfl rfl ?_
  refine jk_getR (pc := 24) hX 3 3 rfl rfl (r := 37) rfl ?_
  refine jk_const (pc := 25) hX 0 rfl (by decide) ?_
  refine jk_aload (pc := 26) hX 0 rfl rfl ?_
  refine jk_getR (pc := 27) hX 3 3 rfl rfl (r := 13) rfl ?_
  refine jk_const (pc := 28) hX 0 rfl (by decide) ?_
  refine jk_const (pc := 29) hX 17 rfl (by decide) ?_
  refine jk_copy (pc := 30) hX 17 17 rfl (by omega) (Nat.le_of_ble_eq_true rfl) rfl rfl (by decide) ?_
  refine jk_aload (pc := 31) hX 0 rfl rfl ?_
  refine jk_aload (pc := 32) hX 1 rfl rfl ?_
  refine jk_getI (pc := 33) hX 3 4 rfl rfl rfl (jx_vX ((jx_cpc (by decide)).trans ((jx_cpc (by decide)).trans (jx_cpc (by decide)))) ?_)
  refine jk_put (pc := 34) hX 3 4 rfl rfl rfl ?_
  refine jk_aload (pc := 35) hX 0 rfl rfl ?_
  refine jk_aload (pc := 36) hX 1 rfl rfl ?_
  refine jk_getI (pc := 37) hX 3 5 rfl rfl rfl (jx_vX ((jx_upc (by decide)).trans ((jx_cpc (by decide)).trans ((jx_cpc (by decide)).trans (jx_cpc (by decide))))) ?_)
  refine jk_put (pc := 38) hX 3 5 rfl rfl rfl ?_
  exact jk_vret (pc := 39) hX rfl h3
set_option maxHeartbeats 4000000 in
theorem bk_D_copyFrom_k2_0 {d : Nat} {K : jxK} {X : jxX} (hX : jx_clo jx_G1 (d + 1) (jx_call jx_G1 jx_T (d + 1)) kc_D_copyFrom K X) (M : jxM)
    (h : K none (jx_up (jx_cp (jx_cp (jx_cp (jx_cp (jx_cp (jx_cp M 6 0 41 0 120) 7 0 42 0 20) 8 0 43 0 20) 9 0 44 0 20) 10 0 45 0 20) 11 0 46 0 20) 40 6 (M 5 6))) :
    X 0 [.inr 40, .inr 5] [] M := by
  refine jk_aload (pc := 0) hX 1 rfl rfl ?_
  refine jk_getR (pc := 1) hX 0 0 rfl rfl (r := 5) rfl ?_
  refine jk_const (pc := 2) hX 0 rfl (by decide) ?_
  refine jk_aload (pc := 3) hX 0 rfl rfl ?_
  refine jk_getR (pc := 4) hX 0 0 rfl rfl (r := 40) rfl ?_
  refine jk_const (pc := 5) hX 0 rfl (by decide) ?_
  refine jk_aload (pc := 6) hX 0 rfl rfl ?_
  refine jk_getR (pc := 7) hX 0 0 rfl rfl (r := 40) rfl ?_
  refine jk_alen (pc := 8) hX 120 rfl rfl ?_
  refine jk_copy (pc := 9) hX 120 120 rfl (by omega) (Nat.le_of_ble_eq_true rfl) rfl rfl (by decide) ?_
  refine jk_aload (pc := 10) hX 1 rfl rfl ?_
  refine jk_getR (pc := 11) hX 0 1 rfl rfl (r := 6) rfl ?_
  refine jk_const (pc := 12) hX 0 rfl (by decide) ?_
  refine jk_aload (pc := 13) hX 0 rfl rfl ?_
  refine jk_getR (pc := 14) hX 0 1 rfl rfl (r := 41) rfl ?_
  refine jk_const (pc := 15) hX 0 rfl (by decide) ?_
  refine jk_const (pc := 16) hX 20 rfl (by decide) ?_
  refine jk_copy (pc := 17) hX 20 20 rfl (by omega) (Nat.le_of_ble_eq_true rfl) rfl rfl (by decide) ?_
  refine jk_aload (pc := 18) hX 1 rfl rfl ?_
  refine jk_getR (pc := 19) hX 0 2 rfl rfl (r := 7) rfl ?_
  refine jk_const (pc := 20) hX 0 rfl (by decide) ?_
  refine jk_aload (pc := 21) hX 0 rfl rfl ?_
  refine jk_getR (pc := 22) hX 0 2 rfl rfl (r := 42) rfl ?_
  refine jk_const (pc := 23) hX 0 rfl (by decide) ?_
  refine jk_const (pc := 24) hX 20 rfl (by decide) ?_
  refine jk_copy (pc := 25) hX 20 20 rfl (by omega) (Nat.le_of_ble_eq_true rfl) rfl rfl (by decide) ?_
  refine jk_aload (pc := 26) hX 1 rfl rfl ?_
  refine jk_getR (pc := 27) hX 0 3 rfl rfl (r := 8) rfl ?_
  refine jk_const (pc := 28) hX 0 rfl (by decide) ?_
  refine jk_aload (pc := 29) hX 0 rfl rfl ?_
  refine jk_getR (pc := 30) hX 0 3 rfl rfl (r := 43) rfl ?_
  refine jk_const (pc := 31) hX 0 rfl (by decide) ?_
  refine jk_const (pc := 32) hX 20 rfl (by decide) ?_
  refine jk_copy (pc := 33) hX 20 20 rfl (by omega) (Nat.le_of_ble_eq_true rfl) rfl rfl (by decide) ?_
  refine jk_aload (pc := 34) hX 1 rfl rfl ?_
  refine jk_getR (pc := 35) hX 0 4 rfl rfl (r := 9) rfl ?_
  refine jk_const (pc := 36) hX 0 rfl (by decide) ?_
  refine jk_aload (pc := 37) hX 0 rfl rfl ?_
  refine jk_getR (pc := 38) hX 0 4 rfl rfl (r := 44) rfl ?_
  refine jk_const (pc := 39) hX 0 rfl (by decide) ?_
  refine jk_const (pc := 40) hX 20 rfl (by decide) ?_
  refine jk_copy (pc := 41) hX 20 20 rfl (by omega) (Nat.le_of_ble_eq_true rfl) rfl rfl (by decide) ?_
  refine jk_aload (pc := 42) hX 1 rfl rfl ?_
  refine jk_getR (pc := 43) hX 0 5 rfl rfl (r := 10) rfl ?_
  refine jk_const (pc := 44) hX 0 rfl (by decide) ?_
  refine jk_aload (pc := 45) hX 0 rfl rfl ?_
  refine jk_getR (pc := 46) hX 0 5 rfl rfl (r := 45) rfl ?_
  refine jk_const (pc := 47) hX 0 rfl (by decide) ?_
  refine jk_const (pc := 48) hX 20 rfl (by decide) ?_
  refine jk_copy (pc := 49) hX 20 20 rfl (by omega) (Nat.le_of_ble_eq_true rfl) rfl rfl (by decide) ?_
  refine jk_aload (pc := 50) hX 0 rfl rfl ?_
  refine jk_aload (pc := 51) hX 1 rfl rfl ?_
  refine jk_getI (pc := 52) hX 0 6 rfl rfl rfl (jx_vX ((jx_cpc (by decide)).trans ((jx_cpc (by decide)).trans ((jx_cpc (by decide)).trans ((jx_cpc (by decide)).trans ((jx_cpc (by decide)).trans (jx_cpc (by decide))))))) ?_)
  refine jk_put (pc := 53) hX 0 6 rfl rfl rfl ?_
  exact jk_vret (pc := 54) hX rfl h
set_option maxHeartbeats 4000000 in
theorem bk_D_copyFrom_b2_0 {d : Nat} {K : jxK} {X : jxX} (hX : jx_clo jx_G1 (d + 1) (jx_call jx_G1 jx_T (d + 1)) kc_D_copyFrom K X) (M : jxM)
    (h : K none (jx_up (jx_cp (jx_cp (jx_cp (jx_cp (jx_cp (jx_cp M 41 0 6 0 120) 42 0 7 0 20) 43 0 8 0 20) 44 0 9 0 20) 45 0 10 0 20) 46 0 11 0 20) 5 6 (M 40 6))) :
    X 0 [.inr 5, .inr 40] [] M := by
  refine jk_aload (pc := 0) hX 1 rfl rfl ?_
  refine jk_getR (pc := 1) hX 0 0 rfl rfl (r := 40) rfl ?_
  refine jk_const (pc := 2) hX 0 rfl (by decide) ?_
  refine jk_aload (pc := 3) hX 0 rfl rfl ?_
  refine jk_getR (pc := 4) hX 0 0 rfl rfl (r := 5) rfl ?_
  refine jk_const (pc := 5) hX 0 rfl (by decide) ?_
  refine jk_aload (pc := 6) hX 0 rfl rfl ?_
  refine jk_getR (pc := 7) hX 0 0 rfl rfl (r := 5) rfl ?_
  refine jk_alen (pc := 8) hX 120 rfl rfl ?_
  refine jk_copy (pc := 9) hX 120 120 rfl (by omega) (Nat.le_of_ble_eq_true rfl) rfl rfl (by decide) ?_
  refine jk_aload (pc := 10) hX 1 rfl rfl ?_
  refine jk_getR (pc := 11) hX 0 1 rfl rfl (r := 41) rfl ?_
  refine jk_const (pc := 12) hX 0 rfl (by decide) ?_
  refine jk_aload (pc := 13) hX 0 rfl rfl ?_
  refine jk_getR (pc := 14) hX 0 1 rfl rfl (r := 6) rfl ?_
  refine jk_const (pc := 15) hX 0 rfl (by decide) ?_
  refine jk_const (pc := 16) hX 20 rfl (by decide) ?_
  refine jk_copy (pc := 17) hX 20 20 rfl (by omega) (Nat.le_of_ble_eq_true rfl) rfl rfl (by decide) ?_
  refine jk_aload (pc := 18) hX 1 rfl rfl ?_
  refine jk_getR (pc := 19) hX 0 2 rfl rfl (r := 42) rfl ?_
  refine jk_const (pc := 20) hX 0 rfl (by decide) ?_
  refine jk_aload (pc := 21) hX 0 rfl rfl ?_
  refine jk_getR (pc := 22) hX 0 2 rfl rfl (r := 7) rfl ?_
  refine jk_const (pc := 23) hX 0 rfl (by decide) ?_
  refine jk_const (pc := 24) hX 20 rfl (by decide) ?_
  refine jk_copy (pc := 25) hX 20 20 rfl (by omega) (Nat.le_of_ble_eq_true rfl) rfl rfl (by decide) ?_
  refine jk_aload (pc := 26) hX 1 rfl rfl ?_
  refine jk_getR (pc := 27) hX 0 3 rfl rfl (r := 43) rfl ?_
  refine jk_const (pc := 28) hX 0 rfl (by decide) ?_
  refine jk_aload (pc := 29) hX 0 rfl rfl ?_
  refine jk_getR (pc := 30) hX 0 3 rfl rfl (r := 8) rfl ?_
  refine jk_const (pc := 31) hX 0 rfl (by decide) ?_
  refine jk_const (pc := 32) hX 20 rfl (by decide) ?_
  refine jk_copy (pc := 33) hX 20 20 rfl (by omega) (Nat.le_of_ble_eq_true rfl) rfl rfl (by decide) ?_
  refine jk_aload (pc := 34) hX 1 rfl rfl ?_
  refine jk_getR (pc := 35) hX 0 4 rfl rfl (r := 44) rfl ?_
  refine jk_const (pc := 36) hX 0 rfl (by decide) ?_
  refine jk_aload (pc := 37) hX 0 rfl rfl ?_
  refine jk_getR (pc := 38) hX 0 4 rfl rfl (r := 9) rfl ?_
  refine jk_const (pc := 39) hX 0 rfl (by decide) ?_
  refine jk_const (pc := 40) hX 20 rfl (by decide) ?_
  refine jk_copy (pc := 41) hX 20 20 rfl (by omega) (Nat.le_of_ble_eq_true rfl) rfl rfl (by decide) ?_
  refine jk_aload (pc := 42) hX 1 rfl rfl ?_
  refine jk_getR (pc := 43) hX 0 5 rfl rfl (r := 45) rfl ?_
  refine jk_const (pc := 44) hX 0 rfl (by decide) ?_
  refine jk_aload (pc := 45) hX 0 rfl rfl ?_
  refine jk_getR (pc := 46) hX 0 5 rfl rfl (r := 10) rfl ?_
  refine jk_const (pc := 47) hX 0 rfl (by decide) ?_
  refine jk_const (pc := 48) hX 20 rfl (by decide) ?_
  refine jk_copy (pc := 49) hX 20 20 rfl (by omega) (Nat.le_of_ble_eq_true rfl) rfl rfl (by decide) ?_
  refine jk_aload (pc := 50) hX 0 rfl rfl ?_
  refine jk_aload (pc := 51) hX 1 rfl rfl ?_
  refine jk_getI (pc := 52) hX 0 6 rfl rfl rfl (jx_vX ((jx_cpc (by decide)).trans ((jx_cpc (by decide)).trans ((jx_cpc (by decide)).trans ((jx_cpc (by decide)).trans ((jx_cpc (by decide)).trans (jx_cpc (by decide))))))) ?_)
  refine jk_put (pc := 53) hX 0 6 rfl rfl rfl ?_
  exact jk_vret (pc := 54) hX rfl h
set_option maxHeartbeats 4000000 in
theorem bk_M_copyFrom_k2_0 {d : Nat} {K : jxK} {X : jxX} (hX : jx_clo jx_G1 (d + 2) (jx_call jx_G1 jx_T (d + 2)) kc_M_copyFrom K X) (M : jxM)
    (h : jx_call jx_G1 jx_T (d + 2) 0 [.inr 40, .inr 5] M (fun r M2 => r = none ∧ K none (jx_up (jx_up (jx_cp (jx_cp (jx_cp M2 12 0 47 0 49) 13 0 48 0 16) 14 0 49 0 17) 39 4 (M2 4 4)) 39 5 (M2 4 5)))) :
    X 0 [.inr 39, .inr 4] [] M := by
  refine jk_aload (pc := 0) hX 0 rfl rfl ?_
  refine jk_getR (pc := 1) hX 3 0 rfl rfl (r := 39) rfl ?_
  refine jk_aload (pc := 2) hX 1 rfl rfl ?_
  refine jk_getR (pc := 3) hX 3 0 rfl rfl (r := 4) rfl ?_
  refine jk_cv (pc := 4) hX 0 1 0 rfl 40 [.inr 5] [] rfl rfl rfl (Nat.le_of_ble_eq_true rfl) (jx_mono (fun r M2 hr => ?_) h)
  obtain ⟨rfl, h3⟩ := hr
  show X 5 [.inr 39, .inr 4] [] M2
  refine jk_aload (pc := 5) hX 1 rfl rfl ?_
  refine jk_getR (pc := 6) hX 3 1 rfl rfl (r := 11) rfl ?_
  refine jk_const (pc := 7) hX 0 rfl (by decide) ?_
  refine jk_aload (pc := 8) hX 0 rfl rfl ?_
  refine jk_getR (pc := 9) hX 3 1 rfl rfl (r := 46) rfl ?_
  refine jk_const (pc := 10) hX 0 rfl (by decide) ?_
  refine jk_aload (pc := 11) hX 0 rfl rfl ?_
  refine jk_getR (pc := 12) hX 3 1 rfl rfl (r := 46) rfl ?_
  refine jk_alen (pc := 13) hX 49 rfl rfl ?_
  refine jk_copy (pc := 14) hX 49 49 rfl (by omega) (Nat.le_of_ble_eq_true rfl) rfl rfl (by decide) ?_
  refine jk_aload (pc := 15) hX 1 rfl rfl ?_
  refine jk_getR (pc := 16) hX 3 2 rfl rfl (r := 12) rfl ?_
  refine jk_const (pc := 17) hX 0 rfl (by decide) ?_
  refine jk_aload (pc := 18) hX 0 rfl rfl ?_
  refine jk_getR (pc := 19) hX 3 2 rfl rfl (r := 47) rfl ?_
  refine jk_const (pc := 20) hX 0 rfl (by decide) ?_
  refine jk_const (pc := 21) hX 16 rfl (by decide) ?_
  refine jk_copy (pc := 22) hX 16 16 rfl (by omega) (Nat.le_of_ble_eq_true rfl) rfl rfl (by decide) ?_
  refine jk_aload (pc := 23) hX 1 rfl rfl ?_
  refine jk_getR (pc := 24) hX 3 3 rfl rfl (r := 13) rfl ?_
  refine jk_const (pc := 25) hX 0 rfl (by decide) ?_
  refine jk_aload (pc := 26) hX 0 rfl rfl ?_
  refine jk_getR (pc := 27) hX 3 3 rfl rfl (r := 48) rfl ?_
  refine jk_const (pc := 28) hX 0 rfl (by decide) ?_
  refine jk_const (pc := 29) hX 17 rfl (by decide) ?_
  refine jk_copy (pc := 30) hX 17 17 rfl (by omega) (Nat.le_of_ble_eq_true rfl) rfl rfl (by decide) ?_
  refine jk_aload (pc := 31) hX 0 rfl rfl ?_
  refine jk_aload (pc := 32) hX 1 rfl rfl ?_
  refine jk_getI (pc := 33) hX 3 4 rfl rfl rfl (jx_vX ((jx_cpc (by decide)).trans ((jx_cpc (by decide)).trans (jx_cpc (by decide)))) ?_)
  refine jk_put (pc := 34) hX 3 4 rfl rfl rfl ?_
  refine jk_aload (pc := 35) hX 0 rfl rfl ?_
  refine jk_aload (pc := 36) hX 1 rfl rfl ?_
  refine jk_getI (pc := 37) hX 3 5 rfl rfl rfl (jx_vX ((jx_upc (by decide)).trans ((jx_cpc (by decide)).trans ((jx_cpc (by decide)).trans (jx_cpc (by decide))))) ?_)
  refine jk_put (pc := 38) hX 3 5 rfl rfl rfl ?_
  exact jk_vret (pc := 39) hX rfl h3
set_option maxHeartbeats 4000000 in
theorem bk_M_copyFrom_b2_0 {d : Nat} {K : jxK} {X : jxX} (hX : jx_clo jx_G1 (d + 2) (jx_call jx_G1 jx_T (d + 2)) kc_M_copyFrom K X) (M : jxM)
    (h : jx_call jx_G1 jx_T (d + 2) 0 [.inr 5, .inr 40] M (fun r M2 => r = none ∧ K none (jx_up (jx_up (jx_cp (jx_cp (jx_cp M2 47 0 12 0 49) 48 0 13 0 16) 49 0 14 0 17) 4 4 (M2 39 4)) 4 5 (M2 39 5)))) :
    X 0 [.inr 4, .inr 39] [] M := by
  refine jk_aload (pc := 0) hX 0 rfl rfl ?_
  refine jk_getR (pc := 1) hX 3 0 rfl rfl (r := 4) rfl ?_
  refine jk_aload (pc := 2) hX 1 rfl rfl ?_
  refine jk_getR (pc := 3) hX 3 0 rfl rfl (r := 39) rfl ?_
  refine jk_cv (pc := 4) hX 0 1 0 rfl 5 [.inr 40] [] rfl rfl rfl (Nat.le_of_ble_eq_true rfl) (jx_mono (fun r M2 hr => ?_) h)
  obtain ⟨rfl, h3⟩ := hr
  show X 5 [.inr 4, .inr 39] [] M2
  refine jk_aload (pc := 5) hX 1 rfl rfl ?_
  refine jk_getR (pc := 6) hX 3 1 rfl rfl (r := 46) rfl ?_
  refine jk_const (pc := 7) hX 0 rfl (by decide) ?_
  refine jk_aload (pc := 8) hX 0 rfl rfl ?_
  refine jk_getR (pc := 9) hX 3 1 rfl rfl (r := 11) rfl ?_
  refine jk_const (pc := 10) hX 0 rfl (by decide) ?_
  refine jk_aload (pc := 11) hX 0 rfl rfl ?_
  refine jk_getR (pc := 12) hX 3 1 rfl rfl (r := 11) rfl ?_
  refine jk_alen (pc := 13) hX 49 rfl rfl ?_
  refine jk_copy (pc := 14) hX 49 49 rfl (by omega) (Nat.le_of_ble_eq_true rfl) rfl rfl (by decide) ?_
  refine jk_aload (pc := 15) hX 1 rfl rfl ?_
  refine jk_getR (pc := 16) hX 3 2 rfl rfl (r := 47) rfl ?_
  refine jk_const (pc := 17) hX 0 rfl (by decide) ?_
  refine jk_aload (pc := 18) hX 0 rfl rfl ?_
  refine jk_getR (pc := 19) hX 3 2 rfl rfl (r := 12) rfl ?_
  refine jk_const (pc := 20) hX 0 rfl (by decide) ?_
  refine jk_const (pc := 21) hX 16 rfl (by decide) ?_
  refine jk_copy (pc := 22) hX 16 16 rfl (by omega) (Nat.le_of_ble_eq_true rfl) rfl rfl (by decide) ?_
  refine jk_aload (pc := 23) hX 1 rfl rfl ?_
  refine jk_getR (pc := 24) hX 3 3 rfl rfl (r := 48) rfl ?_
  refine jk_const (pc := 25) hX 0 rfl (by decide) ?_
  refine jk_aload (pc := 26) hX 0 rfl rfl ?_
  refine jk_getR (pc := 27) hX 3 3 rfl rfl (r := 13) rfl ?_
  refine jk_const (pc := 28) hX 0 rfl (by decide) ?_
  refine jk_const (pc := 29) hX 17 rfl (by decide) ?_
  refine jk_copy (pc := 30) hX 17 17 rfl (by omega) (Nat.le_of_ble_eq_true rfl) rfl rfl (by decide) ?_
  refine jk_aload (pc := 31) hX 0 rfl rfl ?_
  refine jk_aload (pc := 32) hX 1 rfl rfl ?_
  refine jk_getI (pc := 33) hX 3 4 rfl rfl rfl (jx_vX ((jx_cpc (by decide)).trans ((jx_cpc (by decide)).trans (jx_cpc (by decide)))) ?_)
  refine jk_put (pc := 34) hX 3 4 rfl rfl rfl ?_
  refine jk_aload (pc := 35) hX 0 rfl rfl ?_
  refine jk_aload (pc := 36) hX 1 rfl rfl ?_
  refine jk_getI (pc := 37) hX 3 5 rfl rfl rfl (jx_vX ((jx_upc (by decide)).trans ((jx_cpc (by decide)).trans ((jx_cpc (by decide)).trans (jx_cpc (by decide))))) ?_)
  refine jk_put (pc := 38) hX 3 5 rfl rfl rfl ?_
  exact jk_vret (pc := 39) hX rfl h3
set_option maxHeartbeats 4000000 in
theorem bk_D_copyFrom_k3_0 {d : Nat} {K : jxK} {X : jxX} (hX : jx_clo jx_G1 (d + 1) (jx_call jx_G1 jx_T (d + 1)) kc_D_copyFrom K X) (M : jxM)
    (h : K none (jx_up (jx_cp (jx_cp (jx_cp (jx_cp (jx_cp (jx_cp M 6 0 52 0 120) 7 0 53 0 20) 8 0 54 0 20) 9 0 55 0 20) 10 0 56 0 20) 11 0 57 0 20) 51 6 (M 5 6))) :
    X 0 [.inr 51, .inr 5] [] M := by
  refine jk_aload (pc := 0) hX 1 rfl rfl ?_
  refine jk_getR (pc := 1) hX 0 0 rfl rfl (r := 5) rfl ?_
  refine jk_const (pc := 2) hX 0 rfl (by decide) ?_
  refine jk_aload (pc := 3) hX 0 rfl rfl ?_
  refine jk_getR (pc := 4) hX 0 0 rfl rfl (r := 51) rfl ?_
  refine jk_const (pc := 5) hX 0 rfl (by decide) ?_
  refine jk_aload (pc := 6) hX 0 rfl rfl ?_
  refine jk_getR (pc := 7) hX 0 0 rfl rfl (r := 51) rfl ?_
  refine jk_alen (pc := 8) hX 120 rfl rfl ?_
  refine jk_copy (pc := 9) hX 120 120 rfl (by omega) (Nat.le_of_ble_eq_true rfl) rfl rfl (by decide) ?_
  refine jk_aload (pc := 10) hX 1 rfl rfl ?_
  refine jk_getR (pc := 11) hX 0 1 rfl rfl (r := 6) rfl ?_
  refine jk_const (pc := 12) hX 0 rfl (by decide) ?_
  refine jk_aload (pc := 13) hX 0 rfl rfl ?_
  refine jk_getR (pc := 14) hX 0 1 rfl rfl (r := 52) rfl ?_
  refine jk_const (pc := 15) hX 0 rfl (by decide) ?_
  refine jk_const (pc := 16) hX 20 rfl (by decide) ?_
  refine jk_copy (pc := 17) hX 20 20 rfl (by omega) (Nat.le_of_ble_eq_true rfl) rfl rfl (by decide) ?_
  refine jk_aload (pc := 18) hX 1 rfl rfl ?_
  refine jk_getR (pc := 19) hX 0 2 rfl rfl (r := 7) rfl ?_
  refine jk_const (pc := 20) hX 0 rfl (by decide) ?_
  refine jk_aload (pc := 21) hX 0 rfl rfl ?_
  refine jk_getR (pc := 22) hX 0 2 rfl rfl (r := 53) rfl ?_
  refine jk_const (pc := 23) hX 0 rfl (by decide) ?_
  refine jk_const (pc := 24) hX 20 rfl (by decide) ?_
  refine jk_copy (pc := 25) hX 20 20 rfl (by omega) (Nat.le_of_ble_eq_true rfl) rfl rfl (by decide) ?_
  refine jk_aload (pc := 26) hX 1 rfl rfl ?_
  refine jk_getR (pc := 27) hX 0 3 rfl rfl (r := 8) rfl ?_
  refine jk_const (pc := 28) hX 0 rfl (by decide) ?_
  refine jk_aload (pc := 29) hX 0 rfl rfl ?_
  refine jk_getR (pc := 30) hX 0 3 rfl rfl (r := 54) rfl ?_
  refine jk_const (pc := 31) hX 0 rfl (by decide) ?_
  refine jk_const (pc := 32) hX 20 rfl (by decide) ?_
  refine jk_copy (pc := 33) hX 20 20 rfl (by omega) (Nat.le_of_ble_eq_true rfl) rfl rfl (by decide) ?_
  refine jk_aload (pc := 34) hX 1 rfl rfl ?_
  refine jk_getR (pc := 35) hX 0 4 rfl rfl (r := 9) rfl ?_
  refine jk_const (pc := 36) hX 0 rfl (by decide) ?_
  refine jk_aload (pc := 37) hX 0 rfl rfl ?_
  refine jk_getR (pc := 38) hX 0 4 rfl rfl (r := 55) rfl ?_
  refine jk_const (pc := 39) hX 0 rfl (by decide) ?_
  refine jk_const (pc := 40) hX 20 rfl (by decide) ?_
  refine jk_copy (pc := 41) hX 20 20 rfl (by omega) (Nat.le_of_ble_eq_true rfl) rfl rfl (by decide) ?_
  refine jk_aload (pc := 42) hX 1 rfl rfl ?_
  refine jk_getR (pc := 43) hX 0 5 rfl rfl (r := 10) rfl ?_
  refine jk_const (pc := 44) hX 0 rfl (by decide) ?_
  refine jk_aload (pc := 45) hX 0 rfl rfl ?_
  refine jk_getR (pc := 46) hX 0 5 rfl rfl (r := 56) rfl ?_
  refine jk_const (pc := 47) hX 0 rfl (by decide) ?_
  refine jk_const (pc := 48) hX 20 rfl (by decide) ?_
  refine jk_copy (pc := 49) hX 20 20 rfl (by omega) (Nat.le_of_ble_eq_true rfl) rfl rfl (by decide) ?_
  refine jk_aload (pc := 50) hX 0 rfl rfl ?_
  refine jk_aload (pc := 51) hX 1 rfl rfl ?_
  refine jk_getI (pc := 52) hX 0 6 rfl rfl rfl (jx_vX ((jx_cpc (by decide)).trans ((jx_cpc (by decide)).trans ((jx_cpc (by decide)).trans ((jx_cpc (by decide)).trans ((jx_cpc (by decide)).trans (jx_cpc (by decide))))))) ?_)
  refine jk_put (pc := 53) hX 0 6 rfl rfl rfl ?_
  exact jk_vret (pc := 54) hX rfl h
set_option maxHeartbeats 4000000 in
theorem bk_D_copyFrom_b3_0 {d : Nat} {K : jxK} {X : jxX} (hX : jx_clo jx_G1 (d + 1) (jx_call jx_G1 jx_T (d + 1)) kc_D_copyFrom K X) (M : jxM)
    (h : K none (jx_up (jx_cp (jx_cp (jx_cp (jx_cp (jx_cp (jx_cp M 52 0 6 0 120) 53 0 7 0 20) 54 0 8 0 20) 55 0 9 0 20) 56 0 10 0 20) 57 0 11 0 20) 5 6 (M 51 6))) :
    X 0 [.inr 5, .inr 51] [] M := by
  refine jk_aload (pc := 0) hX 1 rfl rfl ?_
  refine jk_getR (pc := 1) hX 0 0 rfl rfl (r := 51) rfl ?_
  refine jk_const (pc := 2) hX 0 rfl (by decide) ?_
  refine jk_aload (pc := 3) hX 0 rfl rfl ?_
  refine jk_getR (pc := 4) hX 0 0 rfl rfl (r := 5) rfl ?_
  refine jk_const (pc := 5) hX 0 rfl (by decide) ?_
  refine jk_aload (pc := 6) hX 0 rfl rfl ?_
  refine jk_getR (pc := 7) hX 0 0 rfl rfl (r := 5) rfl ?_
  refine jk_alen (pc := 8) hX 120 rfl rfl ?_
  refine jk_copy (pc := 9) hX 120 120 rfl (by omega) (Nat.le_of_ble_eq_true rfl) rfl rfl (by decide) ?_
  refine jk_aload (pc := 10) hX 1 rfl rfl ?_
  refine jk_getR (pc := 11) hX 0 1 rfl rfl (r := 52) rfl ?_
  refine jk_const (pc := 12) hX 0 rfl (by decide) ?_
  refine jk_aload (pc := 13) hX 0 rfl rfl ?_
  refine jk_getR (pc := 14) hX 0 1 rfl rfl (r := 6) rfl ?_
  refine jk_const (pc := 15) hX 0 rfl (by decide) ?_
  refine jk_const (pc := 16) hX 20 rfl (by decide) ?_
  refine jk_copy (pc := 17) hX 20 20 rfl (by omega) (Nat.le_of_ble_eq_true rfl) rfl rfl (by decide) ?_
  refine jk_aload (pc := 18) hX 1 rfl rfl ?_
  refine jk_getR (pc := 19) hX 0 2 rfl rfl (r := 53) rfl ?_
  refine jk_const (pc := 20) hX 0 rfl (by decide) ?_
  refine jk_aload (pc := 21) hX 0 rfl rfl ?_
  refine jk_getR (pc := 22) hX 0 2 rfl rfl (r := 7) rfl ?_
  refine jk_const (pc := 23) hX 0 rfl (by decide) ?_
  refine jk_const (pc := 24) hX 20 rfl (by decide) ?_
  refine jk_copy (pc := 25) hX 20 20 rfl (by omega) (Nat.le_of_ble_eq_true rfl) rfl rfl (by decide) ?_
  refine jk_aload (pc := 26) hX 1 rfl rfl ?_
  refine jk_getR (pc := 27) hX 0 3 rfl rfl (r := 54) rfl ?_
  refine jk_const (pc := 28) hX 0 rfl (by decide) ?_
  refine jk_aload (pc := 29) hX 0 rfl rfl ?_
  refine jk_getR (pc := 30) hX 0 3 rfl rfl (r := 8) rfl ?_
  refine jk_const (pc := 31) hX 0 rfl (by decide) ?_
  refine jk_const (pc := 32) hX 20 rfl (by decide) ?_
  refine jk_copy (pc := 33) hX 20 20 rfl (by omega) (Nat.le_of_ble_eq_true rfl) rfl rfl (by decide) ?_
  refine jk_aload (pc := 34) hX 1 rfl rfl ?_
  refine jk_getR (pc := 35) hX 0 4 rfl rfl (r := 55) rfl ?_
  refine jk_const (pc := 36) hX 0 rfl (by decide) ?_
  refine jk_aload (pc := 37) hX 0 rfl rfl ?_
  refine jk_getR (pc := 38) hX 0 4 rfl rfl (r := 9) rfl ?_
  refine jk_const (pc := 39) hX 0 rfl (by decide) ?_
  refine jk_const (pc := 40) hX 20 rfl (by decide) ?_
  refine jk_copy (pc := 41) hX 20 20 rfl (by omega) (Nat.le_of_ble_eq_true rfl) rfl rfl (by decide) ?_
  refine jk_aload (pc := 42) hX 1 rfl rfl ?_
  refine jk_getR (pc := 43) hX 0 5 rfl rfl (r := 56) rfl ?_
  refine jk_const (pc := 44) hX 0 rfl (by decide) ?_
  refine jk_aload (pc := 45) hX 0 rfl rfl ?_
  refine jk_getR (pc := 46) hX 0 5 rfl rfl (r := 10) rfl ?_
  refine jk_const (pc := 47) hX 0 rfl (by decide) ?_
  refine jk_const (pc := 48) hX 20 rfl (by decide) ?_
  refine jk_copy (pc := 49) hX 20 20 rfl (by omega) (Nat.le_of_ble_eq_true rfl) rfl rfl (by decide) ?_
  refine jk_aload (pc := 50) hX 0 rfl rfl ?_
  refine jk_aload (pc := 51) hX 1 rfl rfl ?_
  refine jk_getI (pc := 52) hX 0 6 rfl rfl rfl (jx_vX ((jx_cpc (by decide)).trans ((jx_cpc (by decide)).trans ((jx_cpc (by decide)).trans ((jx_cpc (by decide)).trans ((jx_cpc (by decide)).trans (jx_cpc (by decide))))))) ?_)
  refine jk_put (pc := 53) hX 0 6 rfl rfl rfl ?_
  exact jk_vret (pc := 54) hX rfl h
set_option maxHeartbeats 4000000 in
theorem bk_M_copyFrom_k3_0 {d : Nat} {K : jxK} {X : jxX} (hX : jx_clo jx_G1 (d + 2) (jx_call jx_G1 jx_T (d + 2)) kc_M_copyFrom K X) (M : jxM)
    (h : jx_call jx_G1 jx_T (d + 2) 0 [.inr 51, .inr 5] M (fun r M2 => r = none ∧ K none (jx_up (jx_up (jx_cp (jx_cp (jx_cp M2 12 0 58 0 49) 13 0 59 0 16) 14 0 60 0 17) 50 4 (M2 4 4)) 50 5 (M2 4 5)))) :
    X 0 [.inr 50, .inr 4] [] M := by
  refine jk_aload (pc := 0) hX 0 rfl rfl ?_
  refine jk_getR (pc := 1) hX 3 0 rfl rfl (r := 50) rfl ?_
  refine jk_aload (pc := 2) hX 1 rfl rfl ?_
  refine jk_getR (pc := 3) hX 3 0 rfl rfl (r := 4) rfl ?_
  refine jk_cv (pc := 4) hX 0 1 0 rfl 51 [.inr 5] [] rfl rfl rfl (Nat.le_of_ble_eq_true rfl) (jx_mono (fun r M2 hr => ?_) h)
  obtain ⟨rfl, h3⟩ := hr
  show X 5 [.inr 50, .inr 4] [] M2
  refine jk_aload (pc := 5) hX 1 rfl rfl ?_
  refine jk_getR (pc := 6) hX 3 1 rfl rfl (r := 11) rfl ?_
  refine jk_const (pc := 7) hX 0 rfl (by decide) ?_
  refine jk_aload (pc := 8) hX 0 rfl rfl ?_
  refine jk_getR (pc := 9) hX 3 1 rfl rfl (r := 57) rfl ?_
  refine jk_const (pc := 10) hX 0 rfl (by decide) ?_
  refine jk_aload (pc := 11) hX 0 rfl rfl ?_
  refine jk_getR (pc := 12) hX 3 1 rfl rfl (r := 57) rfl ?_
  refine jk_alen (pc := 13) hX 49 rfl rfl ?_
  refine jk_copy (pc := 14) hX 49 49 rfl (by omega) (Nat.le_of_ble_eq_true rfl) rfl rfl (by decide) ?_
  refine jk_aload (pc := 15) hX 1 rfl rfl ?_
  refine jk_getR (pc := 16) hX 3 2 rfl rfl (r := 12) rfl ?_
  refine jk_const (pc := 17) hX 0 rfl (by decide) ?_
  refine jk_aload (pc := 18) hX 0 rfl rfl ?_
  refine jk_getR (pc := 19) hX 3 2 rfl rfl (r := 58) rfl ?_
  refine jk_const (pc := 20) hX 0 rfl (by decide) ?_
  refine jk_const (pc := 21) hX 16 rfl (by decide) ?_
  refine jk_copy (pc := 22) hX 16 16 rfl (by omega) (Nat.le_of_ble_eq_true rfl) rfl rfl (by decide) ?_
  refine jk_aload (pc := 23) hX 1 rfl rfl ?_
  refine jk_getR (pc := 24) hX 3 3 rfl rfl (r := 13) rfl ?_
  refine jk_const (pc := 25) hX 0 rfl (by decide) ?_
  refine jk_aload (pc := 26) hX 0 rfl rfl ?_
  refine jk_getR (pc := 27) hX 3 3 rfl rfl (r := 59) rfl ?_
  refine jk_const (pc := 28) hX 0 rfl (by decide) ?_
  refine jk_const (pc := 29) hX 17 rfl (by decide) ?_
  refine jk_copy (pc := 30) hX 17 17 rfl (by omega) (Nat.le_of_ble_eq_true rfl) rfl rfl (by decide) ?_
  refine jk_aload (pc := 31) hX 0 rfl rfl ?_
  refine jk_aload (pc := 32) hX 1 rfl rfl ?_
  refine jk_getI (pc := 33) hX 3 4 rfl rfl rfl (jx_vX ((jx_cpc (by decide)).trans ((jx_cpc (by decide)).trans (jx_cpc (by decide)))) ?_)
  refine jk_put (pc := 34) hX 3 4 rfl rfl rfl ?_
  refine jk_aload (pc := 35) hX 0 rfl rfl ?_
  refine jk_aload (pc := 36) hX 1 rfl rfl ?_
  refine jk_getI (pc := 37) hX 3 5 rfl rfl rfl (jx_vX ((jx_upc (by decide)).trans ((jx_cpc (by decide)).trans ((jx_cpc (by decide)).trans (jx_cpc (by decide))))) ?_)
  refine jk_put (pc := 38) hX 3 5 rfl rfl rfl ?_
  exact jk_vret (pc := 39) hX rfl h3
set_option maxHeartbeats 4000000 in
theorem bk_M_copyFrom_b3_0 {d : Nat} {K : jxK} {X : jxX} (hX : jx_clo jx_G1 (d + 2) (jx_call jx_G1 jx_T (d + 2)) kc_M_copyFrom K X) (M : jxM)
    (h : jx_call jx_G1 jx_T (d + 2) 0 [.inr 5, .inr 51] M (fun r M2 => r = none ∧ K none (jx_up (jx_up (jx_cp (jx_cp (jx_cp M2 58 0 12 0 49) 59 0 13 0 16) 60 0 14 0 17) 4 4 (M2 50 4)) 4 5 (M2 50 5)))) :
    X 0 [.inr 4, .inr 50] [] M := by
  refine jk_aload (pc := 0) hX 0 rfl rfl ?_
  refine jk_getR (pc := 1) hX 3 0 rfl rfl (r := 4) rfl ?_
  refine jk_aload (pc := 2) hX 1 rfl rfl ?_
  refine jk_getR (pc := 3) hX 3 0 rfl rfl (r := 50) rfl ?_
  refine jk_cv (pc := 4) hX 0 1 0 rfl 5 [.inr 51] [] rfl rfl rfl (Nat.le_of_ble_eq_true rfl) (jx_mono (fun r M2 hr => ?_) h)
  obtain ⟨rfl, h3⟩ := hr
  show X 5 [.inr 4, .inr 50] [] M2
  refine jk_aload (pc := 5) hX 1 rfl rfl ?_
  refine jk_getR (pc := 6) hX 3 1 rfl rfl (r := 57) rfl ?_
  refine jk_const (pc := 7) hX 0 rfl (by decide) ?_
  refine jk_aload (pc := 8) hX 0 rfl rfl ?_
  refine jk_getR (pc := 9) hX 3 1 rfl rfl (r := 11) rfl ?_
  refine jk_const (pc := 10) hX 0 rfl (by decide) ?_
  refine jk_aload (pc := 11) hX 0 rfl rfl ?_
  refine jk_getR (pc := 12) hX 3 1 rfl rfl (r := 11) rfl ?_
  refine jk_alen (pc := 13) hX 49 rfl rfl ?_
  refine jk_copy (pc := 14) hX 49 49 rfl (by omega) (Nat.le_of_ble_eq_true rfl) rfl rfl (by decide) ?_
  refine jk_aload (pc := 15) hX 1 rfl rfl ?_
  refine jk_getR (pc := 16) hX 3 2 rfl rfl (r := 58) rfl ?_
  refine jk_const (pc := 17) hX 0 rfl (by decide) ?_
  refine jk_aload (pc := 18) hX 0 rfl rfl ?_
  refine jk_getR (pc := 19) hX 3 2 rfl rfl (r := 12) rfl ?_
  refine jk_const (pc := 20) hX 0 rfl (by decide) ?_
  refine jk_const (pc := 21) hX 16 rfl (by decide) ?_
  refine jk_copy (pc := 22) hX 16 16 rfl (by omega) (Nat.le_of_ble_eq_true rfl) rfl rfl (by decide) ?_
  refine jk_aload (pc := 23) hX 1 rfl rfl ?_
  refine jk_getR (pc := 24) hX 3 3 rfl rfl (r := 59) rfl ?_
  refine jk_const (pc := 25) hX 0 rfl (by decide) ?_
  refine jk_aload (pc := 26) hX 0 rfl rfl ?_
  refine jk_getR (pc := 27) hX 3 3 rfl rfl (r := 13) rfl ?_
  refine jk_const (pc := 28) hX 0 rfl (by decide) ?_
  refine jk_const (pc := 29) hX 17 rfl (by decide) ?_
  refine jk_copy (pc := 30) hX 17 17 rfl (by omega) (Nat.le_of_ble_eq_true rfl) rfl rfl (by decide) ?_
  refine jk_aload (pc := 31) hX 0 rfl rfl ?_
  refine jk_aload (pc := 32) hX 1 rfl rfl ?_
  refine jk_getI (pc := 33) hX 3 4 rfl rfl rfl (jx_vX ((jx_cpc (by decide)).trans ((jx_cpc (by decide)).trans (jx_cpc (by decide)))) ?_)
  refine jk_put (pc := 34) hX 3 4 rfl rfl rfl ?_
  refine jk_aload (pc := 35) hX 0 rfl rfl ?_
  refine jk_aload (pc := 36) hX 1 rfl rfl ?_
  refine jk_getI (pc := 37) hX 3 5 rfl rfl rfl (jx_vX ((jx_upc (by decide)).trans ((jx_cpc (by decide)).trans ((jx_cpc (by decide)).trans (jx_cpc (by decide))))) ?_)
  refine jk_put (pc := 38) hX 3 5 rfl rfl rfl ?_
  exact jk_vret (pc := 39) hX rfl h3
set_option maxHeartbeats 4000000 in
theorem bk_D_copyFrom_k4_0 {d : Nat} {K : jxK} {X : jxX} (hX : jx_clo jx_G1 (d + 1) (jx_call jx_G1 jx_T (d + 1)) kc_D_copyFrom K X) (M : jxM)
    (h : K none (jx_up (jx_cp (jx_cp (jx_cp (jx_cp (jx_cp (jx_cp M 6 0 63 0 120) 7 0 64 0 20) 8 0 65 0 20) 9 0 66 0 20) 10 0 67 0 20) 11 0 68 0 20) 62 6 (M 5 6))) :
    X 0 [.inr 62, .inr 5] [] M := by
  refine jk_aload (pc := 0) hX 1 rfl rfl ?_
  refine jk_getR (pc := 1) hX 0 0 rfl rfl (r := 5) rfl ?_
  refine jk_const (pc := 2) hX 0 rfl (by decide) ?_
  refine jk_aload (pc := 3) hX 0 rfl rfl ?_
  refine jk_getR (pc := 4) hX 0 0 rfl rfl (r := 62) rfl ?_
  refine jk_const (pc := 5) hX 0 rfl (by decide) ?_
  refine jk_aload (pc := 6) hX 0 rfl rfl ?_
  refine jk_getR (pc := 7) hX 0 0 rfl rfl (r := 62) rfl ?_
  refine jk_alen (pc := 8) hX 120 rfl rfl ?_
  refine jk_copy (pc := 9) hX 120 120 rfl (by omega) (Nat.le_of_ble_eq_true rfl) rfl rfl (by decide) ?_
  refine jk_aload (pc := 10) hX 1 rfl rfl ?_
  refine jk_getR (pc := 11) hX 0 1 rfl rfl (r := 6) rfl ?_
  refine jk_const (pc := 12) hX 0 rfl (by decide) ?_
  refine jk_aload (pc := 13) hX 0 rfl rfl ?_
  refine jk_getR (pc := 14) hX 0 1 rfl rfl (r := 63) rfl ?_
  refine jk_const (pc := 15) hX 0 rfl (by decide) ?_
  refine jk_const (pc := 16) hX 20 rfl (by decide) ?_
  refine jk_copy (pc := 17) hX 20 20 rfl (by omega) (Nat.le_of_ble_eq_true rfl) rfl rfl (by decide) ?_
  refine jk_aload (pc := 18) hX 1 rfl rfl ?_
  refine jk_getR (pc := 19) hX 0 2 rfl rfl (r := 7) rfl ?_
  refine jk_const (pc := 20) hX 0 rfl (by decide) ?_
  refine jk_aload (pc := 21) hX 0 rfl rfl ?_
  refine jk_getR (pc := 22) hX 0 2 rfl rfl (r := 64) rfl ?_
  refine jk_const (pc := 23) hX 0 rfl (by decide) ?_
  refine jk_const (pc := 24) hX 20 rfl (by decide) ?_
  refine jk_copy (pc := 25) hX 20 20 rfl (by omega) (Nat.le_of_ble_eq_true rfl) rfl rfl (by decide) ?_
  refine jk_aload (pc := 26) hX 1 rfl rfl ?_
  refine jk_getR (pc := 27) hX 0 3 rfl rfl (r := 8) rfl ?_
  refine jk_const (pc := 28) hX 0 rfl (by decide) ?_
  refine jk_aload (pc := 29) hX 0 rfl rfl ?_
  refine jk_getR (pc := 30) hX 0 3 rfl rfl (r := 65) rfl ?_
  refine jk_const (pc := 31) hX 0 rfl (by decide) ?_
  refine jk_const (pc := 32) hX 20 rfl (by decide) ?_
  refine jk_copy (pc := 33) hX 20 20 rfl (by omega) (Nat.le_of_ble_eq_true rfl) rfl rfl (by decide) ?_
  refine jk_aload (pc := 34) hX 1 rfl rfl ?_
  refine jk_getR (pc := 35) hX 0 4 rfl rfl (r := 9) rfl ?_
  refine jk_const (pc := 36) hX 0 rfl (by decide) ?_
  refine jk_aload (pc := 37) hX 0 rfl rfl ?_
  refine jk_getR (pc := 38) hX 0 4 rfl rfl (r := 66) rfl ?_
  refine jk_const (pc := 39) hX 0 rfl (by decide) ?_
  refine jk_const (pc := 40) hX 20 rfl (by decide) ?_
  refine jk_copy (pc := 41) hX 20 20 rfl (by omega) (Nat.le_of_ble_eq_true rfl) rfl rfl (by decide) ?_
  refine jk_aload (pc := 42) hX 1 rfl rfl ?_
  refine jk_getR (pc := 43) hX 0 5 rfl rfl (r := 10) rfl ?_
  refine jk_const (pc := 44) hX 0 rfl (by decide) ?_
  refine jk_aload (pc := 45) hX 0 rfl rfl ?_
  refine jk_getR (pc := 46) hX 0 5 rfl rfl (r := 67) rfl ?_
  refine jk_const (pc := 47) hX 0 rfl (by decide) ?_
  refine jk_const (pc := 48) hX 20 rfl (by decide) ?_
  refine jk_copy (pc := 49) hX 20 20 rfl (by omega) (Nat.le_of_ble_eq_true rfl) rfl rfl (by decide) ?_
  refine jk_aload (pc := 50) hX 0 rfl rfl ?_
  refine jk_aload (pc := 51) hX 1 rfl rfl ?_
  refine jk_getI (pc := 52) hX 0 6 rfl rfl rfl (jx_vX ((jx_cpc (by decide)).trans ((jx_cpc (by decide)).trans ((jx_cpc (by decide)).trans ((jx_cpc (by decide)).trans ((jx_cpc (by decide)).trans (jx_cpc (by decide))))))) ?_)
  refine jk_put (pc := 53) hX 0 6 rfl rfl rfl ?_
  exact jk_vret (pc := 54) hX rfl h
set_option maxHeartbeats 4000000 in
theorem bk_D_copyFrom_b4_0 {d : Nat} {K : jxK} {X : jxX} (hX : jx_clo jx_G1 (d + 1) (jx_call jx_G1 jx_T (d + 1)) kc_D_copyFrom K X) (M : jxM)
    (h : K none (jx_up (jx_cp (jx_cp (jx_cp (jx_cp (jx_cp (jx_cp M 63 0 6 0 120) 64 0 7 0 20) 65 0 8 0 20) 66 0 9 0 20) 67 0 10 0 20) 68 0 11 0 20) 5 6 (M 62 6))) :
    X 0 [.inr 5, .inr 62] [] M := by
  refine jk_aload (pc := 0) hX 1 rfl rfl ?_
  refine jk_getR (pc := 1) hX 0 0 rfl rfl (r := 62) rfl ?_
  refine jk_const (pc := 2) hX 0 rfl (by decide) ?_
  refine jk_aload (pc := 3) hX 0 rfl rfl ?_
  refine jk_getR (pc := 4) hX 0 0 rfl rfl (r := 5) rfl ?_
  refine jk_const (pc := 5) hX 0 rfl (by decide) ?_
  refine jk_aload (pc := 6) hX 0 rfl rfl ?_
  refine jk_getR (pc := 7) hX 0 0 rfl rfl (r := 5) rfl ?_
  refine jk_alen (pc := 8) hX 120 rfl rfl ?_
  refine jk_copy (pc := 9) hX 120 120 rfl (by omega) (Nat.le_of_ble_eq_true rfl) rfl rfl (by decide) ?_
  refine jk_aload (pc := 10) hX 1 rfl rfl ?_
  refine jk_getR (pc := 11) hX 0 1 rfl rfl (r := 63) rfl ?_
  refine jk_const (pc := 12) hX 0 rfl (by decide) ?_
  refine jk_aload (pc := 13) hX 0 rfl rfl ?_
  refine jk_getR (pc := 14) hX 0 1 rfl rfl (r := 6) rfl ?_
  refine jk_const (pc := 15) hX 0 rfl (by decide) ?_
  refine jk_const (pc := 16) hX 20 rfl (by decide) ?_
  refine jk_copy (pc := 17) hX 20 20 rfl (by omega) (Nat.le_of_ble_eq_true rfl) rfl rfl (by decide) ?_
  refine jk_aload (pc := 18) hX 1 rfl rfl ?_
  refine jk_getR (pc := 19) hX 0 2 rfl rfl (r := 64) rfl ?_
  refine jk_const (pc := 20) hX 0 rfl (by decide) ?_
  refine jk_aload (pc := 21) hX 0 rfl rfl ?_
  refine jk_getR (pc := 22) hX 0 2 rfl rfl (r := 7) rfl ?_
  refine jk_const (pc := 23) hX 0 rfl (by decide) ?_
  refine jk_const (pc := 24) hX 20 rfl (by decide) ?_
  refine jk_copy (pc := 25) hX 20 20 rfl (by omega) (Nat.le_of_ble_eq_true rfl) rfl rfl (by decide) ?_
  refine jk_aload (pc := 26) hX 1 rfl rfl ?_
  refine jk_getR (pc := 27) hX 0 3 rfl rfl (r := 65) rfl ?_
  refine jk_const (pc := 28) hX 0 rfl (by decide) ?_
  refine jk_aload (pc := 29) hX 0 rfl rfl ?_
  refine jk_getR (pc := 30) hX 0 3 rfl rfl (r := 8) rfl ?_
  refine jk_const (pc := 31) hX 0 rfl (by decide) ?_
  refine jk_const (pc := 32) hX 20 rfl (by decide) ?_
  refine jk_copy (pc := 33) hX 20 20 rfl (by omega) (Nat.le_of_ble_eq_true rfl) rfl rfl (by decide) ?_
  refine jk_aload (pc := 34) hX 1 rfl rfl ?_
  refine jk_getR (pc := 35) hX 0 4 rfl rfl (r := 66) rfl ?_
  refine jk_const (pc := 36) hX 0 rfl (by decide) ?_
  refine jk_aload (pc := 37) hX 0 rfl rfl ?_
  refine jk_getR (pc := 38) hX 0 4 rfl rfl (r := 9) rfl ?_
  refine jk_const (pc := 39) hX 0 rfl (by decide) ?_
  refine jk_const (pc := 40) hX 20 rfl (by decide) ?_
  refine jk_copy (pc := 41) hX 20 20 rfl (by omega) (Nat.le_of_ble_eq_true rfl) rfl rfl (by decide) ?_
  refine jk_aload (pc := 42) hX 1 rfl rfl ?_
  refine jk_getR (pc := 43) hX 0 5 rfl rfl (r := 67) rfl ?_
  refine jk_const (pc := 44) hX 0 rfl (by decide) ?_
  refine jk_aload (pc := 45) hX 0 rfl rfl ?_
  refine jk_getR (pc := 46) hX 0 5 rfl rfl (r := 10) rfl ?_
  refine jk_const (pc := 47) hX 0 rfl (by decide) ?_
  refine jk_const (pc := 48) hX 20 rfl (by decide) ?_
  refine jk_copy (pc := 49) hX 20 20 rfl (by omega) (Nat.le_of_ble_eq_true rfl) rfl rfl (by decide) ?_
  refine jk_aload (pc := 50) hX 0 rfl rfl ?_
  refine jk_aload (pc := 51) hX 1 rfl rfl ?_
  refine jk_getI (pc := 52) hX 0 6 rfl rfl rfl (jx_vX ((jx_cpc (by decide)).trans ((jx_cpc (by decide)).trans ((jx_cpc (by decide)).trans ((jx_cpc (by decide)).trans ((jx_cpc (by decide)).trans (jx_cpc (by decide))))))) ?_)
  refine jk_put (pc := 53) hX 0 6 rfl rfl rfl ?_
  exact jk_vret (pc := 54) hX rfl h
set_option maxHeartbeats 4000000 in
theorem bk_M_copyFrom_k4_0 {d : Nat} {K : jxK} {X : jxX} (hX : jx_clo jx_G1 (d + 2) (jx_call jx_G1 jx_T (d + 2)) kc_M_copyFrom K X) (M : jxM)
    (h : jx_call jx_G1 jx_T (d + 2) 0 [.inr 62, .inr 5] M (fun r M2 => r = none ∧ K none (jx_up (jx_up (jx_cp (jx_cp (jx_cp M2 12 0 69 0 49) 13 0 70 0 16) 14 0 71 0 17) 61 4 (M2 4 4)) 61 5 (M2 4 5)))) :
    X 0 [.inr 61, .inr 4] [] M := by
  refine jk_aload (pc := 0) hX 0 rfl rfl ?_
  refine jk_getR (pc := 1) hX 3 0 rfl rfl (r := 61) rfl ?_
  refine jk_aload (pc := 2) hX 1 rfl rfl ?_
  refine jk_getR (pc := 3) hX 3 0 rfl rfl (r := 4) rfl ?_
  refine jk_cv (pc := 4) hX 0 1 0 rfl 62 [.inr 5] [] rfl rfl rfl (Nat.le_of_ble_eq_true rfl) (jx_mono (fun r M2 hr => ?_) h)
  obtain ⟨rfl, h3⟩ := hr
  show X 5 [.inr 61, .inr 4] [] M2
  refine jk_aload (pc := 5) hX 1 rfl rfl ?_
  refine jk_getR (pc := 6) hX 3 1 rfl rfl (r := 11) rfl ?_
  refine jk_const (pc := 7) hX 0 rfl (by decide) ?_
  refine jk_aload (pc := 8) hX 0 rfl rfl ?_
  refine jk_getR (pc := 9) hX 3 1 rfl rfl (r := 68) rfl ?_
  refine jk_const (pc := 10) hX 0 rfl (by decide) ?_
  refine jk_aload (pc := 11) hX 0 rfl rfl ?_
  refine jk_getR (pc := 12) hX 3 1 rfl rfl (r := 68) rfl ?_
  refine jk_alen (pc := 13) hX 49 rfl rfl ?_
  refine jk_copy (pc := 14) hX 49 49 rfl (by omega) (Nat.le_of_ble_eq_true rfl) rfl rfl (by decide) ?_
  refine jk_aload (pc := 15) hX 1 rfl rfl ?_
  refine jk_getR (pc := 16) hX 3 2 rfl rfl (r := 12) rfl ?_
  refine jk_const (pc := 17) hX 0 rfl (by decide) ?_
  refine jk_aload (pc := 18) hX 0 rfl rfl ?_
  refine jk_getR (pc := 19) hX 3 2 rfl rfl (r := 69) rfl ?_
  refine jk_const (pc := 20) hX 0 rfl (by decide) ?_
  refine jk_const (pc := 21) hX 16 rfl (by decide) ?_
  refine jk_copy (pc := 22) hX 16 16 rfl (by omega) (Nat.le_of_ble_eq_true rfl) rfl rfl (by decide) ?_
  refine jk_aload (pc := 23) hX 1 rfl rfl ?_
  refine jk_getR (pc := 24) hX 3 3 rfl rfl (r := 13) rfl ?_
  refine jk_const (pc := 25) hX 0 rfl (by decide) ?_
  refine jk_aload (pc := 26) hX 0 rfl rfl ?_
  refine jk_getR (pc := 27) hX 3 3 rfl rfl (r := 70) rfl ?_
  refine jk_const (pc := 28) hX 0 rfl (by decide) ?_
  refine jk_const (pc := 29) hX 17 rfl (by decide) ?_
  refine jk_copy (pc := 30) hX 17 17 rfl (by omega) (Nat.le_of_ble_eq_true rfl) rfl rfl (by decide) ?_
  refine jk_aload (pc := 31) hX 0 rfl rfl ?_
  refine jk_aload (pc := 32) hX 1 rfl rfl ?_
  refine jk_getI (pc := 33) hX 3 4 rfl rfl rfl (jx_vX ((jx_cpc (by decide)).trans ((jx_cpc (by decide)).trans (jx_cpc (by decide)))) ?_)
  refine jk_put (pc := 34) hX 3 4 rfl rfl rfl ?_
  refine jk_aload (pc := 35) hX 0 rfl rfl ?_
  refine jk_aload (pc := 36) hX 1 rfl rfl ?_
  refine jk_getI (pc := 37) hX 3 5 rfl rfl rfl (jx_vX ((jx_upc (by decide)).trans ((jx_cpc (by decide)).trans ((jx_cpc (by decide)).trans (jx_cpc (by decide))))) ?_)
  refine jk_put (pc := 38) hX 3 5 rfl rfl rfl ?_
  exact jk_vret (pc := 39) hX rfl h3
set_option maxHeartbeats 4000000 in
theorem bk_M_copyFrom_b4_0 {d : Nat} {K : jxK} {X : jxX} (hX : jx_clo jx_G1 (d + 2) (jx_call jx_G1 jx_T (d + 2)) kc_M_copyFrom K X) (M : jxM)
    (h : jx_call jx_G1 jx_T (d + 2) 0 [.inr 5, .inr 62] M (fun r M2 => r = none ∧ K none (jx_up (jx_up (jx_cp (jx_cp (jx_cp M2 69 0 12 0 49) 70 0 13 0 16) 71 0 14 0 17) 4 4 (M2 61 4)) 4 5 (M2 61 5)))) :
    X 0 [.inr 4, .inr 61] [] M := by
  refine jk_aload (pc := 0) hX 0 rfl rfl ?_
  refine jk_getR (pc := 1) hX 3 0 rfl rfl (r := 4) rfl ?_
  refine jk_aload (pc := 2) hX 1 rfl rfl ?_
  refine jk_getR (pc := 3) hX 3 0 rfl rfl (r := 61) rfl ?_
  refine jk_cv (pc := 4) hX 0 1 0 rfl 5 [.inr 62] [] rfl rfl rfl (Nat.le_of_ble_eq_true rfl) (jx_mono (fun r M2 hr => ?_) h)
  obtain ⟨rfl, h3⟩ := hr
  show X 5 [.inr 4, .inr 61] [] M2
  refine jk_aload (pc := 5) hX 1 rfl rfl ?_
  refine jk_getR (pc := 6) hX 3 1 rfl rfl (r := 68) rfl ?_
  refine jk_const (pc := 7) hX 0 rfl (by decide) ?_
  refine jk_aload (pc := 8) hX 0 rfl rfl ?_
  refine jk_getR (pc := 9) hX 3 1 rfl rfl (r := 11) rfl ?_
  refine jk_const (pc := 10) hX 0 rfl (by decide) ?_
  refine jk_aload (pc := 11) hX 0 rfl rfl ?_
  refine jk_getR (pc := 12) hX 3 1 rfl rfl (r := 11) rfl ?_
  refine jk_alen (pc := 13) hX 49 rfl rfl ?_
  refine jk_copy (pc := 14) hX 49 49 rfl (by omega) (Nat.le_of_ble_eq_true rfl) rfl rfl (by decide) ?_
  refine jk_aload (pc := 15) hX 1 rfl rfl ?_
  refine jk_getR (pc := 16) hX 3 2 rfl rfl (r := 69) rfl ?_
  refine jk_const (pc := 17) hX 0 rfl (by decide) ?_
  refine jk_aload (pc := 18) hX 0 rfl rfl ?_
  refine jk_getR (pc := 19) hX 3 2 rfl rfl (r := 12) rfl ?_
  refine jk_const (pc := 20) hX 0 rfl (by decide) ?_
  refine jk_const (pc := 21) hX 16 rfl (by decide) ?_
  refine jk_copy (pc := 22) hX 16 16 rfl (by omega) (Nat.le_of_ble_eq_true rfl) rfl rfl (by decide) ?_
  refine jk_aload (pc := 23) hX 1 rfl rfl ?_
  refine jk_getR (pc := 24) hX 3 3 rfl rfl (r := 70) rfl ?_
  refine jk_const (pc := 25) hX 0 rfl (by decide) ?_
  refine jk_aload (pc := 26) hX 0 rfl rfl ?_
  refine jk_getR (pc := 27) hX 3 3 rfl rfl (r := 13) rfl ?_
  refine jk_const (pc := 28) hX 0 rfl (by decide) ?_
  refine jk_const (pc := 29) hX 17 rfl (by decide) ?_
  refine jk_copy (pc := 30) hX 17 17 rfl (by omega) (Nat.le_of_ble_eq_true rfl) rfl rfl (by decide) ?_
  refine jk_aload (pc := 31) hX 0 rfl rfl ?_
  refine jk_aload (pc := 32) hX 1 rfl rfl ?_
  refine jk_getI (pc := 33) hX 3 4 rfl rfl rfl (jx_vX ((jx_cpc (by decide)).trans ((jx_cpc (by decide)).trans (jx_cpc (by decide)))) ?_)
  refine jk_put (pc := 34) hX 3 4 rfl rfl rfl ?_
  refine jk_aload (pc := 35) hX 0 rfl rfl ?_
  refine jk_aload (pc := 36) hX 1 rfl rfl ?_
  refine jk_getI (pc := 37) hX 3 5 rfl rfl rfl (jx_vX ((jx_upc (by decide)).trans ((jx_cpc (by decide)).trans ((jx_cpc (by decide)).trans (jx_cpc (by decide))))) ?_)
  refine jk_put (pc := 38) hX 3 5 rfl rfl rfl ?_
  exact jk_vret (pc := 39) hX rfl h3
set_option maxHeartbeats 4000000 in
theorem bk_D_copyFrom_k5_0 {d : Nat} {K : jxK} {X : jxX} (hX : jx_clo jx_G1 (d + 1) (jx_call jx_G1 jx_T (d + 1)) kc_D_copyFrom K X) (M : jxM)
    (h : K none (jx_up (jx_cp (jx_cp (jx_cp (jx_cp (jx_cp (jx_cp M 6 0 74 0 120) 7 0 75 0 20) 8 0 76 0 20) 9 0 77 0 20) 10 0 78 0 20) 11 0 79 0 20) 73 6 (M 5 6))) :
    X 0 [.inr 73, .inr 5] [] M := by
  refine jk_aload (pc := 0) hX 1 rfl rfl ?_
  refine jk_getR (pc := 1) hX 0 0 rfl rfl (r := 5) rfl ?_
  refine jk_const (pc := 2) hX 0 rfl (by decide) ?_
  refine jk_aload (pc := 3) hX 0 rfl rfl ?_
  refine jk_getR (pc := 4) hX 0 0 rfl rfl (r := 73) rfl ?_
  refine jk_const (pc := 5) hX 0 rfl (by decide) ?_
  refine jk_aload (pc := 6) hX 0 rfl rfl ?_
  refine jk_getR (pc := 7) hX 0 0 rfl rfl (r := 73) rfl ?_
  refine jk_alen (pc := 8) hX 120 rfl rfl ?_
  refine jk_copy (pc := 9) hX 120 120 rfl (by omega) (Nat.le_of_ble_eq_true rfl) rfl rfl (by decide) ?_
  refine jk_aload (pc := 10) hX 1 rfl rfl ?_
  refine jk_getR (pc := 11) hX 0 1 rfl rfl (r := 6) rfl ?_
  refine jk_const (pc := 12) hX 0 rfl (by decide) ?_
  refine jk_aload (pc := 13) hX 0 rfl rfl ?_
  refine jk_getR (pc := 14) hX 0 1 rfl rfl (r := 74) rfl ?_
  refine jk_const (pc := 15) hX 0 rfl (by decide) ?_
  refine jk_const (pc := 16) hX 20 rfl (by decide) ?_
  refine jk_copy (pc := 17) hX 20 20 rfl (by omega) (Nat.le_of_ble_eq_true rfl) rfl rfl (by decide) ?_
  refine jk_aload (pc := 18) hX 1 rfl rfl ?_
  refine jk_getR (pc := 19) hX 0 2 rfl rfl (r := 7) rfl ?_
  refine jk_const (pc := 20) hX 0 rfl (by decide) ?_
  refine jk_aload (pc := 21) hX 0 rfl rfl ?_
  refine jk_getR (pc := 22) hX 0 2 rfl rfl (r := 75) rfl ?_
  refine jk_const (pc := 23) hX 0 rfl (by decide) ?_
  refine jk_const (pc := 24) hX 20 rfl (by decide) ?_
  refine jk_copy (pc := 25) hX 20 20 rfl (by omega) (Nat.le_of_ble_eq_true rfl) rfl rfl (by decide) ?_
  refine jk_aload (pc := 26) hX 1 rfl rfl ?_
  refine jk_getR (pc := 27) hX 0 3 rfl rfl (r := 8) rfl ?_
  refine jk_const (pc := 28) hX 0 rfl (by decide) ?_
  refine jk_aload (pc := 29) hX 0 rfl rfl ?_
  refine jk_getR (pc := 30) hX 0 3 rfl rfl (r := 76) rfl ?_
  refine jk_const (pc := 31) hX 0 rfl (by decide) ?_
  refine jk_const (pc := 32) hX 20 rfl (by decide) ?_
  refine jk_copy (pc := 33) hX 20 20 rfl (by omega) (Nat.le_of_ble_eq_true rfl) rfl rfl (by decide) ?_
  refine jk_aload (pc := 34) hX 1 rfl rfl ?_
  refine jk_getR (pc := 35) hX 0 4 rfl rfl (r := 9) rfl ?_
  refine jk_const (pc := 36) hX 0 rfl (by decide) ?_
  refine jk_aload (pc := 37) hX 0 rfl rfl ?_
  refine jk_getR (pc := 38) hX 0 4 rfl rfl (r := 77) rfl ?_
  refine jk_const (pc := 39) hX 0 rfl (by decide) ?_
  refine jk_const (pc := 40) hX 20 rfl (by decide) ?_
  refine jk_copy (pc := 41) hX 20 20 rfl (by omega) (Nat.le_of_ble_eq_true rfl) rfl rfl (by decide) ?_
  refine jk_aload (pc := 42) hX 1 rfl rfl ?_
  refine jk_getR (pc := 43) hX 0 5 rfl rfl (r := 10) rfl ?_
  refine jk_const (pc := 44) hX 0 rfl (by decide) ?_
  refine jk_aload (pc := 45) hX 0 rfl rfl ?_
  refine jk_getR (pc := 46) hX 0 5 rfl rfl (r := 78) rfl ?_
  refine jk_const (pc := 47) hX 0 rfl (by decide) ?_
  refine jk_const (pc := 48) hX 20 rfl (by decide) ?_
  refine jk_copy (pc := 49) hX 20 20 rfl (by omega) (Nat.le_of_ble_eq_true rfl) rfl rfl (by decide) ?_
  refine jk_aload (pc := 50) hX 0 rfl rfl ?_
  refine jk_aload (pc := 51) hX 1 rfl rfl ?_
  refine jk_getI (pc := 52) hX 0 6 rfl rfl rfl (jx_vX ((jx_cpc (by decide)).trans ((jx_cpc (by decide)).trans ((jx_cpc (by decide)).trans ((jx_cpc (by decide)).trans ((jx_cpc (by decide)).trans (jx_cpc (by decide))))))) ?_)
  refine jk_put (pc := 53) hX 0 6 rfl rfl rfl ?_
  exact jk_vret (pc := 54) hX rfl h
set_option maxHeartbeats 4000000 in
theorem bk_D_copyFrom_b5_0 {d : Nat} {K : jxK} {X : jxX} (hX : jx_clo jx_G1 (d + 1) (jx_call jx_G1 jx_T (d + 1)) kc_D_copyFrom K X) (M : jxM)
    (h : K none (jx_up (jx_cp (jx_cp (jx_cp (jx_cp (jx_cp (jx_cp M 74 0 6 0 120) 75 0 7 0 20) 76 0 8 0 20) 77 0 9 0 20) 78 0 10 0 20) 79 0 11 0 20) 5 6 (M 73 6))) :
    X 0 [.inr 5, .inr 73] [] M := by
  refine jk_aload (pc := 0) hX 1 rfl rfl ?_
  refine jk_getR (pc := 1) hX 0 0 rfl rfl (r := 73) rfl ?_
  refine jk_const (pc := 2) hX 0 rfl (by decide) ?_
  refine jk_aload (pc := 3) hX 0 rfl rfl ?_
  refine jk_getR (pc := 4) hX 0 0 rfl rfl (r := 5) rfl ?_
  refine jk_const (pc := 5) hX 0 rfl (by decide) ?_
  refine jk_aload (pc := 6) hX 0 rfl rfl ?_
  refine jk_getR (pc := 7) hX 0 0 rfl rfl (r := 5) rfl ?_
  refine jk_alen (pc := 8) hX 120 rfl rfl ?_
  refine jk_copy (pc := 9) hX 120 120 rfl (by omega) (Nat.le_of_ble_eq_true rfl) rfl rfl (by decide) ?_
  refine jk_aload (pc := 10) hX 1 rfl rfl ?_
  refine jk_getR (pc := 11) hX 0 1 rfl rfl (r := 74) rfl ?_
  refine jk_const (pc := 12) hX 0 rfl (by decide) ?_
  refine jk_aload (pc := 13) hX 0 rfl rfl ?_
  refine jk_getR (pc := 14) hX 0 1 rfl rfl (r := 6) rfl ?_
  refine jk_const (pc := 15) hX 0 rfl (by decide) ?_
  refine jk_const (pc := 16) hX 20 rfl (by decide) ?_
  refine jk_copy (pc := 17) hX 20 20 rfl (by omega) (Nat.le_of_ble_eq_true rfl) rfl rfl (by decide) ?_
  refine jk_aload (pc := 18) hX 1 rfl rfl ?_
  refine jk_getR (pc := 19) hX 0 2 rfl rfl (r := 75) rfl ?_
  refine jk_const (pc := 20) hX 0 rfl (by decide) ?_
  refine jk_aload (pc := 21) hX 0 rfl rfl ?_
  refine jk_getR (pc := 22) hX 0 2 rfl rfl (r := 7) rfl ?_
  refine jk_const (pc := 23) hX 0 rfl (by decide) ?_
  refine jk_const (pc := 24) hX 20 rfl (by decide) ?_
  refine jk_copy (pc := 25) hX 20 20 rfl (by omega) (Nat.le_of_ble_eq_true rfl) rfl rfl (by decide) ?_
  refine jk_aload (pc := 26) hX 1 rfl rfl ?_
  refine jk_getR (pc := 27) hX 0 3 rfl rfl (r := 76) rfl ?_
  refine jk_const (pc := 28) hX 0 rfl (by decide) ?_
  refine jk_aload (pc := 29) hX 0 rfl rfl ?_
  refine jk_getR (pc := 30) hX 0 3 rfl rfl (r := 8) rfl ?_
  refine jk_const (pc := 31) hX 0 rfl (by decide) ?_
  refine jk_const (pc := 32) hX 20 rfl (by decide) ?_
  refine jk_copy (pc := 33) hX 20 20 rfl (by omega) (Nat.le_of_ble_eq_true rfl) rfl rfl (by decide) ?_
  refine jk_aload (pc := 34) hX 1 rfl rfl ?_
  refine jk_getR (pc := 35) hX 0 4 rfl rfl (r := 77) rfl ?_
  refine jk_const (pc := 36) hX 0 rfl (by decide) ?_
  refine jk_aload (pc := 37) hX 0 rfl rfl ?_
  refine jk_getR (pc := 38) hX 0 4 rfl rfl (r := 9) rfl ?_
  refine jk_const (pc := 39) hX 0 rfl (by decide) ?_
  refine jk_const (pc := 40) hX 20 rfl (by decide) ?_
  refine jk_copy (pc := 41) hX 20 20 rfl (by omega) (Nat.le_of_ble_eq_true rfl) rfl rfl (by decide) ?_
  refine jk_aload (pc := 42) hX 1 rfl rfl ?_
  refine jk_getR (pc := 43) hX 0 5 rfl rfl (r := 78) rfl ?_
  refine jk_const (pc := 44) hX 0 rfl (by decide) ?_
  refine jk_aload (pc := 45) hX 0 rfl rfl ?_
  refine jk_getR (pc := 46) hX 0 5 rfl rfl (r := 10) rfl ?_
  refine jk_const (pc := 47) hX 0 rfl (by decide) ?_
  refine jk_const (pc := 48) hX 20 rfl (by decide) ?_
  refine jk_copy (pc := 49) hX 20 20 rfl (by omega) (Nat.le_of_ble_eq_true rfl) rfl rfl (by decide) ?_
  refine jk_aload (pc := 50) hX 0 rfl rfl ?_
  refine jk_aload (pc := 51) hX 1 rfl rfl ?_
  refine jk_getI (pc := 52) hX 0 6 rfl rfl rfl (jx_vX ((jx_cpc (by decide)).trans ((jx_cpc (by decide)).trans ((jx_cpc (by decide)).trans ((jx_cpc (by decide)).trans ((jx_cpc (by decide)).trans (jx_cpc (by decide))))))) ?_)
  refine jk_put (pc := 53) hX 0 6 rfl rfl rfl ?_
  exact jk_vret (pc := 54) hX rfl h
set_option maxHeartbeats 4000000 in
theorem bk_M_copyFrom_k5_0 {d : Nat} {K : jxK} {X : jxX} (hX : jx_clo jx_G1 (d + 2) (jx_call jx_G1 jx_T (d + 2)) kc_M_copyFrom K X) (M : jxM)
    (h : jx_call jx_G1 jx_T (d + 2) 0 [.inr 73, .inr 5] M (fun r M2 => r = none ∧ K none (jx_up (jx_up (jx_cp (jx_cp (jx_cp M2 12 0 80 0 49) 13 0 81 0 16) 14 0 82 0 17) 72 4 (M2 4 4)) 72 5 (M2 4 5)))) :
    X 0 [.inr 72, .inr 4] [] M := by
  refine jk_aload (pc := 0) hX 0 rfl rfl ?_
  refine jk_getR (pc := 1) hX 3 0 rfl rfl (r := 72) rfl ?_
  refine jk_aload (pc := 2) hX 1 rfl rfl ?_
  refine jk_getR (pc := 3) hX 3 0 rfl rfl (r := 4) rfl ?_
  refine jk_cv (pc := 4) hX 0 1 0 rfl 73 [.inr 5] [] rfl rfl rfl (Nat.le_of_ble_eq_true rfl) (jx_mono (fun r M2 hr => ?_) h)
  obtain ⟨rfl, h3⟩ := hr
  show X 5 [.inr 72, .inr 4] [] M2
  refine jk_aload (pc := 5) hX 1 rfl rfl ?_
  refine jk_getR (pc := 6) hX 3 1 rfl rfl (r := 11) rfl ?_
  refine jk_const (pc := 7) hX 0 rfl (by decide) ?_
  refine jk_aload (pc := 8) hX 0 rfl rfl ?_
  refine jk_getR (pc := 9) hX 3 1 rfl rfl (r := 79) rfl ?_
  refine jk_const (pc := 10) hX 0 rfl (by decide) ?_
  refine jk_aload (pc := 11) hX 0 rfl rfl ?_
  refine jk_getR (pc := 12) hX 3 1 rfl rfl (r := 79) rfl ?_
  refine jk_alen (pc := 13) hX 49 rfl rfl ?_
  refine jk_copy (pc := 14) hX 49 49 rfl (by omega) (Nat.le_of_ble_eq_true rfl) rfl rfl (by decide) ?_
  refine jk_aload (pc := 15) hX 1 rfl rfl ?_
  refine jk_getR (pc := 16) hX 3 2 rfl rfl (r := 12) rfl ?_
  refine jk_const (pc := 17) hX 0 rfl (by decide) ?_
  refine jk_aload (pc := 18) hX 0 rfl rfl ?_
  refine jk_getR (pc := 19) hX 3 2 rfl rfl (r := 80) rfl ?_
  refine jk_const (pc := 20) hX 0 rfl (by decide) ?_
  refine jk_const (pc := 21) hX 16 rfl (by decide) ?_
  refine jk_copy (pc := 22) hX 16 16 rfl (by omega) (Nat.le_of_ble_eq_true rfl) rfl rfl (by decide) ?_
  refine jk_aload (pc := 23) hX 1 rfl rfl ?_
  refine jk_getR (pc := 24) hX 3 3 rfl rfl (r := 13) rfl ?_
  refine jk_const (pc := 25) hX 0 rfl (by decide) ?_
  refine jk_aload (pc := 26) hX 0 rfl rfl ?_
  refine jk_getR (pc := 27) hX 3 3 rfl rfl (r := 81) rfl ?_
  refine jk_const (pc := 28) hX 0 rfl (by decide) ?_
  refine jk_const (pc := 29) hX 17 rfl (by decide) ?_
  refine jk_copy (pc := 30) hX 17 17 rfl (by omega) (Nat.le_of_ble_eq_true rfl) rfl rfl (by decide) ?_
  refine jk_aload (pc := 31) hX 0 rfl rfl ?_
  refine jk_aload (pc := 32) hX 1 rfl rfl ?_
  refine jk_getI (pc := 33) hX 3 4 rfl rfl rfl (jx_vX ((jx_cpc (by decide)).trans ((jx_cpc (by decide)).trans (jx_cpc (by decide)))) ?_)
  refine jk_put (pc := 34) hX 3 4 rfl rfl rfl ?_
  refine jk_aload (pc := 35) hX 0 rfl rfl ?_
  refine jk_aload (pc := 36) hX 1 rfl rfl ?_
  refine jk_getI (pc := 37) hX 3 5 rfl rfl rfl (jx_vX ((jx_upc (by decide)).trans ((jx_cpc (by decide)).trans ((jx_cpc (by decide)).trans (jx_cpc (by decide))))) ?_)
  refine jk_put (pc := 38) hX 3 5 rfl rfl rfl ?_
  exact jk_vret (pc := 39) hX rfl h3
set_option maxHeartbeats 4000000 in
theorem bk_M_copyFrom_b5_0 {d : Nat} {K : jxK} {X : jxX} (hX : jx_clo jx_G1 (d + 2) (jx_call jx_G1 jx_T (d + 2)) kc_M_copyFrom K X) (M : jxM)
    (h : jx_call jx_G1 jx_T (d + 2) 0 [.inr 5, .inr 73] M (fun r M2 => r = none ∧ K none (jx_up (jx_up (jx_cp (jx_cp (jx_cp M2 80 0 12 0 49) 81 0 13 0 16) 82 0 14 0 17) 4 4 (M2 72 4)) 4 5 (M2 72 5)))) :
    X 0 [.inr 4, .inr 72] [] M := by
  refine jk_aload (pc := 0) hX 0 rfl rfl ?_
  refine jk_getR (pc := 1) hX 3 0 rfl rfl (r := 4) rfl ?_
  refine jk_aload (pc := 2) hX 1 rfl rfl ?_
  refine jk_getR (pc := 3) hX 3 0 rfl rfl (r := 72) rfl ?_
  refine jk_cv (pc := 4) hX 0 1 0 rfl 5 [.inr 73] [] rfl rfl rfl (Nat.le_of_ble_eq_true rfl) (jx_mono (fun r M2 hr => ?_) h)
  obtain ⟨rfl, h3⟩ := hr
  show X 5 [.inr 4, .inr 72] [] M2
  refine jk_aload (pc := 5) hX 1 rfl rfl ?_
  refine jk_getR (pc := 6) hX 3 1 rfl rfl (r := 79) rfl ?_
  refine jk_const (pc := 7) hX 0 rfl (by decide) ?_
  refine jk_aload (pc := 8) hX 0 rfl rfl ?_
  refine jk_getR (pc := 9) hX 3 1 rfl rfl (r := 11) rfl ?_
  refine jk_const (pc := 10) hX 0 rfl (by decide) ?_
  refine jk_aload (pc := 11) hX 0 rfl rfl ?_
  refine jk_getR (pc := 12) hX 3 1 rfl rfl (r := 11) rfl ?_
  refine jk_alen (pc := 13) hX 49 rfl rfl ?_
  refine jk_copy (pc := 14) hX 49 49 rfl (by omega) (Nat.le_of_ble_eq_true rfl) rfl rfl (by decide) ?_
  refine jk_aload (pc := 15) hX 1 rfl rfl ?_
  refine jk_getR (pc := 16) hX 3 2 rfl rfl (r := 80) rfl ?_
  refine jk_const (pc := 17) hX 0 rfl (by decide) ?_
  refine jk_aload (pc := 18) hX 0 rfl rfl ?_
  refine jk_getR (pc := 19) hX 3 2 rfl rfl (r := 12) rfl ?_
  refine jk_const (pc := 20) hX 0 rfl (by decide) ?_
  refine jk_const (pc := 21) hX 16 rfl (by decide) ?_
  refine jk_copy (pc := 22) hX 16 16 rfl (by omega) (Nat.le_of_ble_eq_true rfl) rfl rfl (by decide) ?_
  refine jk_aload (pc := 23) hX 1 rfl rfl ?_
  refine jk_getR (pc := 24) hX 3 3 rfl rfl (r := 81) rfl ?_
  refine jk_const (pc := 25) hX 0 rfl (by decide) ?_
  refine jk_aload (pc := 26) hX 0 rfl rfl ?_
  refine jk_getR (pc := 27) hX 3 3 rfl rfl (r := 13) rfl ?_
  refine jk_const (pc := 28) hX 0 rfl (by decide) ?_
  refine jk_const (pc := 29) hX 17 rfl (by decide) ?_
  refine jk_copy (pc := 30) hX 17 17 rfl (by omega) (Nat.le_of_ble_eq_true rfl) rfl rfl (by decide) ?_
  refine jk_aload (pc := 31) hX 0 rfl rfl ?_
  refine jk_aload (pc := 32) hX 1 rfl rfl ?_
  refine jk_getI (pc := 33) hX 3 4 rfl rfl rfl (jx_vX ((jx_cpc (by decide)).trans ((jx_cpc (by decide)).trans (jx_cpc (by decide)))) ?_)
  refine jk_put (pc := 34) hX 3 4 rfl rfl rfl ?_
  refine jk_aload (pc := 35) hX 0 rfl rfl ?_
  refine jk_aload (pc := 36) hX 1 rfl rfl ?_
  refine jk_getI (pc := 37) hX 3 5 rfl rfl rfl (jx_vX ((jx_upc (by decide)).trans ((jx_cpc (by decide)).trans ((jx_cpc (by decide)).trans (jx_cpc (by decide))))) ?_)
  refine jk_put (pc := 38) hX 3 5 rfl rfl rfl ?_
  exact jk_vret (pc := 39) hX rfl h3
set_option maxHeartbeats 4000000 in
theorem bk_H_keep_0 {d : Nat} {K : jxK} {X : jxX} (hX : jx_clo jx_G1 (d + 3) (jx_call jx_G1 jx_T (d + 3)) kc_H_keep K X) (M : jxM)
    (h : ((0 ≤ (M 15 1) ∧ (M 15 1) < 6)) ∧ (((M 15 1) = 0 → jx_call jx_G1 jx_T (d + 3) 16 [.inr 17, .inr 4] M (fun r M9 => r = none ∧ (((M9 15 1) ≠ 5 → (((-2147483648 : Int) ≤ (M9 15 1) + 1 ∧ (M9 15 1) + 1 ≤ 2147483647) ∧ ((-2147483648 : Int) ≤ (M9 15 2) + 1 ∧ (M9 15 2) + 1 ≤ 2147483647)) ∧ K none (jx_up (jx_up M9 15 1 ((M9 15 1) + 1)) 15 2 (min ((M9 15 2) + 1) 6))) ∧ ((M9 15 1) = 5 → (((-2147483648 : Int) ≤ (M9 15 2) + 1 ∧ (M9 15 2) + 1 ≤ 2147483647)) ∧ K none (jx_up (jx_up M9 15 1 0) 15 2 (min ((M9 15 2) + 1) 6)))))) ∧ ((M 15 1) = 1 → jx_call jx_G1 jx_T (d + 3) 16 [.inr 28, .inr 4] M (fun r M21 => r = none ∧ (((M21 15 1) ≠ 5 → (((-2147483648 : Int) ≤ (M21 15 1) + 1 ∧ (M21 15 1) + 1 ≤ 2147483647) ∧ ((-2147483648 : Int) ≤ (M21 15 2) + 1 ∧ (M21 15 2) + 1 ≤ 2147483647)) ∧ K none (jx_up (jx_up M21 15 1 ((M21 15 1) + 1)) 15 2 (min ((M21 15 2) + 1) 6))) ∧ ((M21 15 1) = 5 → (((-2147483648 : Int) ≤ (M21 15 2) + 1 ∧ (M21 15 2) + 1 ≤ 2147483647)) ∧ K none (jx_up (jx_up M21 15 1 0) 15 2 (min ((M21 15 2) + 1) 6)))))) ∧ ((M 15 1) = 2 → jx_call jx_G1 jx_T (d + 3) 16 [.inr 39, .inr 4] M (fun r M33 => r = none ∧ (((M33 15 1) ≠ 5 → (((-2147483648 : Int) ≤ (M33 15 1) + 1 ∧ (M33 15 1) + 1 ≤ 2147483647) ∧ ((-2147483648 : Int) ≤ (M33 15 2) + 1 ∧ (M33 15 2) + 1 ≤ 2147483647)) ∧ K none (jx_up (jx_up M33 15 1 ((M33 15 1) + 1)) 15 2 (min ((M33 15 2) + 1) 6))) ∧ ((M33 15 1) = 5 → (((-2147483648 : Int) ≤ (M33 15 2) + 1 ∧ (M33 15 2) + 1 ≤ 2147483647)) ∧ K none (jx_up (jx_up M33 15 1 0) 15 2 (min ((M33 15 2) + 1) 6)))))) ∧ ((M 15 1) = 3 → jx_call jx_G1 jx_T (d + 3) 16 [.inr 50, .inr 4] M (fun r M45 => r = none ∧ (((M45 15 1) ≠ 5 → (((-2147483648 : Int) ≤ (M45 15 1) + 1 ∧ (M45 15 1) + 1 ≤ 2147483647) ∧ ((-2147483648 : Int) ≤ (M45 15 2) + 1 ∧ (M45 15 2) + 1 ≤ 2147483647)) ∧ K none (jx_up (jx_up M45 15 1 ((M45 15 1) + 1)) 15 2 (min ((M45 15 2) + 1) 6))) ∧ ((M45 15 1) = 5 → (((-2147483648 : Int) ≤ (M45 15 2) + 1 ∧ (M45 15 2) + 1 ≤ 2147483647)) ∧ K none (jx_up (jx_up M45 15 1 0) 15 2 (min ((M45 15 2) + 1) 6)))))) ∧ ((M 15 1) = 4 → jx_call jx_G1 jx_T (d + 3) 16 [.inr 61, .inr 4] M (fun r M57 => r = none ∧ (((M57 15 1) ≠ 5 → (((-2147483648 : Int) ≤ (M57 15 1) + 1 ∧ (M57 15 1) + 1 ≤ 2147483647) ∧ ((-2147483648 : Int) ≤ (M57 15 2) + 1 ∧ (M57 15 2) + 1 ≤ 2147483647)) ∧ K none (jx_up (jx_up M57 15 1 ((M57 15 1) + 1)) 15 2 (min ((M57 15 2) + 1) 6))) ∧ ((M57 15 1) = 5 → (((-2147483648 : Int) ≤ (M57 15 2) + 1 ∧ (M57 15 2) + 1 ≤ 2147483647)) ∧ K none (jx_up (jx_up M57 15 1 0) 15 2 (min ((M57 15 2) + 1) 6)))))) ∧ ((M 15 1) = 5 → jx_call jx_G1 jx_T (d + 3) 16 [.inr 72, .inr 4] M (fun r M69 => r = none ∧ (((M69 15 1) ≠ 5 → (((-2147483648 : Int) ≤ (M69 15 1) + 1 ∧ (M69 15 1) + 1 ≤ 2147483647) ∧ ((-2147483648 : Int) ≤ (M69 15 2) + 1 ∧ (M69 15 2) + 1 ≤ 2147483647)) ∧ K none (jx_up (jx_up M69 15 1 ((M69 15 1) + 1)) 15 2 (min ((M69 15 2) + 1) 6))) ∧ ((M69 15 1) = 5 → (((-2147483648 : Int) ≤ (M69 15 2) + 1 ∧ (M69 15 2) + 1 ≤ 2147483647)) ∧ K none (jx_up (jx_up M69 15 1 0) 15 2 (min ((M69 15 2) + 1) 6)))))))) :
    X 0 [.inr 15, .inr 4, .inr 0] [] M := by
  obtain ⟨g1, h80⟩ := h
  refine jk_aload (pc := 0) hX 0 rfl rfl ?_
  refine jk_getR (pc := 1) hX 1 0 rfl rfl (r := 15) rfl ?_
  refine jk_aload (pc := 2) hX 0 rfl rfl ?_
  refine jk_getI (pc := 3) hX 1 1 rfl rfl rfl ?_
  refine jk_aald (pc := 4) hX 6 rfl rfl g1 ?_
  rcases jx_cases6 g1 with q | q | q | q | q | q
  · have h2 := h80.1 q
    refine jx_vR (show jx_G1.2 16 (Int.toNat (M 15 1)) = 17 by rw [q]; rfl) ?_
    refine jk_astore (pc := 5) hX 2 rfl (Nat.le_of_ble_eq_true rfl) (ls' := [.inr 15, .inr 4, .inr 17]) rfl ?_
    refine jk_aload (pc := 6) hX 2 rfl rfl ?_
    refine jk_ifnonnull (pc := 7) hX 9 rfl ?_
    refine jk_aload (pc := 9) hX 2 rfl rfl ?_
    refine jk_aload (pc := 10) hX 1 rfl rfl ?_
    refine jk_cv (pc := 11) hX 16 1 3 rfl 17 [.inr 4] [] rfl rfl rfl (Nat.le_of_ble_eq_true rfl) (jx_mono (fun r M9 hr => ?_) h2)
    obtain ⟨rfl, h10⟩ := hr
    show X 12 [.inr 15, .inr 4, .inr 17] [] M9
    refine jk_aload (pc := 12) hX 0 rfl rfl ?_
    refine jk_aload (pc := 13) hX 0 rfl rfl ?_
    refine jk_getI (pc := 14) hX 1 1 rfl rfl rfl ?_
    refine jk_const (pc := 15) hX 5 rfl (by decide) ?_
    refine jk_cne (pc := 16) hX 19 rfl (fun q18 => ?_) (fun q19 => ?_)
    · have h11 := h10.1 q18
      obtain ⟨⟨g13, g14⟩, h15⟩ := h11
      refine jk_aload (pc := 19) hX 0 rfl rfl ?_
      refine jk_getI (pc := 20) hX 1 1 rfl rfl rfl ?_
      refine jk_const (pc := 21) hX 1 rfl (by decide) ?_
      refine jk_add (pc := 22) hX rfl g13 ?_
      refine jk_put (pc := 23) hX 1 1 rfl rfl rfl ?_
      refine jk_aload (pc := 24) hX 0 rfl rfl ?_
      refine jk_aload (pc := 25) hX 0 rfl rfl ?_
      refine jk_getI (pc := 26) hX 1 2 rfl rfl rfl (jx_vX (jx_upx (by decide)) ?_)
      refine jk_const (pc := 27) hX 1 rfl (by decide) ?_
      refine jk_add (pc := 28) hX rfl g14 ?_
      refine jk_const (pc := 29) hX 6 rfl (by decide) ?_
      refine jk_min (pc := 30) hX rfl (by omega) (Nat.le_of_ble_eq_true rfl) ?_
      refine jk_put (pc := 31) hX 1 2 rfl rfl rfl ?_
      exact jk_vret (pc := 32) hX rfl h15
    · have h12 := h10.2 q19
      obtain ⟨g16, h17⟩ := h12
      refine jk_const (pc := 17) hX 0 rfl (by decide) ?_
      refine jk_goto (pc := 18) hX 23 rfl ?_
      refine jk_put (pc := 23) hX 1 1 rfl rfl rfl ?_
      refine jk_aload (pc := 24) hX 0 rfl rfl ?_
      refine jk_aload (pc := 25) hX 0 rfl rfl ?_
      refine jk_getI (pc := 26) hX 1 2 rfl rfl rfl (jx_vX (jx_upx (by decide)) ?_)
      refine jk_const (pc := 27) hX 1 rfl (by decide) ?_
      refine jk_add (pc := 28) hX rfl g16 ?_
      refine jk_const (pc := 29) hX 6 rfl (by decide) ?_
      refine jk_min (pc := 30) hX rfl (by omega) (Nat.le_of_ble_eq_true rfl) ?_
      refine jk_put (pc := 31) hX 1 2 rfl rfl rfl ?_
      exact jk_vret (pc := 32) hX rfl h17
  · have h3 := h80.2.1 q
    refine jx_vR (show jx_G1.2 16 (Int.toNat (M 15 1)) = 28 by rw [q]; rfl) ?_
    refine jk_astore (pc := 5) hX 2 rfl (Nat.le_of_ble_eq_true rfl) (ls' := [.inr 15, .inr 4, .inr 28]) rfl ?_
    refine jk_aload (pc := 6) hX 2 rfl rfl ?_
    refine jk_ifnonnull (pc := 7) hX 9 rfl ?_
    refine jk_aload (pc := 9) hX 2 rfl rfl ?_
    refine jk_aload (pc := 10) hX 1 rfl rfl ?_
    refine jk_cv (pc := 11) hX 16 1 3 rfl 28 [.inr 4] [] rfl rfl rfl (Nat.le_of_ble_eq_true rfl) (jx_mono (fun r M21 hr => ?_) h3)
    obtain ⟨rfl, h22⟩ := hr
    show X 12 [.inr 15, .inr 4, .inr 28] [] M21
    refine jk_aload (pc := 12) hX 0 rfl rfl ?_
    refine jk_aload (pc := 13) hX 0 rfl rfl ?_
    refine jk_getI (pc := 14) hX 1 1 rfl rfl rfl ?_
    refine jk_const (pc := 15) hX 5 rfl (by decide) ?_
    refine jk_cne (pc := 16) hX 19 rfl (fun q30 => ?_) (fun q31 => ?_)
    · have h23 := h22.1 q30
      obtain ⟨⟨g25, g26⟩, h27⟩ := h23
      refine jk_aload (pc := 19) hX 0 rfl rfl ?_
      refine jk_getI (pc := 20) hX 1 1 rfl rfl rfl ?_
      refine jk_const (pc := 21) hX 1 rfl (by decide) ?_
      refine jk_add (pc := 22) hX rfl g25 ?_
      refine jk_put (pc := 23) hX 1 1 rfl rfl rfl ?_
      refine jk_aload (pc := 24) hX 0 rfl rfl ?_
      refine jk_aload (pc := 25) hX 0 rfl rfl ?_
      refine jk_getI (pc := 26) hX 1 2 rfl rfl rfl (jx_vX (jx_upx (by decide)) ?_)
      refine jk_const (pc := 27) hX 1 rfl (by decide) ?_
      refine jk_add (pc := 28) hX rfl g26 ?_
      refine jk_const (pc := 29) hX 6 rfl (by decide) ?_
      refine jk_min (pc := 30) hX rfl (by omega) (Nat.le_of_ble_eq_true rfl) ?_
      refine jk_put (pc := 31) hX 1 2 rfl rfl rfl ?_
      exact jk_vret (pc := 32) hX rfl h27
    · have h24 := h22.2 q31
      obtain ⟨g28, h29⟩ := h24
      refine jk_const (pc := 17) hX 0 rfl (by decide) ?_
      refine jk_goto (pc := 18) hX 23 rfl ?_
      refine jk_put (pc := 23) hX 1 1 rfl rfl rfl ?_
      refine jk_aload (pc := 24) hX 0 rfl rfl ?_
      refine jk_aload (pc := 25) hX 0 rfl rfl ?_
      refine jk_getI (pc := 26) hX 1 2 rfl rfl rfl (jx_vX (jx_upx (by decide)) ?_)
      refine jk_const (pc := 27) hX 1 rfl (by decide) ?_
      refine jk_add (pc := 28) hX rfl g28 ?_
      refine jk_const (pc := 29) hX 6 rfl (by decide) ?_
      refine jk_min (pc := 30) hX rfl (by omega) (Nat.le_of_ble_eq_true rfl) ?_
      refine jk_put (pc := 31) hX 1 2 rfl rfl rfl ?_
      exact jk_vret (pc := 32) hX rfl h29
  · have h4 := h80.2.2.1 q
    refine jx_vR (show jx_G1.2 16 (Int.toNat (M 15 1)) = 39 by rw [q]; rfl) ?_
    refine jk_astore (pc := 5) hX 2 rfl (Nat.le_of_ble_eq_true rfl) (ls' := [.inr 15, .inr 4, .inr 39]) rfl ?_
    refine jk_aload (pc := 6) hX 2 rfl rfl ?_
    refine jk_ifnonnull (pc := 7) hX 9 rfl ?_
    refine jk_aload (pc := 9) hX 2 rfl rfl ?_
    refine jk_aload (pc := 10) hX 1 rfl rfl ?_
    refine jk_cv (pc := 11) hX 16 1 3 rfl 39 [.inr 4] [] rfl rfl rfl (Nat.le_of_ble_eq_true rfl) (jx_mono (fun r M33 hr => ?_) h4)
    obtain ⟨rfl, h34⟩ := hr
    show X 12 [.inr 15, .inr 4, .inr 39] [] M33
    refine jk_aload (pc := 12) hX 0 rfl rfl ?_
    refine jk_aload (pc := 13) hX 0 rfl rfl ?_
    refine jk_getI (pc := 14) hX 1 1 rfl rfl rfl ?_
    refine jk_const (pc := 15) hX 5 rfl (by decide) ?_
    refine jk_cne (pc := 16) hX 19 rfl (fun q42 => ?_) (fun q43 => ?_)
    · have h35 := h34.1 q42
      obtain ⟨⟨g37, g38⟩, h39⟩ := h35
      refine jk_aload (pc := 19) hX 0 rfl rfl ?_
      refine jk_getI (pc := 20) hX 1 1 rfl rfl rfl ?_
      refine jk_const (pc := 21) hX 1 rfl (by decide) ?_
      refine jk_add (pc := 22) hX rfl g37 ?_
      refine jk_put (pc := 23) hX 1 1 rfl rfl rfl ?_
      refine jk_aload (pc := 24) hX 0 rfl rfl ?_
      refine jk_aload (pc := 25) hX 0 rfl rfl ?_
      refine jk_getI (pc := 26) hX 1 2 rfl rfl rfl (jx_vX (jx_upx (by decide)) ?_)
      refine jk_const (pc := 27) hX 1 rfl (by decide) ?_
      refine jk_add (pc := 28) hX rfl g38 ?_
      refine jk_const (pc := 29) hX 6 rfl (by decide) ?_
      refine jk_min (pc := 30) hX rfl (by omega) (Nat.le_of_ble_eq_true rfl) ?_
      refine jk_put (pc := 31) hX 1 2 rfl rfl rfl ?_
      exact jk_vret (pc := 32) hX rfl h39
    · have h36 := h34.2 q43
      obtain ⟨g40, h41⟩ := h36
      refine jk_const (pc := 17) hX 0 rfl (by decide) ?_
      refine jk_goto (pc := 18) hX 23 rfl ?_
      refine jk_put (pc := 23) hX 1 1 rfl rfl rfl ?_
      refine jk_aload (pc := 24) hX 0 rfl rfl ?_
      refine jk_aload (pc := 25) hX 0 rfl rfl ?_
      refine jk_getI (pc := 26) hX 1 2 rfl rfl rfl (jx_vX (jx_upx (by decide)) ?_)
      refine jk_const (pc := 27) hX 1 rfl (by decide) ?_
      refine jk_add (pc := 28) hX rfl g40 ?_
      refine jk_const (pc := 29) hX 6 rfl (by decide) ?_
      refine jk_min (pc := 30) hX rfl (by omega) (Nat.le_of_ble_eq_true rfl) ?_
      refine jk_put (pc := 31) hX 1 2 rfl rfl rfl ?_
      exact jk_vret (pc := 32) hX rfl h41
  · have h5 := h80.2.2.2.1 q
    refine jx_vR (show jx_G1.2 16 (Int.toNat (M 15 1)) = 50 by rw [q]; rfl) ?_
    refine jk_astore (pc := 5) hX 2 rfl (Nat.le_of_ble_eq_true rfl) (ls' := [.inr 15, .inr 4, .inr 50]) rfl ?_
    refine jk_aload (pc := 6) hX 2 rfl rfl ?_
    refine jk_ifnonnull (pc := 7) hX 9 rfl ?_
    refine jk_aload (pc := 9) hX 2 rfl rfl ?_
    refine jk_aload (pc := 10) hX 1 rfl rfl ?_
    refine jk_cv (pc := 11) hX 16 1 3 rfl 50 [.inr 4] [] rfl rfl rfl (Nat.le_of_ble_eq_true rfl) (jx_mono (fun r M45 hr => ?_) h5)
    obtain ⟨rfl, h46⟩ := hr
    show X 12 [.inr 15, .inr 4, .inr 50] [] M45
    refine jk_aload (pc := 12) hX 0 rfl rfl ?_
    refine jk_aload (pc := 13) hX 0 rfl rfl ?_
    refine jk_getI (pc := 14) hX 1 1 rfl rfl rfl ?_
    refine jk_const (pc := 15) hX 5 rfl (by decide) ?_
    refine jk_cne (pc := 16) hX 19 rfl (fun q54 => ?_) (fun q55 => ?_)
    · have h47 := h46.1 q54
      obtain ⟨⟨g49, g50⟩, h51⟩ := h47
      refine jk_aload (pc := 19) hX 0 rfl rfl ?_
      refine jk_getI (pc := 20) hX 1 1 rfl rfl rfl ?_
      refine jk_const (pc := 21) hX 1 rfl (by decide) ?_
      refine jk_add (pc := 22) hX rfl g49 ?_
      refine jk_put (pc := 23) hX 1 1 rfl rfl rfl ?_
      refine jk_aload (pc := 24) hX 0 rfl rfl ?_
      refine jk_aload (pc := 25) hX 0 rfl rfl ?_
      refine jk_getI (pc := 26) hX 1 2 rfl rfl rfl (jx_vX (jx_upx (by decide)) ?_)
      refine jk_const (pc := 27) hX 1 rfl (by decide) ?_
      refine jk_add (pc := 28) hX rfl g50 ?_
      refine jk_const (pc := 29) hX 6 rfl (by decide) ?_
      refine jk_min (pc := 30) hX rfl (by omega) (Nat.le_of_ble_eq_true rfl) ?_
      refine jk_put (pc := 31) hX 1 2 rfl rfl rfl ?_
      exact jk_vret (pc := 32) hX rfl h51
    · have h48 := h46.2 q55
      obtain ⟨g52, h53⟩ := h48
      refine jk_const (pc := 17) hX 0 rfl (by decide) ?_
      refine jk_goto (pc := 18) hX 23 rfl ?_
      refine jk_put (pc := 23) hX 1 1 rfl rfl rfl ?_
      refine jk_aload (pc := 24) hX 0 rfl rfl ?_
      refine jk_aload (pc := 25) hX 0 rfl rfl ?_
      refine jk_getI (pc := 26) hX 1 2 rfl rfl rfl (jx_vX (jx_upx (by decide)) ?_)
      refine jk_const (pc := 27) hX 1 rfl (by decide) ?_
      refine jk_add (pc := 28) hX rfl g52 ?_
      refine jk_const (pc := 29) hX 6 rfl (by decide) ?_
      refine jk_min (pc := 30) hX rfl (by omega) (Nat.le_of_ble_eq_true rfl) ?_
      refine jk_put (pc := 31) hX 1 2 rfl rfl rfl ?_
      exact jk_vret (pc := 32) hX rfl h53
  · have h6 := h80.2.2.2.2.1 q
    refine jx_vR (show jx_G1.2 16 (Int.toNat (M 15 1)) = 61 by rw [q]; rfl) ?_
    refine jk_astore (pc := 5) hX 2 rfl (Nat.le_of_ble_eq_true rfl) (ls' := [.inr 15, .inr 4, .inr 61]) rfl ?_
    refine jk_aload (pc := 6) hX 2 rfl rfl ?_
    refine jk_ifnonnull (pc := 7) hX 9 rfl ?_
    refine jk_aload (pc := 9) hX 2 rfl rfl ?_
    refine jk_aload (pc := 10) hX 1 rfl rfl ?_
    refine jk_cv (pc := 11) hX 16 1 3 rfl 61 [.inr 4] [] rfl rfl rfl (Nat.le_of_ble_eq_true rfl) (jx_mono (fun r M57 hr => ?_) h6)
    obtain ⟨rfl, h58⟩ := hr
    show X 12 [.inr 15, .inr 4, .inr 61] [] M57
    refine jk_aload (pc := 12) hX 0 rfl rfl ?_
    refine jk_aload (pc := 13) hX 0 rfl rfl ?_
    refine jk_getI (pc := 14) hX 1 1 rfl rfl rfl ?_
    refine jk_const (pc := 15) hX 5 rfl (by decide) ?_
    refine jk_cne (pc := 16) hX 19 rfl (fun q66 => ?_) (fun q67 => ?_)
    · have h59 := h58.1 q66
      obtain ⟨⟨g61, g62⟩, h63⟩ := h59
      refine jk_aload (pc := 19) hX 0 rfl rfl ?_
      refine jk_getI (pc := 20) hX 1 1 rfl rfl rfl ?_
      refine jk_const (pc := 21) hX 1 rfl (by decide) ?_
      refine jk_add (pc := 22) hX rfl g61 ?_
      refine jk_put (pc := 23) hX 1 1 rfl rfl rfl ?_
      refine jk_aload (pc := 24) hX 0 rfl rfl ?_
      refine jk_aload (pc := 25) hX 0 rfl rfl ?_
      refine jk_getI (pc := 26) hX 1 2 rfl rfl rfl (jx_vX (jx_upx (by decide)) ?_)
      refine jk_const (pc := 27) hX 1 rfl (by decide) ?_
      refine jk_add (pc := 28) hX rfl g62 ?_
      refine jk_const (pc := 29) hX 6 rfl (by decide) ?_
      refine jk_min (pc := 30) hX rfl (by omega) (Nat.le_of_ble_eq_true rfl) ?_
      refine jk_put (pc := 31) hX 1 2 rfl rfl rfl ?_
      exact jk_vret (pc := 32) hX rfl h63
    · have h60 := h58.2 q67
      obtain ⟨g64, h65⟩ := h60
      refine jk_const (pc := 17) hX 0 rfl (by decide) ?_
      refine jk_goto (pc := 18) hX 23 rfl ?_
      refine jk_put (pc := 23) hX 1 1 rfl rfl rfl ?_
      refine jk_aload (pc := 24) hX 0 rfl rfl ?_
      refine jk_aload (pc := 25) hX 0 rfl rfl ?_
      refine jk_getI (pc := 26) hX 1 2 rfl rfl rfl (jx_vX (jx_upx (by decide)) ?_)
      refine jk_const (pc := 27) hX 1 rfl (by decide) ?_
      refine jk_add (pc := 28) hX rfl g64 ?_
      refine jk_const (pc := 29) hX 6 rfl (by decide) ?_
      refine jk_min (pc := 30) hX rfl (by omega) (Nat.le_of_ble_eq_true rfl) ?_
      refine jk_put (pc := 31) hX 1 2 rfl rfl rfl ?_
      exact jk_vret (pc := 32) hX rfl h65
  · have h7 := h80.2.2.2.2.2 q
    refine jx_vR (show jx_G1.2 16 (Int.toNat (M 15 1)) = 72 by rw [q]; rfl) ?_
    refine jk_astore (pc := 5) hX 2 rfl (Nat.le_of_ble_eq_true rfl) (ls' := [.inr 15, .inr 4, .inr 72]) rfl ?_
    refine jk_aload (pc := 6) hX 2 rfl rfl ?_
    refine jk_ifnonnull (pc := 7) hX 9 rfl ?_
    refine jk_aload (pc := 9) hX 2 rfl rfl ?_
    refine jk_aload (pc := 10) hX 1 rfl rfl ?_
    refine jk_cv (pc := 11) hX 16 1 3 rfl 72 [.inr 4] [] rfl rfl rfl (Nat.le_of_ble_eq_true rfl) (jx_mono (fun r M69 hr => ?_) h7)
    obtain ⟨rfl, h70⟩ := hr
    show X 12 [.inr 15, .inr 4, .inr 72] [] M69
    refine jk_aload (pc := 12) hX 0 rfl rfl ?_
    refine jk_aload (pc := 13) hX 0 rfl rfl ?_
    refine jk_getI (pc := 14) hX 1 1 rfl rfl rfl ?_
    refine jk_const (pc := 15) hX 5 rfl (by decide) ?_
    refine jk_cne (pc := 16) hX 19 rfl (fun q78 => ?_) (fun q79 => ?_)
    · have h71 := h70.1 q78
      obtain ⟨⟨g73, g74⟩, h75⟩ := h71
      refine jk_aload (pc := 19) hX 0 rfl rfl ?_
      refine jk_getI (pc := 20) hX 1 1 rfl rfl rfl ?_
      refine jk_const (pc := 21) hX 1 rfl (by decide) ?_
      refine jk_add (pc := 22) hX rfl g73 ?_
      refine jk_put (pc := 23) hX 1 1 rfl rfl rfl ?_
      refine jk_aload (pc := 24) hX 0 rfl rfl ?_
      refine jk_aload (pc := 25) hX 0 rfl rfl ?_
      refine jk_getI (pc := 26) hX 1 2 rfl rfl rfl (jx_vX (jx_upx (by decide)) ?_)
      refine jk_const (pc := 27) hX 1 rfl (by decide) ?_
      refine jk_add (pc := 28) hX rfl g74 ?_
      refine jk_const (pc := 29) hX 6 rfl (by decide) ?_
      refine jk_min (pc := 30) hX rfl (by omega) (Nat.le_of_ble_eq_true rfl) ?_
      refine jk_put (pc := 31) hX 1 2 rfl rfl rfl ?_
      exact jk_vret (pc := 32) hX rfl h75
    · have h72 := h70.2 q79
      obtain ⟨g76, h77⟩ := h72
      refine jk_const (pc := 17) hX 0 rfl (by decide) ?_
      refine jk_goto (pc := 18) hX 23 rfl ?_
      refine jk_put (pc := 23) hX 1 1 rfl rfl rfl ?_
      refine jk_aload (pc := 24) hX 0 rfl rfl ?_
      refine jk_aload (pc := 25) hX 0 rfl rfl ?_
      refine jk_getI (pc := 26) hX 1 2 rfl rfl rfl (jx_vX (jx_upx (by decide)) ?_)
      refine jk_const (pc := 27) hX 1 rfl (by decide) ?_
      refine jk_add (pc := 28) hX rfl g76 ?_
      refine jk_const (pc := 29) hX 6 rfl (by decide) ?_
      refine jk_min (pc := 30) hX rfl (by omega) (Nat.le_of_ble_eq_true rfl) ?_
      refine jk_put (pc := 31) hX 1 2 rfl rfl rfl ?_
      exact jk_vret (pc := 32) hX rfl h77
set_option maxHeartbeats 4000000 in
theorem bk_H_bringBack_0 {d : Nat} {K : jxK} {X : jxX} (hX : jx_clo jx_G1 (d + 3) (jx_call jx_G1 jx_T (d + 3)) kc_H_bringBack K X) (M : jxM)
    (h : (((M 15 1) ≠ 0 → (((-2147483648 : Int) ≤ (M 15 1) - 1 ∧ (M 15 1) - 1 ≤ 2147483647) ∧ (0 ≤ ((M 15 1) - 1) ∧ ((M 15 1) - 1) < 6)) ∧ ((((M 15 1) - 1) = 0 → (((M 15 2) ≠ 0 → jx_call jx_G1 jx_T (d + 3) 16 [.inr 4, .inr 17] M (fun r M14 => r = none ∧ (((-2147483648 : Int) ≤ (M14 15 2) - 1 ∧ (M14 15 2) - 1 ≤ 2147483647)) ∧ K none (jx_up (jx_up M14 15 1 ((M 15 1) - 1)) 15 2 ((M14 15 2) - 1)))) ∧ ((M 15 2) = 0 → K none M))) ∧ (((M 15 1) - 1) = 1 → (((M 15 2) ≠ 0 → jx_call jx_G1 jx_T (d + 3) 16 [.inr 4, .inr 28] M (fun r M23 => r = none ∧ (((-2147483648 : Int) ≤ (M23 15 2) - 1 ∧ (M23 15 2) - 1 ≤ 2147483647)) ∧ K none (jx_up (jx_up M23 15 1 ((M 15 1) - 1)) 15 2 ((M23 15 2) - 1)))) ∧ ((M 15 2) = 0 → K none M))) ∧ (((M 15 1) - 1) = 2 → (((M 15 2) ≠ 0 → jx_call jx_G1 jx_T (d + 3) 16 [.inr 4, .inr 39] M (fun r M32 => r = none ∧ (((-2147483648 : Int) ≤ (M32 15 2) - 1 ∧ (M32 15 2) - 1 ≤ 2147483647)) ∧ K none (jx_up (jx_up M32 15 1 ((M 15 1) - 1)) 15 2 ((M32 15 2) - 1)))) ∧ ((M 15 2) = 0 → K none M))) ∧ (((M 15 1) - 1) = 3 → (((M 15 2) ≠ 0 → jx_call jx_G1 jx_T (d + 3) 16 [.inr 4, .inr 50] M (fun r M41 => r = none ∧ (((-2147483648 : Int) ≤ (M41 15 2) - 1 ∧ (M41 15 2) - 1 ≤ 2147483647)) ∧ K none (jx_up (jx_up M41 15 1 ((M 15 1) - 1)) 15 2 ((M41 15 2) - 1)))) ∧ ((M 15 2) = 0 → K none M))) ∧ (((M 15 1) - 1) = 4 → (((M 15 2) ≠ 0 → jx_call jx_G1 jx_T (d + 3) 16 [.inr 4, .inr 61] M (fun r M50 => r = none ∧ (((-2147483648 : Int) ≤ (M50 15 2) - 1 ∧ (M50 15 2) - 1 ≤ 2147483647)) ∧ K none (jx_up (jx_up M50 15 1 ((M 15 1) - 1)) 15 2 ((M50 15 2) - 1)))) ∧ ((M 15 2) = 0 → K none M))) ∧ (((M 15 1) - 1) = 5 → (((M 15 2) ≠ 0 → jx_call jx_G1 jx_T (d + 3) 16 [.inr 4, .inr 72] M (fun r M59 => r = none ∧ (((-2147483648 : Int) ≤ (M59 15 2) - 1 ∧ (M59 15 2) - 1 ≤ 2147483647)) ∧ K none (jx_up (jx_up M59 15 1 ((M 15 1) - 1)) 15 2 ((M59 15 2) - 1)))) ∧ ((M 15 2) = 0 → K none M))))) ∧ ((M 15 1) = 0 → (((M 15 2) ≠ 0 → jx_call jx_G1 jx_T (d + 3) 16 [.inr 4, .inr 72] M (fun r M69 => r = none ∧ (((-2147483648 : Int) ≤ (M69 15 2) - 1 ∧ (M69 15 2) - 1 ≤ 2147483647)) ∧ K none (jx_up (jx_up M69 15 1 5) 15 2 ((M69 15 2) - 1)))) ∧ ((M 15 2) = 0 → K none M))))) :
    X 0 [.inr 15, .inr 4, .inr 0, .inr 0] [] M := by
  refine jk_aload (pc := 0) hX 0 rfl rfl ?_
  refine jk_getI (pc := 1) hX 1 1 rfl rfl rfl ?_
  refine jk_zne (pc := 2) hX 5 rfl (fun q75 => ?_) (fun q76 => ?_)
  · have h1 := h.1 q75
    obtain ⟨⟨g3, g4⟩, h65⟩ := h1
    refine jk_aload (pc := 5) hX 0 rfl rfl ?_
    refine jk_getI (pc := 6) hX 1 1 rfl rfl rfl ?_
    refine jk_const (pc := 7) hX 1 rfl (by decide) ?_
    refine jk_sub (pc := 8) hX rfl g3 ?_
    refine jk_store (pc := 9) hX 2 rfl (Nat.le_of_ble_eq_true rfl) (ls' := [.inr 15, .inr 4, .inl ((M 15 1) - 1), .inr 0]) rfl ?_
    refine jk_aload (pc := 10) hX 0 rfl rfl ?_
    refine jk_getR (pc := 11) hX 1 0 rfl rfl (r := 15) rfl ?_
    refine jk_load (pc := 12) hX 2 rfl rfl ?_
    refine jk_aald (pc := 13) hX 6 rfl rfl g4 ?_
    rcases jx_cases6 g4 with q | q | q | q | q | q
    · have h5 := h65.1 q
      refine jx_vR (show jx_G1.2 16 (Int.toNat ((M 15 1) - 1)) = 17 by rw [q]; rfl) ?_
      refine jk_astore (pc := 14) hX 3 rfl (Nat.le_of_ble_eq_true rfl) (ls' := [.inr 15, .inr 4, .inl ((M 15 1) - 1), .inr 17]) rfl ?_
      refine jk_aload (pc := 15) hX 3 rfl rfl ?_
      refine jk_ifnull (pc := 16) hX 20 rfl ?_
      refine jk_aload (pc := 17) hX 0 rfl rfl ?_
      refine jk_getI (pc := 18) hX 1 2 rfl rfl rfl ?_
      refine jk_zne (pc := 19) hX 21 rfl (fun q18 => ?_) (fun q19 => ?_)
      · have h11 := h5.1 q18
        refine jk_aload (pc := 21) hX 1 rfl rfl ?_
        refine jk_aload (pc := 22) hX 3 rfl rfl ?_
        refine jk_cv (pc := 23) hX 16 1 3 rfl 4 [.inr 17] [] rfl rfl rfl (Nat.le_of_ble_eq_true rfl) (jx_mono (fun r M14 hr => ?_) h11)
        obtain ⟨rfl, h15⟩ := hr
        show X 24 [.inr 15, .inr 4, .inl ((M 15 1) - 1), .inr 17] [] M14
        obtain ⟨g16, h17⟩ := h15
        refine jk_aload (pc := 24) hX 0 rfl rfl ?_
        refine jk_load (pc := 25) hX 2 rfl rfl ?_
        refine jk_put (pc := 26) hX 1 1 rfl rfl rfl ?_
        refine jk_aload (pc := 27) hX 0 rfl rfl ?_
        refine jk_dup (pc := 28) hX rfl ?_
        refine jk_getI (pc := 29) hX 1 2 rfl rfl rfl (jx_vX (jx_upx (by decide)) ?_)
        refine jk_const (pc := 30) hX 1 rfl (by decide) ?_
        refine jk_sub (pc := 31) hX rfl g16 ?_
        refine jk_put (pc := 32) hX 1 2 rfl rfl rfl ?_
        exact jk_vret (pc := 33) hX rfl h17
      · have h12 := h5.2 q19
        exact jk_vret (pc := 20) hX rfl h12
    · have h6 := h65.2.1 q
      refine jx_vR (show jx_G1.2 16 (Int.toNat ((M 15 1) - 1)) = 28 by rw [q]; rfl) ?_
      refine jk_astore (pc := 14) hX 3 rfl (Nat.le_of_ble_eq_true rfl) (ls' := [.inr 15, .inr 4, .inl ((M 15 1) - 1), .inr 28]) rfl ?_
      refine jk_aload (pc := 15) hX 3 rfl rfl ?_
      refine jk_ifnull (pc := 16) hX 20 rfl ?_
      refine jk_aload (pc := 17) hX 0 rfl rfl ?_
      refine jk_getI (pc := 18) hX 1 2 rfl rfl rfl ?_
      refine jk_zne (pc := 19) hX 21 rfl (fun q27 => ?_) (fun q28 => ?_)
      · have h20 := h6.1 q27
        refine jk_aload (pc := 21) hX 1 rfl rfl ?_
        refine jk_aload (pc := 22) hX 3 rfl rfl ?_
        refine jk_cv (pc := 23) hX 16 1 3 rfl 4 [.inr 28] [] rfl rfl rfl (Nat.le_of_ble_eq_true rfl) (jx_mono (fun r M23 hr => ?_) h20)
        obtain ⟨rfl, h24⟩ := hr
        show X 24 [.inr 15, .inr 4, .inl ((M 15 1) - 1), .inr 28] [] M23
        obtain ⟨g25, h26⟩ := h24
        refine jk_aload (pc := 24) hX 0 rfl rfl ?_
        refine jk_load (pc := 25) hX 2 rfl rfl ?_
        refine jk_put (pc := 26) hX 1 1 rfl rfl rfl ?_
        refine jk_aload (pc := 27) hX 0 rfl rfl ?_
        refine jk_dup (pc := 28) hX rfl ?_
        refine jk_getI (pc := 29) hX 1 2 rfl rfl rfl (jx_vX (jx_upx (by decide)) ?_)
        refine jk_const (pc := 30) hX 1 rfl (by decide) ?_
        refine jk_sub (pc := 31) hX rfl g25 ?_
        refine jk_put (pc := 32) hX 1 2 rfl rfl rfl ?_
        exact jk_vret (pc := 33) hX rfl h26
      · have h21 := h6.2 q28
        exact jk_vret (pc := 20) hX rfl h21
    · have h7 := h65.2.2.1 q
      refine jx_vR (show jx_G1.2 16 (Int.toNat ((M 15 1) - 1)) = 39 by rw [q]; rfl) ?_
      refine jk_astore (pc := 14) hX 3 rfl (Nat.le_of_ble_eq_true rfl) (ls' := [.inr 15, .inr 4, .inl ((M 15 1) - 1), .inr 39]) rfl ?_
      refine jk_aload (pc := 15) hX 3 rfl rfl ?_
      refine jk_ifnull (pc := 16) hX 20 rfl ?_
      refine jk_aload (pc := 17) hX 0 rfl rfl ?_
      refine jk_getI (pc := 18) hX 1 2 rfl rfl rfl ?_
      refine jk_zne (pc := 19) hX 21 rfl (fun q36 => ?_) (fun q37 => ?_)
      · have h29 := h7.1 q36
        refine jk_aload (pc := 21) hX 1 rfl rfl ?_
        refine jk_aload (pc := 22) hX 3 rfl rfl ?_
        refine jk_cv (pc := 23) hX 16 1 3 rfl 4 [.inr 39] [] rfl rfl rfl (Nat.le_of_ble_eq_true rfl) (jx_mono (fun r M32 hr => ?_) h29)
        obtain ⟨rfl, h33⟩ := hr
        show X 24 [.inr 15, .inr 4, .inl ((M 15 1) - 1), .inr 39] [] M32
        obtain ⟨g34, h35⟩ := h33
        refine jk_aload (pc := 24) hX 0 rfl rfl ?_
        refine jk_load (pc := 25) hX 2 rfl rfl ?_
        refine jk_put (pc := 26) hX 1 1 rfl rfl rfl ?_
        refine jk_aload (pc := 27) hX 0 rfl rfl ?_
        refine jk_dup (pc := 28) hX rfl ?_
        refine jk_getI (pc := 29) hX 1 2 rfl rfl rfl (jx_vX (jx_upx (by decide)) ?_)
        refine jk_const (pc := 30) hX 1 rfl (by decide) ?_
        refine jk_sub (pc := 31) hX rfl g34 ?_
        refine jk_put (pc := 32) hX 1 2 rfl rfl rfl ?_
        exact jk_vret (pc := 33) hX rfl h35
      · have h30 := h7.2 q37
        exact jk_vret (pc := 20) hX rfl h30
    · have h8 := h65.2.2.2.1 q
      refine jx_vR (show jx_G1.2 16 (Int.toNat ((M 15 1) - 1)) = 50 by rw [q]; rfl) ?_
      refine jk_astore (pc := 14) hX 3 rfl (Nat.le_of_ble_eq_true rfl) (ls' := [.inr 15, .inr 4, .inl ((M 15 1) - 1), .inr 50]) rfl ?_
      refine jk_aload (pc := 15) hX 3 rfl rfl ?_
      refine jk_ifnull (pc := 16) hX 20 rfl ?_
      refine jk_aload (pc := 17) hX 0 rfl rfl ?_
      refine jk_getI (pc := 18) hX 1 2 rfl rfl rfl ?_
      refine jk_zne (pc := 19) hX 21 rfl (fun q45 => ?_) (fun q46 => ?_)
      · have h38 := h8.1 q45
        refine jk_aload (pc := 21) hX 1 rfl rfl ?_
        refine jk_aload (pc := 22) hX 3 rfl rfl ?_
        refine jk_cv (pc := 23) hX 16 1 3 rfl 4 [.inr 50] [] rfl rfl rfl (Nat.le_of_ble_eq_true rfl) (jx_mono (fun r M41 hr => ?_) h38)
        obtain ⟨rfl, h42⟩ := hr
        show X 24 [.inr 15, .inr 4, .inl ((M 15 1) - 1), .inr 50] [] M41
        obtain ⟨g43, h44⟩ := h42
        refine jk_aload (pc := 24) hX 0 rfl rfl ?_
        refine jk_load (pc := 25) hX 2 rfl rfl ?_
        refine jk_put (pc := 26) hX 1 1 rfl rfl rfl ?_
        refine jk_aload (pc := 27) hX 0 rfl rfl ?_
        refine jk_dup (pc := 28) hX rfl ?_
        refine jk_getI (pc := 29) hX 1 2 rfl rfl rfl (jx_vX (jx_upx (by decide)) ?_)
        refine jk_const (pc := 30) hX 1 rfl (by decide) ?_
        refine jk_sub (pc := 31) hX rfl g43 ?_
        refine jk_put (pc := 32) hX 1 2 rfl rfl rfl ?_
        exact jk_vret (pc := 33) hX rfl h44
      · have h39 := h8.2 q46
        exact jk_vret (pc := 20) hX rfl h39
    · have h9 := h65.2.2.2.2.1 q
      refine jx_vR (show jx_G1.2 16 (Int.toNat ((M 15 1) - 1)) = 61 by rw [q]; rfl) ?_
      refine jk_astore (pc := 14) hX 3 rfl (Nat.le_of_ble_eq_true rfl) (ls' := [.inr 15, .inr 4, .inl ((M 15 1) - 1), .inr 61]) rfl ?_
      refine jk_aload (pc := 15) hX 3 rfl rfl ?_
      refine jk_ifnull (pc := 16) hX 20 rfl ?_
      refine jk_aload (pc := 17) hX 0 rfl rfl ?_
      refine jk_getI (pc := 18) hX 1 2 rfl rfl rfl ?_
      refine jk_zne (pc := 19) hX 21 rfl (fun q54 => ?_) (fun q55 => ?_)
      · have h47 := h9.1 q54
        refine jk_aload (pc := 21) hX 1 rfl rfl ?_
        refine jk_aload (pc := 22) hX 3 rfl rfl ?_
        refine jk_cv (pc := 23) hX 16 1 3 rfl 4 [.inr 61] [] rfl rfl rfl (Nat.le_of_ble_eq_true rfl) (jx_mono (fun r M50 hr => ?_) h47)
        obtain ⟨rfl, h51⟩ := hr
        show X 24 [.inr 15, .inr 4, .inl ((M 15 1) - 1), .inr 61] [] M50
        obtain ⟨g52, h53⟩ := h51
        refine jk_aload (pc := 24) hX 0 rfl rfl ?_
        refine jk_load (pc := 25) hX 2 rfl rfl ?_
        refine jk_put (pc := 26) hX 1 1 rfl rfl rfl ?_
        refine jk_aload (pc := 27) hX 0 rfl rfl ?_
        refine jk_dup (pc := 28) hX rfl ?_
        refine jk_getI (pc := 29) hX 1 2 rfl rfl rfl (jx_vX (jx_upx (by decide)) ?_)
        refine jk_const (pc := 30) hX 1 rfl (by decide) ?_
        refine jk_sub (pc := 31) hX rfl g52 ?_
        refine jk_put (pc := 32) hX 1 2 rfl rfl rfl ?_
        exact jk_vret (pc := 33) hX rfl h53
      · have h48 := h9.2 q55
        exact jk_vret (pc := 20) hX rfl h48
    · have h10 := h65.2.2.2.2.2 q
      refine jx_vR (show jx_G1.2 16 (Int.toNat ((M 15 1) - 1)) = 72 by rw [q]; rfl) ?_
      refine jk_astore (pc := 14) hX 3 rfl (Nat.le_of_ble_eq_true rfl) (ls' := [.inr 15, .inr 4, .inl ((M 15 1) - 1), .inr 72]) rfl ?_
      refine jk_aload (pc := 15) hX 3 rfl rfl ?_
      refine jk_ifnull (pc := 16) hX 20 rfl ?_
      refine jk_aload (pc := 17) hX 0 rfl rfl ?_
      refine jk_getI (pc := 18) hX 1 2 rfl rfl rfl ?_
      refine jk_zne (pc := 19) hX 21 rfl (fun q63 => ?_) (fun q64 => ?_)
      · have h56 := h10.1 q63
        refine jk_aload (pc := 21) hX 1 rfl rfl ?_
        refine jk_aload (pc := 22) hX 3 rfl rfl ?_
        refine jk_cv (pc := 23) hX 16 1 3 rfl 4 [.inr 72] [] rfl rfl rfl (Nat.le_of_ble_eq_true rfl) (jx_mono (fun r M59 hr => ?_) h56)
        obtain ⟨rfl, h60⟩ := hr
        show X 24 [.inr 15, .inr 4, .inl ((M 15 1) - 1), .inr 72] [] M59
        obtain ⟨g61, h62⟩ := h60
        refine jk_aload (pc := 24) hX 0 rfl rfl ?_
        refine jk_load (pc := 25) hX 2 rfl rfl ?_
        refine jk_put (pc := 26) hX 1 1 rfl rfl rfl ?_
        refine jk_aload (pc := 27) hX 0 rfl rfl ?_
        refine jk_dup (pc := 28) hX rfl ?_
        refine jk_getI (pc := 29) hX 1 2 rfl rfl rfl (jx_vX (jx_upx (by decide)) ?_)
        refine jk_const (pc := 30) hX 1 rfl (by decide) ?_
        refine jk_sub (pc := 31) hX rfl g61 ?_
        refine jk_put (pc := 32) hX 1 2 rfl rfl rfl ?_
        exact jk_vret (pc := 33) hX rfl h62
      · have h57 := h10.2 q64
        exact jk_vret (pc := 20) hX rfl h57
  · have h2 := h.2 q76
    refine jk_const (pc := 3) hX 5 rfl (by decide) ?_
    refine jk_goto (pc := 4) hX 9 rfl ?_
    refine jk_store (pc := 9) hX 2 rfl (Nat.le_of_ble_eq_true rfl) (ls' := [.inr 15, .inr 4, .inl 5, .inr 0]) rfl ?_
    refine jk_aload (pc := 10) hX 0 rfl rfl ?_
    refine jk_getR (pc := 11) hX 1 0 rfl rfl (r := 15) rfl ?_
    refine jk_load (pc := 12) hX 2 rfl rfl ?_
    refine jk_aald (pc := 13) hX 6 rfl rfl (by decide) ?_
    refine jk_astore (pc := 14) hX 3 rfl (Nat.le_of_ble_eq_true rfl) (ls' := [.inr 15, .inr 4, .inl 5, .inr 72]) rfl ?_
    refine jk_aload (pc := 15) hX 3 rfl rfl ?_
    refine jk_ifnull (pc := 16) hX 20 rfl ?_
    refine jk_aload (pc := 17) hX 0 rfl rfl ?_
    refine jk_getI (pc := 18) hX 1 2 rfl rfl rfl ?_
    refine jk_zne (pc := 19) hX 21 rfl (fun q73 => ?_) (fun q74 => ?_)
    · have h66 := h2.1 q73
      refine jk_aload (pc := 21) hX 1 rfl rfl ?_
      refine jk_aload (pc := 22) hX 3 rfl rfl ?_
      refine jk_cv (pc := 23) hX 16 1 3 rfl 4 [.inr 72] [] rfl rfl rfl (Nat.le_of_ble_eq_true rfl) (jx_mono (fun r M69 hr => ?_) h66)
      obtain ⟨rfl, h70⟩ := hr
      show X 24 [.inr 15, .inr 4, .inl 5, .inr 72] [] M69
      obtain ⟨g71, h72⟩ := h70
      refine jk_aload (pc := 24) hX 0 rfl rfl ?_
      refine jk_load (pc := 25) hX 2 rfl rfl ?_
      refine jk_put (pc := 26) hX 1 1 rfl rfl rfl ?_
      refine jk_aload (pc := 27) hX 0 rfl rfl ?_
      refine jk_dup (pc := 28) hX rfl ?_
      refine jk_getI (pc := 29) hX 1 2 rfl rfl rfl (jx_vX (jx_upx (by decide)) ?_)
      refine jk_const (pc := 30) hX 1 rfl (by decide) ?_
      refine jk_sub (pc := 31) hX rfl g71 ?_
      refine jk_put (pc := 32) hX 1 2 rfl rfl rfl ?_
      exact jk_vret (pc := 33) hX rfl h72
    · have h67 := h2.2 q74
      exact jk_vret (pc := 20) hX rfl h67
set_option maxHeartbeats 4000000 in
theorem bk_C_beginEdit_0 {d : Nat} {K : jxK} {X : jxX} (hX : jx_clo jx_G1 (d + 4) (jx_call jx_G1 jx_T (d + 4)) kc_C_beginEdit K X) (M : jxM)
    (h : jx_call jx_G1 jx_T (d + 4) 9 [.inr 15, .inr 4] M (fun r M2 => r = none ∧ K none (jx_up M2 1 5 1))) :
    X 0 [.inr 1] [] M := by
  refine jk_aload (pc := 0) hX 0 rfl rfl ?_
  refine jk_getR (pc := 1) hX 6 2 rfl rfl (r := 14) rfl ?_
  refine jk_aload (pc := 2) hX 0 rfl rfl ?_
  refine jk_getR (pc := 3) hX 6 1 rfl rfl (r := 3) rfl ?_
  refine jk_cv (pc := 4) hX 9 1 1 rfl 15 [.inr 4] [] rfl rfl rfl (Nat.le_of_ble_eq_true rfl) (jx_mono (fun r M2 hr => ?_) h)
  obtain ⟨rfl, h3⟩ := hr
  show X 5 [.inr 1] [] M2
  refine jk_aload (pc := 5) hX 0 rfl rfl ?_
  refine jk_const (pc := 6) hX 1 rfl (by decide) ?_
  refine jk_putZ (pc := 7) hX 6 5 rfl rfl rfl (Or.inr rfl) ?_
  exact jk_vret (pc := 8) hX rfl h3
set_option maxHeartbeats 4000000 in
theorem bk_C_addEntry_0 {d : Nat} {K : jxK} {X : jxX} (hX : jx_clo jx_G1 (d + 5) (jx_call jx_G1 jx_T (d + 5)) kc_C_addEntry K X) (v1 : Int) (v2 : Int) (v3 : Int) (M : jxM)
    (h : ((v1 < (0 : Int) ∨ (99 : Int) < v1 → K (some (.inl (-1))) M) ∧ (¬ (v1 < (0 : Int) ∨ (99 : Int) < v1) → ((v2 < (0 : Int) ∨ (4 : Int) < v2 → K (some (.inl (-1))) M) ∧ (¬ (v2 < (0 : Int) ∨ (4 : Int) < v2) → ((¬ (v3 < (0 : Int) ∨ (99 : Int) < v3) → ((((0 : Int) ≤ (M 5 6) ∧ (M 5 6) ≤ 20) ∧ ((0 : Int) ≤ (M 2 1) ∧ (M 2 1) ≤ 20) ∧ ∀ e, (0 : Int) ≤ e → e < (M 5 6) → M 7 e ≤ 6)) ∧ ((¬ (d_holds M v1 v2) → (((M 5 6) < 20 → jx_call jx_G1 jx_T (d + 5) 44 [.inr 2] M (fun r M13 => ∃ r12 : Int, r = some (.inl r12) ∧ ((r12 = (-1) → jx_call jx_G1 jx_T (d + 5) 72 [.inr 1] M13 (fun r M18 => r = none ∧ jx_call jx_G1 jx_T (d + 5) 1 [.inr 5, .inr 2, .inl v1, .inl v2, .inl v3] M18 (fun r M21 => r = none ∧ (((-2147483648 : Int) ≤ (M21 5 6) - 1 ∧ (M21 5 6) - 1 ≤ 2147483647)) ∧ K (some (.inl ((M21 5 6) - 1))) (jx_up M21 2 1 0)))) ∧ (r12 ≠ (-1) → (((-2147483648 : Int) ≤ (-10) - r12 ∧ (-10) - r12 ≤ 2147483647)) ∧ K (some (.inl ((-10) - r12))) M13)))) ∧ (20 ≤ (M 5 6) → K (some (.inl (-3))) M))) ∧ (d_holds M v1 v2 → K (some (.inl (-2))) M))) ∧ (v3 < (0 : Int) ∨ (99 : Int) < v3 → K (some (.inl (-1))) M))))))) :
    X 0 [.inr 1, .inl v1, .inl v2, .inl v3, .inr 0, .inr 0] [] M := by
  refine jk_load (pc := 0) hX 1 rfl rfl ?_
  refine jk_const (pc := 1) hX 0 rfl (by decide) ?_
  refine jk_const (pc := 2) hX 99 rfl (by decide) ?_
  refine jk_cs (pc := 3) hX 79 3 rfl [.inl v1, .inl 0, .inl 99] [] rfl rfl (Nat.le_of_ble_eq_true rfl) (sp_C_isOutside (d + 4) v1 (0 : Int) (99 : Int) M  ?_)
  show X 4 [.inr 1, .inl v1, .inl v2, .inl v3, .inr 0, .inr 0] [.inl (jx_b (v1 < (0 : Int) ∨ (99 : Int) < v1))] M
  refine jk_zneB (pc := 4) hX 15 rfl (fun q38 => ?_) (fun q39 => ?_)
  · have h1 := h.1 q38
    refine jk_const (pc := 15) hX (-1) rfl (by decide) ?_
    exact jk_iret (pc := 16) hX rfl h1
  · have h2 := h.2 q39
    refine jk_load (pc := 5) hX 2 rfl rfl ?_
    refine jk_const (pc := 6) hX 0 rfl (by decide) ?_
    refine jk_const (pc := 7) hX 4 rfl (by decide) ?_
    refine jk_cs (pc := 8) hX 79 3 rfl [.inl v2, .inl 0, .inl 4] [] rfl rfl (Nat.le_of_ble_eq_true rfl) (sp_C_isOutside (d + 4) v2 (0 : Int) (4 : Int) M  ?_)
    show X 9 [.inr 1, .inl v1, .inl v2, .inl v3, .inr 0, .inr 0] [.inl (jx_b (v2 < (0 : Int) ∨ (4 : Int) < v2))] M
    refine jk_zneB (pc := 9) hX 15 rfl (fun q36 => ?_) (fun q37 => ?_)
    · have h3 := h2.1 q36
      refine jk_const (pc := 15) hX (-1) rfl (by decide) ?_
      exact jk_iret (pc := 16) hX rfl h3
    · have h4 := h2.2 q37
      refine jk_load (pc := 10) hX 3 rfl rfl ?_
      refine jk_const (pc := 11) hX 0 rfl (by decide) ?_
      refine jk_const (pc := 12) hX 99 rfl (by decide) ?_
      refine jk_cs (pc := 13) hX 79 3 rfl [.inl v3, .inl 0, .inl 99] [] rfl rfl (Nat.le_of_ble_eq_true rfl) (sp_C_isOutside (d + 4) v3 (0 : Int) (99 : Int) M  ?_)
      show X 14 [.inr 1, .inl v1, .inl v2, .inl v3, .inr 0, .inr 0] [.inl (jx_b (v3 < (0 : Int) ∨ (99 : Int) < v3))] M
      refine jk_zeqB (pc := 14) hX 17 rfl (fun q34 => ?_) (fun q35 => ?_)
      · have h5 := h4.1 q34
        obtain ⟨g7, h33⟩ := h5
        refine jk_aload (pc := 17) hX 0 rfl rfl ?_
        refine jk_getR (pc := 18) hX 6 1 rfl rfl (r := 3) rfl ?_
        refine jk_getR (pc := 19) hX 3 0 rfl rfl (r := 4) rfl ?_
        refine jk_astore (pc := 20) hX 4 rfl (Nat.le_of_ble_eq_true rfl) (ls' := [.inr 1, .inl v1, .inl v2, .inl v3, .inr 5, .inr 0]) rfl ?_
        refine jk_aload (pc := 21) hX 4 rfl rfl ?_
        refine jk_aload (pc := 22) hX 0 rfl rfl ?_
        refine jk_getR (pc := 23) hX 6 0 rfl rfl (r := 1) rfl ?_
        refine jk_load (pc := 24) hX 1 rfl rfl ?_
        refine jk_load (pc := 25) hX 2 rfl rfl ?_
        refine jk_cv (pc := 26) hX 5 3 0 rfl 5 [.inr 2, .inl v1, .inl v2] [] rfl rfl rfl (Nat.le_of_ble_eq_true rfl) (sp_D_holds (d + 3) v1 v2 M g7 ?_)
        show X 27 [.inr 1, .inl v1, .inl v2, .inl v3, .inr 5, .inr 0] [.inl (jx_b (d_holds M v1 v2))] M
        refine jk_zeqB (pc := 27) hX 30 rfl (fun q31 => ?_) (fun q32 => ?_)
        · have h8 := h33.1 q31
          refine jk_aload (pc := 30) hX 4 rfl rfl ?_
          refine jk_getI (pc := 31) hX 0 6 rfl rfl rfl ?_
          refine jk_const (pc := 32) hX 20 rfl (by decide) ?_
          refine jk_clt (pc := 33) hX 36 rfl (fun q29 => ?_) (fun q30 => ?_)
          · have h10 := h8.1 q29
            refine jk_aload (pc := 36) hX 0 rfl rfl ?_
            refine jk_getR (pc := 37) hX 6 0 rfl rfl (r := 1) rfl ?_
            refine jk_cv (pc := 38) hX 44 0 5 rfl 2 [] [] rfl rfl rfl (Nat.le_of_ble_eq_true rfl) (jx_mono (fun r M13 hr => ?_) h10)
            obtain ⟨r12, rfl, h14⟩ := hr
            show X 39 [.inr 1, .inl v1, .inl v2, .inl v3, .inr 5, .inr 0] [.inl r12] M13
            refine jk_store (pc := 39) hX 5 rfl (Nat.le_of_ble_eq_true rfl) (ls' := [.inr 1, .inl v1, .inl v2, .inl v3, .inr 5, .inl r12]) rfl ?_
            refine jk_load (pc := 40) hX 5 rfl rfl ?_
            refine jk_const (pc := 41) hX (-1) rfl (by decide) ?_
            refine jk_ceq (pc := 42) hX 47 rfl (fun q27 => ?_) (fun q28 => ?_)
            · have h15 := h14.1 q27
              refine jk_aload (pc := 47) hX 0 rfl rfl ?_
              refine jk_cv (pc := 48) hX 72 0 6 rfl 1 [] [] rfl rfl rfl (Nat.le_of_ble_eq_true rfl) (jx_mono (fun r M18 hr => ?_) h15)
              obtain ⟨rfl, h19⟩ := hr
              show X 49 [.inr 1, .inl v1, .inl v2, .inl v3, .inr 5, .inl r12] [] M18
              refine jk_aload (pc := 49) hX 4 rfl rfl ?_
              refine jk_aload (pc := 50) hX 0 rfl rfl ?_
              refine jk_getR (pc := 51) hX 6 0 rfl rfl (r := 1) rfl ?_
              refine jk_load (pc := 52) hX 1 rfl rfl ?_
              refine jk_load (pc := 53) hX 2 rfl rfl ?_
              refine jk_load (pc := 54) hX 3 rfl rfl ?_
              refine jk_cv (pc := 55) hX 1 4 0 rfl 5 [.inr 2, .inl v1, .inl v2, .inl v3] [] rfl rfl rfl (Nat.le_of_ble_eq_true rfl) (jx_mono (fun r M21 hr => ?_) h19)
              obtain ⟨rfl, h22⟩ := hr
              show X 56 [.inr 1, .inl v1, .inl v2, .inl v3, .inr 5, .inl r12] [] M21
              obtain ⟨g23, h24⟩ := h22
              refine jk_aload (pc := 56) hX 0 rfl rfl ?_
              refine jk_getR (pc := 57) hX 6 0 rfl rfl (r := 1) rfl ?_
              refine jk_const (pc := 58) hX 0 rfl (by decide) ?_
              refine jk_put (pc := 59) hX 5 1 rfl rfl rfl ?_
              refine jk_aload (pc := 60) hX 4 rfl rfl ?_
              refine jk_getI (pc := 61) hX 0 6 rfl rfl rfl (jx_vX (jx_upc (by decide)) ?_)
              refine jk_const (pc := 62) hX 1 rfl (by decide) ?_
              refine jk_sub (pc := 63) hX rfl g23 ?_
              exact jk_iret (pc := 64) hX rfl h24
            · have h16 := h14.2 q28
              obtain ⟨g25, h26⟩ := h16
              refine jk_const (pc := 43) hX (-10) rfl (by decide) ?_
              refine jk_load (pc := 44) hX 5 rfl rfl ?_
              refine jk_sub (pc := 45) hX rfl g25 ?_
              exact jk_iret (pc := 46) hX rfl h26
          · have h11 := h8.2 q30
            refine jk_const (pc := 34) hX (-3) rfl (by decide) ?_
            exact jk_iret (pc := 35) hX rfl h11
        · have h9 := h33.2 q32
          refine jk_const (pc := 28) hX (-2) rfl (by decide) ?_
          exact jk_iret (pc := 29) hX rfl h9
      · have h6 := h4.2 q35
        refine jk_const (pc := 15) hX (-1) rfl (by decide) ?_
        exact jk_iret (pc := 16) hX rfl h6
set_option maxHeartbeats 4000000 in
theorem bk_C_removeEntry_0 {d : Nat} {K : jxK} {X : jxX} (hX : jx_clo jx_G1 (d + 5) (jx_call jx_G1 jx_T (d + 5)) kc_C_removeEntry K X) (v1 : Int) (M : jxM)
    (h : (((0 : Int) ≤ (M 5 6) ∧ (M 5 6) ≤ 20)) ∧ ((¬ (v1 < 0 ∨ (M 5 6) ≤ v1) → jx_call jx_G1 jx_T (d + 5) 72 [.inr 1] M (fun r M5 => r = none ∧ jx_call jx_G1 jx_T (d + 5) 2 [.inr 5, .inl v1] M5 (fun r M8 => r = none ∧ K (some (.inl (M8 5 6))) M8))) ∧ (v1 < 0 ∨ (M 5 6) ≤ v1 → K (some (.inl (-1))) M))) :
    X 0 [.inr 1, .inl v1] [] M := by
  obtain ⟨g1, h12⟩ := h
  refine jk_aload (pc := 0) hX 0 rfl rfl ?_
  refine jk_load (pc := 1) hX 1 rfl rfl ?_
  refine jk_cv (pc := 2) hX 75 1 6 rfl 1 [.inl v1] [] rfl rfl rfl (Nat.le_of_ble_eq_true rfl) (sp_C_isNoEntry (d + 3) v1 M g1 ?_)
  show X 3 [.inr 1, .inl v1] [.inl (jx_b (v1 < 0 ∨ (M 5 6) ≤ v1))] M
  refine jk_zeqB (pc := 3) hX 6 rfl (fun q10 => ?_) (fun q11 => ?_)
  · have h2 := h12.1 q10
    refine jk_aload (pc := 6) hX 0 rfl rfl ?_
    refine jk_cv (pc := 7) hX 72 0 6 rfl 1 [] [] rfl rfl rfl (Nat.le_of_ble_eq_true rfl) (jx_mono (fun r M5 hr => ?_) h2)
    obtain ⟨rfl, h6⟩ := hr
    show X 8 [.inr 1, .inl v1] [] M5
    refine jk_aload (pc := 8) hX 0 rfl rfl ?_
    refine jk_getR (pc := 9) hX 6 1 rfl rfl (r := 3) rfl ?_
    refine jk_getR (pc := 10) hX 3 0 rfl rfl (r := 4) rfl ?_
    refine jk_load (pc := 11) hX 1 rfl rfl ?_
    refine jk_cv (pc := 12) hX 2 1 0 rfl 5 [.inl v1] [] rfl rfl rfl (Nat.le_of_ble_eq_true rfl) (jx_mono (fun r M8 hr => ?_) h6)
    obtain ⟨rfl, h9⟩ := hr
    show X 13 [.inr 1, .inl v1] [] M8
    refine jk_aload (pc := 13) hX 0 rfl rfl ?_
    refine jk_getR (pc := 14) hX 6 1 rfl rfl (r := 3) rfl ?_
    refine jk_getR (pc := 15) hX 3 0 rfl rfl (r := 4) rfl ?_
    refine jk_getI (pc := 16) hX 0 6 rfl rfl rfl ?_
    exact jk_iret (pc := 17) hX rfl h9
  · have h3 := h12.2 q11
    refine jk_const (pc := 4) hX (-1) rfl (by decide) ?_
    exact jk_iret (pc := 5) hX rfl h3
set_option maxHeartbeats 4000000 in
theorem bk_C_setConnection_0 {d : Nat} {K : jxK} {X : jxX} (hX : jx_clo jx_G1 (d + 5) (jx_call jx_G1 jx_T (d + 5)) kc_C_setConnection K X) (v1 : Int) (v2 : Int) (v3 : Int) (M : jxM)
    (h : ((v1 < (0 : Int) ∨ (6 : Int) < v1 → K (some (.inl (-1))) M) ∧ (¬ (v1 < (0 : Int) ∨ (6 : Int) < v1) → ((v2 < (0 : Int) ∨ (6 : Int) < v2 → K (some (.inl (-1))) M) ∧ (¬ (v2 < (0 : Int) ∨ (6 : Int) < v2) → ((¬ (v3 < (0 : Int) ∨ (99 : Int) < v3) → jx_call jx_G1 jx_T (d + 5) 72 [.inr 1] M (fun r M8 => r = none ∧ (((0 : Int) ≤ v1 ∧ v1 ≤ 6 ∧ (0 : Int) ≤ v2 ∧ v2 ≤ 6) ∧ ((-2147483648 : Int) ≤ v1 * 7 ∧ v1 * 7 ≤ 2147483647) ∧ ((-2147483648 : Int) ≤ (v1 * 7) + v2 ∧ (v1 * 7) + v2 ≤ 2147483647) ∧ (0 ≤ ((v1 * 7) + v2) ∧ ((v1 * 7) + v2) < 49)) ∧ K (some (.inl ((M8 12 (v1 * 7 + v2))))) (jx_up M8 12 ((v1 * 7) + v2) v3))) ∧ (v3 < (0 : Int) ∨ (99 : Int) < v3 → K (some (.inl (-1))) M))))))) :
    X 0 [.inr 1, .inl v1, .inl v2, .inl v3, .inr 0] [] M := by
  refine jk_load (pc := 0) hX 1 rfl rfl ?_
  refine jk_const (pc := 1) hX 0 rfl (by decide) ?_
  refine jk_const (pc := 2) hX 6 rfl (by decide) ?_
  refine jk_cs (pc := 3) hX 79 3 rfl [.inl v1, .inl 0, .inl 6] [] rfl rfl (Nat.le_of_ble_eq_true rfl) (sp_C_isOutside (d + 4) v1 (0 : Int) (6 : Int) M  ?_)
  show X 4 [.inr 1, .inl v1, .inl v2, .inl v3, .inr 0] [.inl (jx_b (v1 < (0 : Int) ∨ (6 : Int) < v1))] M
  refine jk_zneB (pc := 4) hX 15 rfl (fun q19 => ?_) (fun q20 => ?_)
  · have h1 := h.1 q19
    refine jk_const (pc := 15) hX (-1) rfl (by decide) ?_
    exact jk_iret (pc := 16) hX rfl h1
  · have h2 := h.2 q20
    refine jk_load (pc := 5) hX 2 rfl rfl ?_
    refine jk_const (pc := 6) hX 0 rfl (by decide) ?_
    refine jk_const (pc := 7) hX 6 rfl (by decide) ?_
    refine jk_cs (pc := 8) hX 79 3 rfl [.inl v2, .inl 0, .inl 6] [] rfl rfl (Nat.le_of_ble_eq_true rfl) (sp_C_isOutside (d + 4) v2 (0 : Int) (6 : Int) M  ?_)
    show X 9 [.inr 1, .inl v1, .inl v2, .inl v3, .inr 0] [.inl (jx_b (v2 < (0 : Int) ∨ (6 : Int) < v2))] M
    refine jk_zneB (pc := 9) hX 15 rfl (fun q17 => ?_) (fun q18 => ?_)
    · have h3 := h2.1 q17
      refine jk_const (pc := 15) hX (-1) rfl (by decide) ?_
      exact jk_iret (pc := 16) hX rfl h3
    · have h4 := h2.2 q18
      refine jk_load (pc := 10) hX 3 rfl rfl ?_
      refine jk_const (pc := 11) hX 0 rfl (by decide) ?_
      refine jk_const (pc := 12) hX 99 rfl (by decide) ?_
      refine jk_cs (pc := 13) hX 79 3 rfl [.inl v3, .inl 0, .inl 99] [] rfl rfl (Nat.le_of_ble_eq_true rfl) (sp_C_isOutside (d + 4) v3 (0 : Int) (99 : Int) M  ?_)
      show X 14 [.inr 1, .inl v1, .inl v2, .inl v3, .inr 0] [.inl (jx_b (v3 < (0 : Int) ∨ (99 : Int) < v3))] M
      refine jk_zeqB (pc := 14) hX 17 rfl (fun q15 => ?_) (fun q16 => ?_)
      · have h5 := h4.1 q15
        refine jk_aload (pc := 17) hX 0 rfl rfl ?_
        refine jk_cv (pc := 18) hX 72 0 6 rfl 1 [] [] rfl rfl rfl (Nat.le_of_ble_eq_true rfl) (jx_mono (fun r M8 hr => ?_) h5)
        obtain ⟨rfl, h9⟩ := hr
        show X 19 [.inr 1, .inl v1, .inl v2, .inl v3, .inr 0] [] M8
        obtain ⟨⟨g10, g11, g12, g13⟩, h14⟩ := h9
        refine jk_aload (pc := 19) hX 0 rfl rfl ?_
        refine jk_getR (pc := 20) hX 6 1 rfl rfl (r := 3) rfl ?_
        refine jk_load (pc := 21) hX 1 rfl rfl ?_
        refine jk_load (pc := 22) hX 2 rfl rfl ?_
        refine jk_cv (pc := 23) hX 18 2 3 rfl 4 [.inl v1, .inl v2] [] rfl rfl rfl (Nat.le_of_ble_eq_true rfl) (sp_M_connection (d + 4) v1 v2 M8 g10 ?_)
        show X 24 [.inr 1, .inl v1, .inl v2, .inl v3, .inr 0] [.inl ((M8 12 (v1 * 7 + v2)))] M8
        refine jk_store (pc := 24) hX 4 rfl (Nat.le_of_ble_eq_true rfl) (ls' := [.inr 1, .inl v1, .inl v2, .inl v3, .inl ((M8 12 (v1 * 7 + v2)))]) rfl ?_
        refine jk_aload (pc := 25) hX 0 rfl rfl ?_
        refine jk_getR (pc := 26) hX 6 1 rfl rfl (r := 3) rfl ?_
        refine jk_getR (pc := 27) hX 3 1 rfl rfl (r := 11) rfl ?_
        refine jk_load (pc := 28) hX 1 rfl rfl ?_
        refine jk_const (pc := 29) hX 7 rfl (by decide) ?_
        refine jk_mul (pc := 30) hX rfl g11 ?_
        refine jk_load (pc := 31) hX 2 rfl rfl ?_
        refine jk_add (pc := 32) hX rfl g12 ?_
        refine jk_load (pc := 33) hX 3 rfl rfl ?_
        refine jk_iast (pc := 34) hX 49 rfl rfl g13 ?_
        refine jk_load (pc := 35) hX 4 rfl rfl ?_
        exact jk_iret (pc := 36) hX rfl h14
      · have h6 := h4.2 q16
        refine jk_const (pc := 15) hX (-1) rfl (by decide) ?_
        exact jk_iret (pc := 16) hX rfl h6
set_option maxHeartbeats 4000000 in
theorem bk_C_setUnknownCost_0 {d : Nat} {K : jxK} {X : jxX} (hX : jx_clo jx_G1 (d + 5) (jx_call jx_G1 jx_T (d + 5)) kc_C_setUnknownCost K X) (v1 : Int) (M : jxM)
    (h : ((¬ (v1 < (0 : Int) ∨ (200 : Int) < v1) → jx_call jx_G1 jx_T (d + 5) 72 [.inr 1] M (fun r M4 => r = none ∧ K (some (.inl (M4 4 4))) (jx_up M4 4 4 v1))) ∧ (v1 < (0 : Int) ∨ (200 : Int) < v1 → K (some (.inl (-1))) M))) :
    X 0 [.inr 1, .inl v1, .inr 0] [] M := by
  refine jk_load (pc := 0) hX 1 rfl rfl ?_
  refine jk_const (pc := 1) hX 0 rfl (by decide) ?_
  refine jk_const (pc := 2) hX 200 rfl (by decide) ?_
  refine jk_cs (pc := 3) hX 79 3 rfl [.inl v1, .inl 0, .inl 200] [] rfl rfl (Nat.le_of_ble_eq_true rfl) (sp_C_isOutside (d + 4) v1 (0 : Int) (200 : Int) M  ?_)
  show X 4 [.inr 1, .inl v1, .inr 0] [.inl (jx_b (v1 < (0 : Int) ∨ (200 : Int) < v1))] M
  refine jk_zeqB (pc := 4) hX 7 rfl (fun q6 => ?_) (fun q7 => ?_)
  · have h1 := h.1 q6
    refine jk_aload (pc := 7) hX 0 rfl rfl ?_
    refine jk_cv (pc := 8) hX 72 0 6 rfl 1 [] [] rfl rfl rfl (Nat.le_of_ble_eq_true rfl) (jx_mono (fun r M4 hr => ?_) h1)
    obtain ⟨rfl, h5⟩ := hr
    show X 9 [.inr 1, .inl v1, .inr 0] [] M4
    refine jk_aload (pc := 9) hX 0 rfl rfl ?_
    refine jk_getR (pc := 10) hX 6 1 rfl rfl (r := 3) rfl ?_
    refine jk_getI (pc := 11) hX 3 4 rfl rfl rfl ?_
    refine jk_store (pc := 12) hX 2 rfl (Nat.le_of_ble_eq_true rfl) (ls' := [.inr 1, .inl v1, .inl (M4 4 4)]) rfl ?_
    refine jk_aload (pc := 13) hX 0 rfl rfl ?_
    refine jk_getR (pc := 14) hX 6 1 rfl rfl (r := 3) rfl ?_
    refine jk_load (pc := 15) hX 1 rfl rfl ?_
    refine jk_put (pc := 16) hX 3 4 rfl rfl rfl ?_
    refine jk_load (pc := 17) hX 2 rfl rfl ?_
    exact jk_iret (pc := 18) hX rfl h5
  · have h2 := h.2 q7
    refine jk_const (pc := 5) hX (-1) rfl (by decide) ?_
    exact jk_iret (pc := 6) hX rfl h2
set_option maxHeartbeats 4000000 in
theorem bk_C_setInput_0 {d : Nat} {K : jxK} {X : jxX} (hX : jx_clo jx_G1 (d + 5) (jx_call jx_G1 jx_T (d + 5)) kc_C_setInput K X) (M : jxM)
    (h : (((0 : Int) ≤ (M 2 1) ∧ (M 2 1) ≤ 20)) ∧ (((t_err (M 3) (16 : Int) (-1) 0 ((M 2 1)).toNat) = (-1) → jx_call jx_G1 jx_T (d + 5) 72 [.inr 1] M (fun r M5 => r = none ∧ jx_call jx_G1 jx_T (d + 5) 17 [.inr 4, .inr 2] M5 (fun r M8 => r = none ∧ K (some (.inl (M8 4 5))) (jx_up M8 2 1 0)))) ∧ ((t_err (M 3) (16 : Int) (-1) 0 ((M 2 1)).toNat) ≠ (-1) → (((-2147483648 : Int) ≤ (-10) - (t_err (M 3) (16 : Int) (-1) 0 ((M 2 1)).toNat) ∧ (-10) - (t_err (M 3) (16 : Int) (-1) 0 ((M 2 1)).toNat) ≤ 2147483647)) ∧ K (some (.inl ((-10) - (t_err (M 3) (16 : Int) (-1) 0 ((M 2 1)).toNat)))) M))) :
    X 0 [.inr 1, .inr 0] [] M := by
  obtain ⟨g1, h14⟩ := h
  refine jk_aload (pc := 0) hX 0 rfl rfl ?_
  refine jk_getR (pc := 1) hX 6 0 rfl rfl (r := 1) rfl ?_
  refine jk_const (pc := 2) hX 16 rfl (by decide) ?_
  refine jk_cv (pc := 3) hX 45 1 5 rfl 2 [.inl 16] [] rfl rfl rfl (Nat.le_of_ble_eq_true rfl) (sp_T_firstError (d + 3) (16 : Int) M g1 ?_)
  show X 4 [.inr 1, .inr 0] [.inl (t_err (M 3) (16 : Int) (-1) 0 ((M 2 1)).toNat)] M
  refine jk_store (pc := 4) hX 1 rfl (Nat.le_of_ble_eq_true rfl) (ls' := [.inr 1, .inl (t_err (M 3) (16 : Int) (-1) 0 ((M 2 1)).toNat)]) rfl ?_
  refine jk_load (pc := 5) hX 1 rfl rfl ?_
  refine jk_const (pc := 6) hX (-1) rfl (by decide) ?_
  refine jk_ceq (pc := 7) hX 12 rfl (fun q12 => ?_) (fun q13 => ?_)
  · have h2 := h14.1 q12
    refine jk_aload (pc := 12) hX 0 rfl rfl ?_
    refine jk_cv (pc := 13) hX 72 0 6 rfl 1 [] [] rfl rfl rfl (Nat.le_of_ble_eq_true rfl) (jx_mono (fun r M5 hr => ?_) h2)
    obtain ⟨rfl, h6⟩ := hr
    show X 14 [.inr 1, .inl (t_err (M 3) (16 : Int) (-1) 0 ((M 2 1)).toNat)] [] M5
    refine jk_aload (pc := 14) hX 0 rfl rfl ?_
    refine jk_getR (pc := 15) hX 6 1 rfl rfl (r := 3) rfl ?_
    refine jk_aload (pc := 16) hX 0 rfl rfl ?_
    refine jk_getR (pc := 17) hX 6 0 rfl rfl (r := 1) rfl ?_
    refine jk_cv (pc := 18) hX 17 1 3 rfl 4 [.inr 2] [] rfl rfl rfl (Nat.le_of_ble_eq_true rfl) (jx_mono (fun r M8 hr => ?_) h6)
    obtain ⟨rfl, h9⟩ := hr
    show X 19 [.inr 1, .inl (t_err (M 3) (16 : Int) (-1) 0 ((M 2 1)).toNat)] [] M8
    refine jk_aload (pc := 19) hX 0 rfl rfl ?_
    refine jk_getR (pc := 20) hX 6 0 rfl rfl (r := 1) rfl ?_
    refine jk_const (pc := 21) hX 0 rfl (by decide) ?_
    refine jk_put (pc := 22) hX 5 1 rfl rfl rfl ?_
    refine jk_aload (pc := 23) hX 0 rfl rfl ?_
    refine jk_getR (pc := 24) hX 6 1 rfl rfl (r := 3) rfl ?_
    refine jk_getI (pc := 25) hX 3 5 rfl rfl rfl (jx_vX (jx_upc (by decide)) ?_)
    exact jk_iret (pc := 26) hX rfl h9
  · have h3 := h14.2 q13
    obtain ⟨g10, h11⟩ := h3
    refine jk_const (pc := 8) hX (-10) rfl (by decide) ?_
    refine jk_load (pc := 9) hX 1 rfl rfl ?_
    refine jk_sub (pc := 10) hX rfl g10 ?_
    exact jk_iret (pc := 11) hX rfl h11
set_option maxHeartbeats 4000000 in
theorem bk_C_setConstraint_0 {d : Nat} {K : jxK} {X : jxX} (hX : jx_clo jx_G1 (d + 5) (jx_call jx_G1 jx_T (d + 5)) kc_C_setConstraint K X) (v1 : Int) (v2 : Int) (M : jxM)
    (h : (((0 : Int) ≤ (M 4 5) ∧ (M 4 5) ≤ 16)) ∧ ((v1 < 1 ∨ (M 4 5) - 1 < v1 → K (some (.inl (-1))) M) ∧ (¬ (v1 < 1 ∨ (M 4 5) - 1 < v1) → ((¬ (v2 < (0 : Int) ∨ (2 : Int) < v2) → jx_call jx_G1 jx_T (d + 5) 72 [.inr 1] M (fun r M7 => r = none ∧ ((0 ≤ v1 ∧ v1 < 17) ∧ (0 ≤ v1 ∧ v1 < 17)) ∧ K (some (.inl (M7 14 v1))) (jx_up M7 14 v1 v2))) ∧ (v2 < (0 : Int) ∨ (2 : Int) < v2 → K (some (.inl (-1))) M))))) :
    X 0 [.inr 1, .inl v1, .inl v2, .inr 0] [] M := by
  obtain ⟨g1, h16⟩ := h
  refine jk_aload (pc := 0) hX 0 rfl rfl ?_
  refine jk_load (pc := 1) hX 1 rfl rfl ?_
  refine jk_cv (pc := 2) hX 77 1 6 rfl 1 [.inl v1] [] rfl rfl rfl (Nat.le_of_ble_eq_true rfl) (sp_C_isNoInnerGap (d + 3) v1 M g1 ?_)
  show X 3 [.inr 1, .inl v1, .inl v2, .inr 0] [.inl (jx_b (v1 < 1 ∨ (M 4 5) - 1 < v1))] M
  refine jk_zneB (pc := 3) hX 9 rfl (fun q14 => ?_) (fun q15 => ?_)
  · have h2 := h16.1 q14
    refine jk_const (pc := 9) hX (-1) rfl (by decide) ?_
    exact jk_iret (pc := 10) hX rfl h2
  · have h3 := h16.2 q15
    refine jk_load (pc := 4) hX 2 rfl rfl ?_
    refine jk_const (pc := 5) hX 0 rfl (by decide) ?_
    refine jk_const (pc := 6) hX 2 rfl (by decide) ?_
    refine jk_cs (pc := 7) hX 79 3 rfl [.inl v2, .inl 0, .inl 2] [] rfl rfl (Nat.le_of_ble_eq_true rfl) (sp_C_isOutside (d + 4) v2 (0 : Int) (2 : Int) M  ?_)
    show X 8 [.inr 1, .inl v1, .inl v2, .inr 0] [.inl (jx_b (v2 < (0 : Int) ∨ (2 : Int) < v2))] M
    refine jk_zeqB (pc := 8) hX 11 rfl (fun q12 => ?_) (fun q13 => ?_)
    · have h4 := h3.1 q12
      refine jk_aload (pc := 11) hX 0 rfl rfl ?_
      refine jk_cv (pc := 12) hX 72 0 6 rfl 1 [] [] rfl rfl rfl (Nat.le_of_ble_eq_true rfl) (jx_mono (fun r M7 hr => ?_) h4)
      obtain ⟨rfl, h8⟩ := hr
      show X 13 [.inr 1, .inl v1, .inl v2, .inr 0] [] M7
      obtain ⟨⟨g9, g10⟩, h11⟩ := h8
      refine jk_aload (pc := 13) hX 0 rfl rfl ?_
      refine jk_getR (pc := 14) hX 6 1 rfl rfl (r := 3) rfl ?_
      refine jk_getR (pc := 15) hX 3 3 rfl rfl (r := 13) rfl ?_
      refine jk_load (pc := 16) hX 1 rfl rfl ?_
      refine jk_iald (pc := 17) hX 17 rfl rfl g9 ?_
      refine jk_store (pc := 18) hX 3 rfl (Nat.le_of_ble_eq_true rfl) (ls' := [.inr 1, .inl v1, .inl v2, .inl (M7 14 v1)]) rfl ?_
      refine jk_aload (pc := 19) hX 0 rfl rfl ?_
      refine jk_getR (pc := 20) hX 6 1 rfl rfl (r := 3) rfl ?_
      refine jk_getR (pc := 21) hX 3 3 rfl rfl (r := 13) rfl ?_
      refine jk_load (pc := 22) hX 1 rfl rfl ?_
      refine jk_load (pc := 23) hX 2 rfl rfl ?_
      refine jk_iast (pc := 24) hX 17 rfl rfl g10 ?_
      refine jk_load (pc := 25) hX 3 rfl rfl ?_
      exact jk_iret (pc := 26) hX rfl h11
    · have h5 := h3.2 q13
      refine jk_const (pc := 9) hX (-1) rfl (by decide) ?_
      exact jk_iret (pc := 10) hX rfl h5
set_option maxHeartbeats 4000000 in
theorem bk_C_forget_0 {d : Nat} {K : jxK} {X : jxX} (hX : jx_clo jx_G1 (d + 5) (jx_call jx_G1 jx_T (d + 5)) kc_C_forget K X) (M : jxM)
    (h : ((((0 : Int) ≤ (M 5 6) ∧ (M 5 6) ≤ 20) ∧ ∀ e, (0 : Int) ≤ e → e < (M 5 6) → (0 : Int) ≤ M 11 e ∧ M 11 e ≤ 9)) ∧ (((j_sum (M 11) ((M 5 6)).toNat) ≠ 0 → jx_call jx_G1 jx_T (d + 5) 72 [.inr 1] M (fun r M5 => r = none ∧ jx_call jx_G1 jx_T (d + 5) 127 [.inr 11, .inl 0] M5 (fun r M8 => r = none ∧ K (some (.inl (j_sum (M 11) ((M 5 6)).toNat))) M8))) ∧ ((j_sum (M 11) ((M 5 6)).toNat) = 0 → K (some (.inl (-2))) M))) :
    X 0 [.inr 1, .inr 0] [] M := by
  obtain ⟨g1, h12⟩ := h
  refine jk_aload (pc := 0) hX 0 rfl rfl ?_
  refine jk_getR (pc := 1) hX 6 1 rfl rfl (r := 3) rfl ?_
  refine jk_getR (pc := 2) hX 3 0 rfl rfl (r := 4) rfl ?_
  refine jk_cv (pc := 3) hX 8 0 0 rfl 5 [] [] rfl rfl rfl (Nat.le_of_ble_eq_true rfl) (sp_D_sumOfUses (d + 4)  M g1 ?_)
  show X 4 [.inr 1, .inr 0] [.inl (j_sum (M 11) ((M 5 6)).toNat)] M
  refine jk_store (pc := 4) hX 1 rfl (Nat.le_of_ble_eq_true rfl) (ls' := [.inr 1, .inl (j_sum (M 11) ((M 5 6)).toNat)]) rfl ?_
  refine jk_load (pc := 5) hX 1 rfl rfl ?_
  refine jk_zne (pc := 6) hX 9 rfl (fun q10 => ?_) (fun q11 => ?_)
  · have h2 := h12.1 q10
    refine jk_aload (pc := 9) hX 0 rfl rfl ?_
    refine jk_cv (pc := 10) hX 72 0 6 rfl 1 [] [] rfl rfl rfl (Nat.le_of_ble_eq_true rfl) (jx_mono (fun r M5 hr => ?_) h2)
    obtain ⟨rfl, h6⟩ := hr
    show X 11 [.inr 1, .inl (j_sum (M 11) ((M 5 6)).toNat)] [] M5
    refine jk_aload (pc := 11) hX 0 rfl rfl ?_
    refine jk_getR (pc := 12) hX 6 1 rfl rfl (r := 3) rfl ?_
    refine jk_getR (pc := 13) hX 3 0 rfl rfl (r := 4) rfl ?_
    refine jk_getR (pc := 14) hX 0 5 rfl rfl (r := 10) rfl ?_
    refine jk_const (pc := 15) hX 0 rfl (by decide) ?_
    refine jk_cs (pc := 16) hX 127 2 rfl [.inr 11, .inl 0] [] rfl rfl (Nat.le_of_ble_eq_true rfl) (jx_mono (fun r M8 hr => ?_) h6)
    obtain ⟨rfl, h9⟩ := hr
    show X 17 [.inr 1, .inl (j_sum (M 11) ((M 5 6)).toNat)] [] M8
    refine jk_load (pc := 17) hX 1 rfl rfl ?_
    exact jk_iret (pc := 18) hX rfl h9
  · have h3 := h12.2 q11
    refine jk_const (pc := 7) hX (-2) rfl (by decide) ?_
    exact jk_iret (pc := 8) hX rfl h3
set_option maxHeartbeats 4000000 in
theorem bk_C_undo_0 {d : Nat} {K : jxK} {X : jxX} (hX : jx_clo jx_G1 (d + 4) (jx_call jx_G1 jx_T (d + 4)) kc_C_undo K X) (M : jxM)
    (h : (((M 15 2) ≠ 0 → jx_call jx_G1 jx_T (d + 4) 10 [.inr 15, .inr 4] M (fun r M4 => r = none ∧ K (some (.inl (M4 15 2))) (jx_up M4 1 5 1))) ∧ ((M 15 2) = 0 → K (some (.inl (-2))) M))) :
    X 0 [.inr 1] [] M := by
  refine jk_aload (pc := 0) hX 0 rfl rfl ?_
  refine jk_getR (pc := 1) hX 6 2 rfl rfl (r := 14) rfl ?_
  refine jk_getI (pc := 2) hX 1 2 rfl rfl rfl ?_
  refine jk_zne (pc := 3) hX 6 rfl (fun q6 => ?_) (fun q7 => ?_)
  · have h1 := h.1 q6
    refine jk_aload (pc := 6) hX 0 rfl rfl ?_
    refine jk_getR (pc := 7) hX 6 2 rfl rfl (r := 14) rfl ?_
    refine jk_aload (pc := 8) hX 0 rfl rfl ?_
    refine jk_getR (pc := 9) hX 6 1 rfl rfl (r := 3) rfl ?_
    refine jk_cv (pc := 10) hX 10 1 1 rfl 15 [.inr 4] [] rfl rfl rfl (Nat.le_of_ble_eq_true rfl) (jx_mono (fun r M4 hr => ?_) h1)
    obtain ⟨rfl, h5⟩ := hr
    show X 11 [.inr 1] [] M4
    refine jk_aload (pc := 11) hX 0 rfl rfl ?_
    refine jk_const (pc := 12) hX 1 rfl (by decide) ?_
    refine jk_putZ (pc := 13) hX 6 5 rfl rfl rfl (Or.inr rfl) ?_
    refine jk_aload (pc := 14) hX 0 rfl rfl ?_
    refine jk_getR (pc := 15) hX 6 2 rfl rfl (r := 14) rfl ?_
    refine jk_getI (pc := 16) hX 1 2 rfl rfl rfl (jx_vX (jx_upc (by decide)) ?_)
    exact jk_iret (pc := 17) hX rfl h5
  · have h2 := h.2 q7
    refine jk_const (pc := 4) hX (-2) rfl (by decide) ?_
    exact jk_iret (pc := 5) hX rfl h2
end
section
theorem jx_cp0 {M : jxM} {a b : Nat} {n x : Int} (h0 : 0 ≤ x) (h1 : x < n) : jx_cp M a 0 b 0 n b x = M a x := by
  unfold jx_cp
  rw [if_pos ⟨rfl, h0, by omega⟩, show 0 + (x - 0) = x by omega]
theorem jx_cpi {M : jxM} {a b : Nat} {sp dp n x : Int} (h0 : dp ≤ x) (h1 : x < dp + n) : jx_cp M a sp b dp n b x = M a (sp + (x - dp)) := by
  unfold jx_cp
  rw [if_pos ⟨rfl, h0, h1⟩]
theorem jx_cpo {M : jxM} {a b : Nat} {sp dp n x : Int} (h0 : x < dp ∨ dp + n ≤ x) : jx_cp M a sp b dp n b x = M b x := by
  unfold jx_cp
  rw [if_neg (fun z => by omega)]
/-- two models' cells hold the same -/
def q_blk (M' : jxM) (b' : Nat) (M : jxM) (b : Nat) : Prop :=
  (∀ x, 0 ≤ x → x < 120 → M' (b' + 2) x = M (b + 2) x) ∧ (∀ x, 0 ≤ x → x < 20 → M' (b' + 3) x = M (b + 3) x) ∧ (∀ x, 0 ≤ x → x < 20 → M' (b' + 4) x = M (b + 4) x) ∧ (∀ x, 0 ≤ x → x < 20 → M' (b' + 5) x = M (b + 5) x) ∧ (∀ x, 0 ≤ x → x < 20 → M' (b' + 6) x = M (b + 6) x) ∧ (∀ x, 0 ≤ x → x < 20 → M' (b' + 7) x = M (b + 7) x) ∧
  (∀ x, 0 ≤ x → x < 49 → M' (b' + 8) x = M (b + 8) x) ∧ (∀ x, 0 ≤ x → x < 16 → M' (b' + 9) x = M (b + 9) x) ∧ (∀ x, 0 ≤ x → x < 17 → M' (b' + 10) x = M (b + 10) x) ∧ M' (b' + 1) 6 = M (b + 1) 6 ∧ M' b' 4 = M b 4 ∧ M' b' 5 = M b 5
/-- a state, as the reference lays it out, is in order -/
def q_ok (A : Int → Int) : Prop :=
  (0 ≤ A 0 ∧ A 0 ≤ 20) ∧ (∀ e, 0 ≤ e → e < A 0 → (1 ≤ A (1 + 11 * e) ∧ A (1 + 11 * e) ≤ 6) ∧ (0 ≤ A (1 + 11 * e + 8) ∧ A (1 + 11 * e + 8) ≤ 4) ∧ (0 ≤ A (1 + 11 * e + 9) ∧ A (1 + 11 * e + 9) ≤ 99) ∧ (0 ≤ A (1 + 11 * e + 10) ∧ A (1 + 11 * e + 10) ≤ 9)) ∧
  (∀ k, 0 ≤ k → k < 49 → 0 ≤ A (221 + k) ∧ A (221 + k) ≤ 99) ∧ (0 ≤ A 270 ∧ A 270 ≤ 200) ∧ (0 ≤ A 271 ∧ A 271 ≤ 16) ∧ (∀ g, 0 ≤ g → g ≤ 16 → (0 ≤ A (288 + g) ∧ A (288 + g) ≤ 2) ∧ (A 271 ≤ g → A (288 + g) = 0))
/-- the class's model at b holds the state A -/
def q_rs (M : jxM) (b : Nat) (A : Int → Int) : Prop :=
  M (b + 1) 6 = A 0 ∧ (∀ e, 0 ≤ e → e < A 0 → M (b + 3) e = A (1 + 11 * e) ∧ (∀ i, 0 ≤ i → i < A (1 + 11 * e) → M (b + 2) (e * 6 + i) = A (1 + 11 * e + 1 + i)) ∧ M (b + 4) e = A (1 + 11 * e + 7) ∧ M (b + 5) e = A (1 + 11 * e + 8) ∧ M (b + 6) e = A (1 + 11 * e + 9) ∧ M (b + 7) e = A (1 + 11 * e + 10)) ∧
  (∀ k, 0 ≤ k → k < 49 → M (b + 8) k = A (221 + k)) ∧ M b 4 = A 270 ∧ M b 5 = A 271 ∧ (∀ i, 0 ≤ i → i < A 271 → M (b + 9) i = A (272 + i)) ∧ (∀ g, 0 ≤ g → g ≤ 16 → M (b + 10) g = A (288 + g))
theorem q_ok_eq {A A' : Int → Int} (h : q_ok A) (he : ∀ k, 0 ≤ k → k < 305 → A' k = A k) : q_ok A' := by
  obtain ⟨h1, h2, h3, h4, h5, h6⟩ := h
  have e0 := he 0 (by omega) (by omega)
  have e271 := he 271 (by omega) (by omega)
  refine ⟨by rw [e0]; exact h1, fun e e1 e2 => ?_, fun k k1 k2 => ?_, ?_, by rw [e271]; exact h5, fun g g1 g2 => ?_⟩
  · rw [e0] at e2
    rw [he (1 + 11 * e) (by omega) (by omega), he (1 + 11 * e + 8) (by omega) (by omega), he (1 + 11 * e + 9) (by omega) (by omega), he (1 + 11 * e + 10) (by omega) (by omega)]
    exact h2 e e1 e2
  · rw [he (221 + k) (by omega) (by omega)]; exact h3 k k1 k2
  · rw [he 270 (by omega) (by omega)]; exact h4
  · rw [he (288 + g) (by omega) (by omega), e271]; exact h6 g g1 g2
theorem q_rs_eq {M : jxM} {b : Nat} {A A' : Int → Int} (ho : q_ok A) (h : q_rs M b A) (he : ∀ k, 0 ≤ k → k < 305 → A' k = A k) : q_rs M b A' := by
  obtain ⟨o1, o2, o3, o4, o5, o6⟩ := ho
  obtain ⟨h1, h2, h3, h4, h5, h6, h7⟩ := h
  have e0 := he 0 (by omega) (by omega)
  have e271 := he 271 (by omega) (by omega)
  refine ⟨by rw [e0]; exact h1, fun e e1 e2 => ?_, fun k k1 k2 => ?_, ?_, by rw [e271]; exact h5, fun i i1 i2 => ?_, fun g g1 g2 => ?_⟩
  · rw [e0] at e2
    obtain ⟨z1, z2, z3, z4, z5, z6⟩ := h2 e e1 e2
    have ol := (o2 e e1 e2).1
    rw [he (1 + 11 * e) (by omega) (by omega), he (1 + 11 * e + 7) (by omega) (by omega), he (1 + 11 * e + 8) (by omega) (by omega), he (1 + 11 * e + 9) (by omega) (by omega), he (1 + 11 * e + 10) (by omega) (by omega)]
    refine ⟨z1, fun i i1 i2 => ?_, z3, z4, z5, z6⟩
    rw [he (1 + 11 * e + 1 + i) (by omega) (by omega)]
    exact z2 i i1 i2
  · rw [he (221 + k) (by omega) (by omega)]; exact h3 k k1 k2
  · rw [he 270 (by omega) (by omega)]; exact h4
  · rw [e271] at i2; rw [he (272 + i) (by omega) (by omega)]; exact h6 i i1 i2
  · rw [he (288 + g) (by omega) (by omega)]; exact h7 g g1 g2
theorem q_rs_blk {M M' : jxM} {b b' : Nat} {A : Int → Int} (ho : q_ok A) (h : q_rs M b A) (hb : q_blk M' b' M b) : q_rs M' b' A := by
  obtain ⟨o1, o2, o3, o4, o5, o6⟩ := ho
  obtain ⟨h1, h2, h3, h4, h5, h6, h7⟩ := h
  obtain ⟨b1, b2, b3, b4, b5, b6, b7, b8, b9, b10, b11, b12⟩ := hb
  refine ⟨by rw [b10]; exact h1, fun e e1 e2 => ?_, fun k k1 k2 => by rw [b7 k k1 k2]; exact h3 k k1 k2, by rw [b11]; exact h4, by rw [b12]; exact h5, fun i i1 i2 => by rw [b8 i i1 (by omega)]; exact h6 i i1 i2, fun g g1 g2 => by rw [b9 g g1 (by omega)]; exact h7 g g1 g2⟩
  obtain ⟨z1, z2, z3, z4, z5, z6⟩ := h2 e e1 e2
  have ol := (o2 e e1 e2).1
  rw [b2 e e1 (by omega), b3 e e1 (by omega), b4 e e1 (by omega), b5 e e1 (by omega), b6 e e1 (by omega)]
  refine ⟨z1, fun i i1 i2 => ?_, z3, z4, z5, z6⟩
  rw [b1 (e * 6 + i) (by omega) (by omega)]
  exact z2 i i1 i2
theorem q_blk_rfl {M M' : jxM} {b : Nat} (h : ∀ c x, b ≤ c → c ≤ b + 10 → M' c x = M c x) : q_blk M' b M b :=
  ⟨fun x _ _ => h _ x (by omega) (by omega), fun x _ _ => h _ x (by omega) (by omega), fun x _ _ => h _ x (by omega) (by omega), fun x _ _ => h _ x (by omega) (by omega), fun x _ _ => h _ x (by omega) (by omega), fun x _ _ => h _ x (by omega) (by omega), fun x _ _ => h _ x (by omega) (by omega), fun x _ _ => h _ x (by omega) (by omega), fun x _ _ => h _ x (by omega) (by omega), h _ _ (by omega) (by omega), h _ _ (by omega) (by omega), h _ _ (by omega) (by omega)⟩
set_option maxHeartbeats 4000000 in
theorem sp_M_copyFrom_k0 (d : Nat) (M : jxM) {K : jxK} (h : ∀ M', (∀ c x, (c < 17 ∨ 27 < c) → M' c x = M c x) → q_blk M' 17 M 4 → K none M') : jx_call jx_G1 jx_T (d + 3) 16 [.inr 17, .inr 4] M K := by
  intro X hX
  refine bk_M_copyFrom_k0_0 (d := d) hX M ?_
  intro X2 hX2
  refine bk_D_copyFrom_k0_0 (d := d) hX2 M ⟨rfl, h _ (fun c x hc => ?_) ⟨?_, ?_, ?_, ?_, ?_, ?_, ?_, ?_, ?_, ?_, ?_, ?_⟩⟩
  · exact (jx_upc (by omega)).trans ((jx_upc (by omega)).trans ((jx_cpc (by omega)).trans ((jx_cpc (by omega)).trans ((jx_cpc (by omega)).trans ((jx_upc (by omega)).trans ((jx_cpc (by omega)).trans ((jx_cpc (by omega)).trans ((jx_cpc (by omega)).trans ((jx_cpc (by omega)).trans ((jx_cpc (by omega)).trans (jx_cpc (by omega))))))))))))
  · exact fun x h0 h1 => (jx_upc (by decide)).trans ((jx_upc (by decide)).trans ((jx_cpc (by decide)).trans ((jx_cpc (by decide)).trans ((jx_cpc (by decide)).trans ((jx_upc (by decide)).trans ((jx_cpc (by decide)).trans ((jx_cpc (by decide)).trans ((jx_cpc (by decide)).trans ((jx_cpc (by decide)).trans ((jx_cpc (by decide)).trans (jx_cp0 h0 h1)))))))))))
  · exact fun x h0 h1 => (jx_upc (by decide)).trans ((jx_upc (by decide)).trans ((jx_cpc (by decide)).trans ((jx_cpc (by decide)).trans ((jx_cpc (by decide)).trans ((jx_upc (by decide)).trans ((jx_cpc (by decide)).trans ((jx_cpc (by decide)).trans ((jx_cpc (by decide)).trans ((jx_cpc (by decide)).trans ((jx_cp0 h0 h1).trans (jx_cpc (by decide))))))))))))
  · exact fun x h0 h1 => (jx_upc (by decide)).trans ((jx_upc (by decide)).trans ((jx_cpc (by decide)).trans ((jx_cpc (by decide)).trans ((jx_cpc (by decide)).trans ((jx_upc (by decide)).trans ((jx_cpc (by decide)).trans ((jx_cpc (by decide)).trans ((jx_cpc (by decide)).trans ((jx_cp0 h0 h1).trans ((jx_cpc (by decide)).trans (jx_cpc (by decide))))))))))))
  · exact fun x h0 h1 => (jx_upc (by decide)).trans ((jx_upc (by decide)).trans ((jx_cpc (by decide)).trans ((jx_cpc (by decide)).trans ((jx_cpc (by decide)).trans ((jx_upc (by decide)).trans ((jx_cpc (by decide)).trans ((jx_cpc (by decide)).trans ((jx_cp0 h0 h1).trans ((jx_cpc (by decide)).trans ((jx_cpc (by decide)).trans (jx_cpc (by decide))))))))))))
  · exact fun x h0 h1 => (jx_upc (by decide)).trans ((jx_upc (by decide)).trans ((jx_cpc (by decide)).trans ((jx_cpc (by decide)).trans ((jx_cpc (by decide)).trans ((jx_upc (by decide)).trans ((jx_cpc (by decide)).trans ((jx_cp0 h0 h1).trans ((jx_cpc (by decide)).trans ((jx_cpc (by decide)).trans ((jx_cpc (by decide)).trans (jx_cpc (by decide))))))))))))
  · exact fun x h0 h1 => (jx_upc (by decide)).trans ((jx_upc (by decide)).trans ((jx_cpc (by decide)).trans ((jx_cpc (by decide)).trans ((jx_cpc (by decide)).trans ((jx_upc (by decide)).trans ((jx_cp0 h0 h1).trans ((jx_cpc (by decide)).trans ((jx_cpc (by decide)).trans ((jx_cpc (by decide)).trans ((jx_cpc (by decide)).trans (jx_cpc (by decide))))))))))))
  · exact fun x h0 h1 => (jx_upc (by decide)).trans ((jx_upc (by decide)).trans ((jx_cpc (by decide)).trans ((jx_cpc (by decide)).trans ((jx_cp0 h0 h1).trans ((jx_upc (by decide)).trans ((jx_cpc (by decide)).trans ((jx_cpc (by decide)).trans ((jx_cpc (by decide)).trans ((jx_cpc (by decide)).trans ((jx_cpc (by decide)).trans (jx_cpc (by decide))))))))))))
  · exact fun x h0 h1 => (jx_upc (by decide)).trans ((jx_upc (by decide)).trans ((jx_cpc (by decide)).trans ((jx_cp0 h0 h1).trans ((jx_cpc (by decide)).trans ((jx_upc (by decide)).trans ((jx_cpc (by decide)).trans ((jx_cpc (by decide)).trans ((jx_cpc (by decide)).trans ((jx_cpc (by decide)).trans ((jx_cpc (by decide)).trans (jx_cpc (by decide))))))))))))
  · exact fun x h0 h1 => (jx_upc (by decide)).trans ((jx_upc (by decide)).trans ((jx_cp0 h0 h1).trans ((jx_cpc (by decide)).trans ((jx_cpc (by decide)).trans ((jx_upc (by decide)).trans ((jx_cpc (by decide)).trans ((jx_cpc (by decide)).trans ((jx_cpc (by decide)).trans ((jx_cpc (by decide)).trans ((jx_cpc (by decide)).trans (jx_cpc (by decide))))))))))))
  · exact (jx_upc (by decide)).trans ((jx_upc (by decide)).trans ((jx_cpc (by decide)).trans ((jx_cpc (by decide)).trans ((jx_cpc (by decide)).trans (jx_ups)))))
  · exact (jx_upx (by decide)).trans ((jx_ups).trans ((jx_upc (by decide)).trans ((jx_cpc (by decide)).trans ((jx_cpc (by decide)).trans ((jx_cpc (by decide)).trans ((jx_cpc (by decide)).trans ((jx_cpc (by decide)).trans (jx_cpc (by decide)))))))))
  · exact (jx_ups).trans ((jx_upc (by decide)).trans ((jx_cpc (by decide)).trans ((jx_cpc (by decide)).trans ((jx_cpc (by decide)).trans ((jx_cpc (by decide)).trans ((jx_cpc (by decide)).trans (jx_cpc (by decide))))))))
set_option maxHeartbeats 4000000 in
theorem sp_M_copyFrom_b0 (d : Nat) (M : jxM) {K : jxK} (h : ∀ M', (∀ c x, (c < 4 ∨ 14 < c) → M' c x = M c x) → q_blk M' 4 M 17 → K none M') : jx_call jx_G1 jx_T (d + 3) 16 [.inr 4, .inr 17] M K := by
  intro X hX
  refine bk_M_copyFrom_b0_0 (d := d) hX M ?_
  intro X2 hX2
  refine bk_D_copyFrom_b0_0 (d := d) hX2 M ⟨rfl, h _ (fun c x hc => ?_) ⟨?_, ?_, ?_, ?_, ?_, ?_, ?_, ?_, ?_, ?_, ?_, ?_⟩⟩
  · exact (jx_upc (by omega)).trans ((jx_upc (by omega)).trans ((jx_cpc (by omega)).trans ((jx_cpc (by omega)).trans ((jx_cpc (by omega)).trans ((jx_upc (by omega)).trans ((jx_cpc (by omega)).trans ((jx_cpc (by omega)).trans ((jx_cpc (by omega)).trans ((jx_cpc (by omega)).trans ((jx_cpc (by omega)).trans (jx_cpc (by omega))))))))))))
  · exact fun x h0 h1 => (jx_upc (by decide)).trans ((jx_upc (by decide)).trans ((jx_cpc (by decide)).trans ((jx_cpc (by decide)).trans ((jx_cpc (by decide)).trans ((jx_upc (by decide)).trans ((jx_cpc (by decide)).trans ((jx_cpc (by decide)).trans ((jx_cpc (by decide)).trans ((jx_cpc (by decide)).trans ((jx_cpc (by decide)).trans (jx_cp0 h0 h1)))))))))))
  · exact fun x h0 h1 => (jx_upc (by decide)).trans ((jx_upc (by decide)).trans ((jx_cpc (by decide)).trans ((jx_cpc (by decide)).trans ((jx_cpc (by decide)).trans ((jx_upc (by decide)).trans ((jx_cpc (by decide)).trans ((jx_cpc (by decide)).trans ((jx_cpc (by decide)).trans ((jx_cpc (by decide)).trans ((jx_cp0 h0 h1).trans (jx_cpc (by decide))))))))))))
  · exact fun x h0 h1 => (jx_upc (by decide)).trans ((jx_upc (by decide)).trans ((jx_cpc (by decide)).trans ((jx_cpc (by decide)).trans ((jx_cpc (by decide)).trans ((jx_upc (by decide)).trans ((jx_cpc (by decide)).trans ((jx_cpc (by decide)).trans ((jx_cpc (by decide)).trans ((jx_cp0 h0 h1).trans ((jx_cpc (by decide)).trans (jx_cpc (by decide))))))))))))
  · exact fun x h0 h1 => (jx_upc (by decide)).trans ((jx_upc (by decide)).trans ((jx_cpc (by decide)).trans ((jx_cpc (by decide)).trans ((jx_cpc (by decide)).trans ((jx_upc (by decide)).trans ((jx_cpc (by decide)).trans ((jx_cpc (by decide)).trans ((jx_cp0 h0 h1).trans ((jx_cpc (by decide)).trans ((jx_cpc (by decide)).trans (jx_cpc (by decide))))))))))))
  · exact fun x h0 h1 => (jx_upc (by decide)).trans ((jx_upc (by decide)).trans ((jx_cpc (by decide)).trans ((jx_cpc (by decide)).trans ((jx_cpc (by decide)).trans ((jx_upc (by decide)).trans ((jx_cpc (by decide)).trans ((jx_cp0 h0 h1).trans ((jx_cpc (by decide)).trans ((jx_cpc (by decide)).trans ((jx_cpc (by decide)).trans (jx_cpc (by decide))))))))))))
  · exact fun x h0 h1 => (jx_upc (by decide)).trans ((jx_upc (by decide)).trans ((jx_cpc (by decide)).trans ((jx_cpc (by decide)).trans ((jx_cpc (by decide)).trans ((jx_upc (by decide)).trans ((jx_cp0 h0 h1).trans ((jx_cpc (by decide)).trans ((jx_cpc (by decide)).trans ((jx_cpc (by decide)).trans ((jx_cpc (by decide)).trans (jx_cpc (by decide))))))))))))
  · exact fun x h0 h1 => (jx_upc (by decide)).trans ((jx_upc (by decide)).trans ((jx_cpc (by decide)).trans ((jx_cpc (by decide)).trans ((jx_cp0 h0 h1).trans ((jx_upc (by decide)).trans ((jx_cpc (by decide)).trans ((jx_cpc (by decide)).trans ((jx_cpc (by decide)).trans ((jx_cpc (by decide)).trans ((jx_cpc (by decide)).trans (jx_cpc (by decide))))))))))))
  · exact fun x h0 h1 => (jx_upc (by decide)).trans ((jx_upc (by decide)).trans ((jx_cpc (by decide)).trans ((jx_cp0 h0 h1).trans ((jx_cpc (by decide)).trans ((jx_upc (by decide)).trans ((jx_cpc (by decide)).trans ((jx_cpc (by decide)).trans ((jx_cpc (by decide)).trans ((jx_cpc (by decide)).trans ((jx_cpc (by decide)).trans (jx_cpc (by decide))))))))))))
  · exact fun x h0 h1 => (jx_upc (by decide)).trans ((jx_upc (by decide)).trans ((jx_cp0 h0 h1).trans ((jx_cpc (by decide)).trans ((jx_cpc (by decide)).trans ((jx_upc (by decide)).trans ((jx_cpc (by decide)).trans ((jx_cpc (by decide)).trans ((jx_cpc (by decide)).trans ((jx_cpc (by decide)).trans ((jx_cpc (by decide)).trans (jx_cpc (by decide))))))))))))
  · exact (jx_upc (by decide)).trans ((jx_upc (by decide)).trans ((jx_cpc (by decide)).trans ((jx_cpc (by decide)).trans ((jx_cpc (by decide)).trans (jx_ups)))))
  · exact (jx_upx (by decide)).trans ((jx_ups).trans ((jx_upc (by decide)).trans ((jx_cpc (by decide)).trans ((jx_cpc (by decide)).trans ((jx_cpc (by decide)).trans ((jx_cpc (by decide)).trans ((jx_cpc (by decide)).trans (jx_cpc (by decide)))))))))
  · exact (jx_ups).trans ((jx_upc (by decide)).trans ((jx_cpc (by decide)).trans ((jx_cpc (by decide)).trans ((jx_cpc (by decide)).trans ((jx_cpc (by decide)).trans ((jx_cpc (by decide)).trans (jx_cpc (by decide))))))))
set_option maxHeartbeats 4000000 in
theorem sp_M_copyFrom_k1 (d : Nat) (M : jxM) {K : jxK} (h : ∀ M', (∀ c x, (c < 28 ∨ 38 < c) → M' c x = M c x) → q_blk M' 28 M 4 → K none M') : jx_call jx_G1 jx_T (d + 3) 16 [.inr 28, .inr 4] M K := by
  intro X hX
  refine bk_M_copyFrom_k1_0 (d := d) hX M ?_
  intro X2 hX2
  refine bk_D_copyFrom_k1_0 (d := d) hX2 M ⟨rfl, h _ (fun c x hc => ?_) ⟨?_, ?_, ?_, ?_, ?_, ?_, ?_, ?_, ?_, ?_, ?_, ?_⟩⟩
  · exact (jx_upc (by omega)).trans ((jx_upc (by omega)).trans ((jx_cpc (by omega)).trans ((jx_cpc (by omega)).trans ((jx_cpc (by omega)).trans ((jx_upc (by omega)).trans ((jx_cpc (by omega)).trans ((jx_cpc (by omega)).trans ((jx_cpc (by omega)).trans ((jx_cpc (by omega)).trans ((jx_cpc (by omega)).trans (jx_cpc (by omega))))))))))))
  · exact fun x h0 h1 => (jx_upc (by decide)).trans ((jx_upc (by decide)).trans ((jx_cpc (by decide)).trans ((jx_cpc (by decide)).trans ((jx_cpc (by decide)).trans ((jx_upc (by decide)).trans ((jx_cpc (by decide)).trans ((jx_cpc (by decide)).trans ((jx_cpc (by decide)).trans ((jx_cpc (by decide)).trans ((jx_cpc (by decide)).trans (jx_cp0 h0 h1)))))))))))
  · exact fun x h0 h1 => (jx_upc (by decide)).trans ((jx_upc (by decide)).trans ((jx_cpc (by decide)).trans ((jx_cpc (by decide)).trans ((jx_cpc (by decide)).trans ((jx_upc (by decide)).trans ((jx_cpc (by decide)).trans ((jx_cpc (by decide)).trans ((jx_cpc (by decide)).trans ((jx_cpc (by decide)).trans ((jx_cp0 h0 h1).trans (jx_cpc (by decide))))))))))))
  · exact fun x h0 h1 => (jx_upc (by decide)).trans ((jx_upc (by decide)).trans ((jx_cpc (by decide)).trans ((jx_cpc (by decide)).trans ((jx_cpc (by decide)).trans ((jx_upc (by decide)).trans ((jx_cpc (by decide)).trans ((jx_cpc (by decide)).trans ((jx_cpc (by decide)).trans ((jx_cp0 h0 h1).trans ((jx_cpc (by decide)).trans (jx_cpc (by decide))))))))))))
  · exact fun x h0 h1 => (jx_upc (by decide)).trans ((jx_upc (by decide)).trans ((jx_cpc (by decide)).trans ((jx_cpc (by decide)).trans ((jx_cpc (by decide)).trans ((jx_upc (by decide)).trans ((jx_cpc (by decide)).trans ((jx_cpc (by decide)).trans ((jx_cp0 h0 h1).trans ((jx_cpc (by decide)).trans ((jx_cpc (by decide)).trans (jx_cpc (by decide))))))))))))
  · exact fun x h0 h1 => (jx_upc (by decide)).trans ((jx_upc (by decide)).trans ((jx_cpc (by decide)).trans ((jx_cpc (by decide)).trans ((jx_cpc (by decide)).trans ((jx_upc (by decide)).trans ((jx_cpc (by decide)).trans ((jx_cp0 h0 h1).trans ((jx_cpc (by decide)).trans ((jx_cpc (by decide)).trans ((jx_cpc (by decide)).trans (jx_cpc (by decide))))))))))))
  · exact fun x h0 h1 => (jx_upc (by decide)).trans ((jx_upc (by decide)).trans ((jx_cpc (by decide)).trans ((jx_cpc (by decide)).trans ((jx_cpc (by decide)).trans ((jx_upc (by decide)).trans ((jx_cp0 h0 h1).trans ((jx_cpc (by decide)).trans ((jx_cpc (by decide)).trans ((jx_cpc (by decide)).trans ((jx_cpc (by decide)).trans (jx_cpc (by decide))))))))))))
  · exact fun x h0 h1 => (jx_upc (by decide)).trans ((jx_upc (by decide)).trans ((jx_cpc (by decide)).trans ((jx_cpc (by decide)).trans ((jx_cp0 h0 h1).trans ((jx_upc (by decide)).trans ((jx_cpc (by decide)).trans ((jx_cpc (by decide)).trans ((jx_cpc (by decide)).trans ((jx_cpc (by decide)).trans ((jx_cpc (by decide)).trans (jx_cpc (by decide))))))))))))
  · exact fun x h0 h1 => (jx_upc (by decide)).trans ((jx_upc (by decide)).trans ((jx_cpc (by decide)).trans ((jx_cp0 h0 h1).trans ((jx_cpc (by decide)).trans ((jx_upc (by decide)).trans ((jx_cpc (by decide)).trans ((jx_cpc (by decide)).trans ((jx_cpc (by decide)).trans ((jx_cpc (by decide)).trans ((jx_cpc (by decide)).trans (jx_cpc (by decide))))))))))))
  · exact fun x h0 h1 => (jx_upc (by decide)).trans ((jx_upc (by decide)).trans ((jx_cp0 h0 h1).trans ((jx_cpc (by decide)).trans ((jx_cpc (by decide)).trans ((jx_upc (by decide)).trans ((jx_cpc (by decide)).trans ((jx_cpc (by decide)).trans ((jx_cpc (by decide)).trans ((jx_cpc (by decide)).trans ((jx_cpc (by decide)).trans (jx_cpc (by decide))))))))))))
  · exact (jx_upc (by decide)).trans ((jx_upc (by decide)).trans ((jx_cpc (by decide)).trans ((jx_cpc (by decide)).trans ((jx_cpc (by decide)).trans (jx_ups)))))
  · exact (jx_upx (by decide)).trans ((jx_ups).trans ((jx_upc (by decide)).trans ((jx_cpc (by decide)).trans ((jx_cpc (by decide)).trans ((jx_cpc (by decide)).trans ((jx_cpc (by decide)).trans ((jx_cpc (by decide)).trans (jx_cpc (by decide)))))))))
  · exact (jx_ups).trans ((jx_upc (by decide)).trans ((jx_cpc (by decide)).trans ((jx_cpc (by decide)).trans ((jx_cpc (by decide)).trans ((jx_cpc (by decide)).trans ((jx_cpc (by decide)).trans (jx_cpc (by decide))))))))
set_option maxHeartbeats 4000000 in
theorem sp_M_copyFrom_b1 (d : Nat) (M : jxM) {K : jxK} (h : ∀ M', (∀ c x, (c < 4 ∨ 14 < c) → M' c x = M c x) → q_blk M' 4 M 28 → K none M') : jx_call jx_G1 jx_T (d + 3) 16 [.inr 4, .inr 28] M K := by
  intro X hX
  refine bk_M_copyFrom_b1_0 (d := d) hX M ?_
  intro X2 hX2
  refine bk_D_copyFrom_b1_0 (d := d) hX2 M ⟨rfl, h _ (fun c x hc => ?_) ⟨?_, ?_, ?_, ?_, ?_, ?_, ?_, ?_, ?_, ?_, ?_, ?_⟩⟩
  · exact (jx_upc (by omega)).trans ((jx_upc (by omega)).trans ((jx_cpc (by omega)).trans ((jx_cpc (by omega)).trans ((jx_cpc (by omega)).trans ((jx_upc (by omega)).trans ((jx_cpc (by omega)).trans ((jx_cpc (by omega)).trans ((jx_cpc (by omega)).trans ((jx_cpc (by omega)).trans ((jx_cpc (by omega)).trans (jx_cpc (by omega))))))))))))
  · exact fun x h0 h1 => (jx_upc (by decide)).trans ((jx_upc (by decide)).trans ((jx_cpc (by decide)).trans ((jx_cpc (by decide)).trans ((jx_cpc (by decide)).trans ((jx_upc (by decide)).trans ((jx_cpc (by decide)).trans ((jx_cpc (by decide)).trans ((jx_cpc (by decide)).trans ((jx_cpc (by decide)).trans ((jx_cpc (by decide)).trans (jx_cp0 h0 h1)))))))))))
  · exact fun x h0 h1 => (jx_upc (by decide)).trans ((jx_upc (by decide)).trans ((jx_cpc (by decide)).trans ((jx_cpc (by decide)).trans ((jx_cpc (by decide)).trans ((jx_upc (by decide)).trans ((jx_cpc (by decide)).trans ((jx_cpc (by decide)).trans ((jx_cpc (by decide)).trans ((jx_cpc (by decide)).trans ((jx_cp0 h0 h1).trans (jx_cpc (by decide))))))))))))
  · exact fun x h0 h1 => (jx_upc (by decide)).trans ((jx_upc (by decide)).trans ((jx_cpc (by decide)).trans ((jx_cpc (by decide)).trans ((jx_cpc (by decide)).trans ((jx_upc (by decide)).trans ((jx_cpc (by decide)).trans ((jx_cpc (by decide)).trans ((jx_cpc (by decide)).trans ((jx_cp0 h0 h1).trans ((jx_cpc (by decide)).trans (jx_cpc (by decide))))))))))))
  · exact fun x h0 h1 => (jx_upc (by decide)).trans ((jx_upc (by decide)).trans ((jx_cpc (by decide)).trans ((jx_cpc (by decide)).trans ((jx_cpc (by decide)).trans ((jx_upc (by decide)).trans ((jx_cpc (by decide)).trans ((jx_cpc (by decide)).trans ((jx_cp0 h0 h1).trans ((jx_cpc (by decide)).trans ((jx_cpc (by decide)).trans (jx_cpc (by decide))))))))))))
  · exact fun x h0 h1 => (jx_upc (by decide)).trans ((jx_upc (by decide)).trans ((jx_cpc (by decide)).trans ((jx_cpc (by decide)).trans ((jx_cpc (by decide)).trans ((jx_upc (by decide)).trans ((jx_cpc (by decide)).trans ((jx_cp0 h0 h1).trans ((jx_cpc (by decide)).trans ((jx_cpc (by decide)).trans ((jx_cpc (by decide)).trans (jx_cpc (by decide))))))))))))
  · exact fun x h0 h1 => (jx_upc (by decide)).trans ((jx_upc (by decide)).trans ((jx_cpc (by decide)).trans ((jx_cpc (by decide)).trans ((jx_cpc (by decide)).trans ((jx_upc (by decide)).trans ((jx_cp0 h0 h1).trans ((jx_cpc (by decide)).trans ((jx_cpc (by decide)).trans ((jx_cpc (by decide)).trans ((jx_cpc (by decide)).trans (jx_cpc (by decide))))))))))))
  · exact fun x h0 h1 => (jx_upc (by decide)).trans ((jx_upc (by decide)).trans ((jx_cpc (by decide)).trans ((jx_cpc (by decide)).trans ((jx_cp0 h0 h1).trans ((jx_upc (by decide)).trans ((jx_cpc (by decide)).trans ((jx_cpc (by decide)).trans ((jx_cpc (by decide)).trans ((jx_cpc (by decide)).trans ((jx_cpc (by decide)).trans (jx_cpc (by decide))))))))))))
  · exact fun x h0 h1 => (jx_upc (by decide)).trans ((jx_upc (by decide)).trans ((jx_cpc (by decide)).trans ((jx_cp0 h0 h1).trans ((jx_cpc (by decide)).trans ((jx_upc (by decide)).trans ((jx_cpc (by decide)).trans ((jx_cpc (by decide)).trans ((jx_cpc (by decide)).trans ((jx_cpc (by decide)).trans ((jx_cpc (by decide)).trans (jx_cpc (by decide))))))))))))
  · exact fun x h0 h1 => (jx_upc (by decide)).trans ((jx_upc (by decide)).trans ((jx_cp0 h0 h1).trans ((jx_cpc (by decide)).trans ((jx_cpc (by decide)).trans ((jx_upc (by decide)).trans ((jx_cpc (by decide)).trans ((jx_cpc (by decide)).trans ((jx_cpc (by decide)).trans ((jx_cpc (by decide)).trans ((jx_cpc (by decide)).trans (jx_cpc (by decide))))))))))))
  · exact (jx_upc (by decide)).trans ((jx_upc (by decide)).trans ((jx_cpc (by decide)).trans ((jx_cpc (by decide)).trans ((jx_cpc (by decide)).trans (jx_ups)))))
  · exact (jx_upx (by decide)).trans ((jx_ups).trans ((jx_upc (by decide)).trans ((jx_cpc (by decide)).trans ((jx_cpc (by decide)).trans ((jx_cpc (by decide)).trans ((jx_cpc (by decide)).trans ((jx_cpc (by decide)).trans (jx_cpc (by decide)))))))))
  · exact (jx_ups).trans ((jx_upc (by decide)).trans ((jx_cpc (by decide)).trans ((jx_cpc (by decide)).trans ((jx_cpc (by decide)).trans ((jx_cpc (by decide)).trans ((jx_cpc (by decide)).trans (jx_cpc (by decide))))))))
set_option maxHeartbeats 4000000 in
theorem sp_M_copyFrom_k2 (d : Nat) (M : jxM) {K : jxK} (h : ∀ M', (∀ c x, (c < 39 ∨ 49 < c) → M' c x = M c x) → q_blk M' 39 M 4 → K none M') : jx_call jx_G1 jx_T (d + 3) 16 [.inr 39, .inr 4] M K := by
  intro X hX
  refine bk_M_copyFrom_k2_0 (d := d) hX M ?_
  intro X2 hX2
  refine bk_D_copyFrom_k2_0 (d := d) hX2 M ⟨rfl, h _ (fun c x hc => ?_) ⟨?_, ?_, ?_, ?_, ?_, ?_, ?_, ?_, ?_, ?_, ?_, ?_⟩⟩
  · exact (jx_upc (by omega)).trans ((jx_upc (by omega)).trans ((jx_cpc (by omega)).trans ((jx_cpc (by omega)).trans ((jx_cpc (by omega)).trans ((jx_upc (by omega)).trans ((jx_cpc (by omega)).trans ((jx_cpc (by omega)).trans ((jx_cpc (by omega)).trans ((jx_cpc (by omega)).trans ((jx_cpc (by omega)).trans (jx_cpc (by omega))))))))))))
  · exact fun x h0 h1 => (jx_upc (by decide)).trans ((jx_upc (by decide)).trans ((jx_cpc (by decide)).trans ((jx_cpc (by decide)).trans ((jx_cpc (by decide)).trans ((jx_upc (by decide)).trans ((jx_cpc (by decide)).trans ((jx_cpc (by decide)).trans ((jx_cpc (by decide)).trans ((jx_cpc (by decide)).trans ((jx_cpc (by decide)).trans (jx_cp0 h0 h1)))))))))))
  · exact fun x h0 h1 => (jx_upc (by decide)).trans ((jx_upc (by decide)).trans ((jx_cpc (by decide)).trans ((jx_cpc (by decide)).trans ((jx_cpc (by decide)).trans ((jx_upc (by decide)).trans ((jx_cpc (by decide)).trans ((jx_cpc (by decide)).trans ((jx_cpc (by decide)).trans ((jx_cpc (by decide)).trans ((jx_cp0 h0 h1).trans (jx_cpc (by decide))))))))))))
  · exact fun x h0 h1 => (jx_upc (by decide)).trans ((jx_upc (by decide)).trans ((jx_cpc (by decide)).trans ((jx_cpc (by decide)).trans ((jx_cpc (by decide)).trans ((jx_upc (by decide)).trans ((jx_cpc (by decide)).trans ((jx_cpc (by decide)).trans ((jx_cpc (by decide)).trans ((jx_cp0 h0 h1).trans ((jx_cpc (by decide)).trans (jx_cpc (by decide))))))))))))
  · exact fun x h0 h1 => (jx_upc (by decide)).trans ((jx_upc (by decide)).trans ((jx_cpc (by decide)).trans ((jx_cpc (by decide)).trans ((jx_cpc (by decide)).trans ((jx_upc (by decide)).trans ((jx_cpc (by decide)).trans ((jx_cpc (by decide)).trans ((jx_cp0 h0 h1).trans ((jx_cpc (by decide)).trans ((jx_cpc (by decide)).trans (jx_cpc (by decide))))))))))))
  · exact fun x h0 h1 => (jx_upc (by decide)).trans ((jx_upc (by decide)).trans ((jx_cpc (by decide)).trans ((jx_cpc (by decide)).trans ((jx_cpc (by decide)).trans ((jx_upc (by decide)).trans ((jx_cpc (by decide)).trans ((jx_cp0 h0 h1).trans ((jx_cpc (by decide)).trans ((jx_cpc (by decide)).trans ((jx_cpc (by decide)).trans (jx_cpc (by decide))))))))))))
  · exact fun x h0 h1 => (jx_upc (by decide)).trans ((jx_upc (by decide)).trans ((jx_cpc (by decide)).trans ((jx_cpc (by decide)).trans ((jx_cpc (by decide)).trans ((jx_upc (by decide)).trans ((jx_cp0 h0 h1).trans ((jx_cpc (by decide)).trans ((jx_cpc (by decide)).trans ((jx_cpc (by decide)).trans ((jx_cpc (by decide)).trans (jx_cpc (by decide))))))))))))
  · exact fun x h0 h1 => (jx_upc (by decide)).trans ((jx_upc (by decide)).trans ((jx_cpc (by decide)).trans ((jx_cpc (by decide)).trans ((jx_cp0 h0 h1).trans ((jx_upc (by decide)).trans ((jx_cpc (by decide)).trans ((jx_cpc (by decide)).trans ((jx_cpc (by decide)).trans ((jx_cpc (by decide)).trans ((jx_cpc (by decide)).trans (jx_cpc (by decide))))))))))))
  · exact fun x h0 h1 => (jx_upc (by decide)).trans ((jx_upc (by decide)).trans ((jx_cpc (by decide)).trans ((jx_cp0 h0 h1).trans ((jx_cpc (by decide)).trans ((jx_upc (by decide)).trans ((jx_cpc (by decide)).trans ((jx_cpc (by decide)).trans ((jx_cpc (by decide)).trans ((jx_cpc (by decide)).trans ((jx_cpc (by decide)).trans (jx_cpc (by decide))))))))))))
  · exact fun x h0 h1 => (jx_upc (by decide)).trans ((jx_upc (by decide)).trans ((jx_cp0 h0 h1).trans ((jx_cpc (by decide)).trans ((jx_cpc (by decide)).trans ((jx_upc (by decide)).trans ((jx_cpc (by decide)).trans ((jx_cpc (by decide)).trans ((jx_cpc (by decide)).trans ((jx_cpc (by decide)).trans ((jx_cpc (by decide)).trans (jx_cpc (by decide))))))))))))
  · exact (jx_upc (by decide)).trans ((jx_upc (by decide)).trans ((jx_cpc (by decide)).trans ((jx_cpc (by decide)).trans ((jx_cpc (by decide)).trans (jx_ups)))))
  · exact (jx_upx (by decide)).trans ((jx_ups).trans ((jx_upc (by decide)).trans ((jx_cpc (by decide)).trans ((jx_cpc (by decide)).trans ((jx_cpc (by decide)).trans ((jx_cpc (by decide)).trans ((jx_cpc (by decide)).trans (jx_cpc (by decide)))))))))
  · exact (jx_ups).trans ((jx_upc (by decide)).trans ((jx_cpc (by decide)).trans ((jx_cpc (by decide)).trans ((jx_cpc (by decide)).trans ((jx_cpc (by decide)).trans ((jx_cpc (by decide)).trans (jx_cpc (by decide))))))))
set_option maxHeartbeats 4000000 in
theorem sp_M_copyFrom_b2 (d : Nat) (M : jxM) {K : jxK} (h : ∀ M', (∀ c x, (c < 4 ∨ 14 < c) → M' c x = M c x) → q_blk M' 4 M 39 → K none M') : jx_call jx_G1 jx_T (d + 3) 16 [.inr 4, .inr 39] M K := by
  intro X hX
  refine bk_M_copyFrom_b2_0 (d := d) hX M ?_
  intro X2 hX2
  refine bk_D_copyFrom_b2_0 (d := d) hX2 M ⟨rfl, h _ (fun c x hc => ?_) ⟨?_, ?_, ?_, ?_, ?_, ?_, ?_, ?_, ?_, ?_, ?_, ?_⟩⟩
  · exact (jx_upc (by omega)).trans ((jx_upc (by omega)).trans ((jx_cpc (by omega)).trans ((jx_cpc (by omega)).trans ((jx_cpc (by omega)).trans ((jx_upc (by omega)).trans ((jx_cpc (by omega)).trans ((jx_cpc (by omega)).trans ((jx_cpc (by omega)).trans ((jx_cpc (by omega)).trans ((jx_cpc (by omega)).trans (jx_cpc (by omega))))))))))))
  · exact fun x h0 h1 => (jx_upc (by decide)).trans ((jx_upc (by decide)).trans ((jx_cpc (by decide)).trans ((jx_cpc (by decide)).trans ((jx_cpc (by decide)).trans ((jx_upc (by decide)).trans ((jx_cpc (by decide)).trans ((jx_cpc (by decide)).trans ((jx_cpc (by decide)).trans ((jx_cpc (by decide)).trans ((jx_cpc (by decide)).trans (jx_cp0 h0 h1)))))))))))
  · exact fun x h0 h1 => (jx_upc (by decide)).trans ((jx_upc (by decide)).trans ((jx_cpc (by decide)).trans ((jx_cpc (by decide)).trans ((jx_cpc (by decide)).trans ((jx_upc (by decide)).trans ((jx_cpc (by decide)).trans ((jx_cpc (by decide)).trans ((jx_cpc (by decide)).trans ((jx_cpc (by decide)).trans ((jx_cp0 h0 h1).trans (jx_cpc (by decide))))))))))))
  · exact fun x h0 h1 => (jx_upc (by decide)).trans ((jx_upc (by decide)).trans ((jx_cpc (by decide)).trans ((jx_cpc (by decide)).trans ((jx_cpc (by decide)).trans ((jx_upc (by decide)).trans ((jx_cpc (by decide)).trans ((jx_cpc (by decide)).trans ((jx_cpc (by decide)).trans ((jx_cp0 h0 h1).trans ((jx_cpc (by decide)).trans (jx_cpc (by decide))))))))))))
  · exact fun x h0 h1 => (jx_upc (by decide)).trans ((jx_upc (by decide)).trans ((jx_cpc (by decide)).trans ((jx_cpc (by decide)).trans ((jx_cpc (by decide)).trans ((jx_upc (by decide)).trans ((jx_cpc (by decide)).trans ((jx_cpc (by decide)).trans ((jx_cp0 h0 h1).trans ((jx_cpc (by decide)).trans ((jx_cpc (by decide)).trans (jx_cpc (by decide))))))))))))
  · exact fun x h0 h1 => (jx_upc (by decide)).trans ((jx_upc (by decide)).trans ((jx_cpc (by decide)).trans ((jx_cpc (by decide)).trans ((jx_cpc (by decide)).trans ((jx_upc (by decide)).trans ((jx_cpc (by decide)).trans ((jx_cp0 h0 h1).trans ((jx_cpc (by decide)).trans ((jx_cpc (by decide)).trans ((jx_cpc (by decide)).trans (jx_cpc (by decide))))))))))))
  · exact fun x h0 h1 => (jx_upc (by decide)).trans ((jx_upc (by decide)).trans ((jx_cpc (by decide)).trans ((jx_cpc (by decide)).trans ((jx_cpc (by decide)).trans ((jx_upc (by decide)).trans ((jx_cp0 h0 h1).trans ((jx_cpc (by decide)).trans ((jx_cpc (by decide)).trans ((jx_cpc (by decide)).trans ((jx_cpc (by decide)).trans (jx_cpc (by decide))))))))))))
  · exact fun x h0 h1 => (jx_upc (by decide)).trans ((jx_upc (by decide)).trans ((jx_cpc (by decide)).trans ((jx_cpc (by decide)).trans ((jx_cp0 h0 h1).trans ((jx_upc (by decide)).trans ((jx_cpc (by decide)).trans ((jx_cpc (by decide)).trans ((jx_cpc (by decide)).trans ((jx_cpc (by decide)).trans ((jx_cpc (by decide)).trans (jx_cpc (by decide))))))))))))
  · exact fun x h0 h1 => (jx_upc (by decide)).trans ((jx_upc (by decide)).trans ((jx_cpc (by decide)).trans ((jx_cp0 h0 h1).trans ((jx_cpc (by decide)).trans ((jx_upc (by decide)).trans ((jx_cpc (by decide)).trans ((jx_cpc (by decide)).trans ((jx_cpc (by decide)).trans ((jx_cpc (by decide)).trans ((jx_cpc (by decide)).trans (jx_cpc (by decide))))))))))))
  · exact fun x h0 h1 => (jx_upc (by decide)).trans ((jx_upc (by decide)).trans ((jx_cp0 h0 h1).trans ((jx_cpc (by decide)).trans ((jx_cpc (by decide)).trans ((jx_upc (by decide)).trans ((jx_cpc (by decide)).trans ((jx_cpc (by decide)).trans ((jx_cpc (by decide)).trans ((jx_cpc (by decide)).trans ((jx_cpc (by decide)).trans (jx_cpc (by decide))))))))))))
  · exact (jx_upc (by decide)).trans ((jx_upc (by decide)).trans ((jx_cpc (by decide)).trans ((jx_cpc (by decide)).trans ((jx_cpc (by decide)).trans (jx_ups)))))
  · exact (jx_upx (by decide)).trans ((jx_ups).trans ((jx_upc (by decide)).trans ((jx_cpc (by decide)).trans ((jx_cpc (by decide)).trans ((jx_cpc (by decide)).trans ((jx_cpc (by decide)).trans ((jx_cpc (by decide)).trans (jx_cpc (by decide)))))))))
  · exact (jx_ups).trans ((jx_upc (by decide)).trans ((jx_cpc (by decide)).trans ((jx_cpc (by decide)).trans ((jx_cpc (by decide)).trans ((jx_cpc (by decide)).trans ((jx_cpc (by decide)).trans (jx_cpc (by decide))))))))
set_option maxHeartbeats 4000000 in
theorem sp_M_copyFrom_k3 (d : Nat) (M : jxM) {K : jxK} (h : ∀ M', (∀ c x, (c < 50 ∨ 60 < c) → M' c x = M c x) → q_blk M' 50 M 4 → K none M') : jx_call jx_G1 jx_T (d + 3) 16 [.inr 50, .inr 4] M K := by
  intro X hX
  refine bk_M_copyFrom_k3_0 (d := d) hX M ?_
  intro X2 hX2
  refine bk_D_copyFrom_k3_0 (d := d) hX2 M ⟨rfl, h _ (fun c x hc => ?_) ⟨?_, ?_, ?_, ?_, ?_, ?_, ?_, ?_, ?_, ?_, ?_, ?_⟩⟩
  · exact (jx_upc (by omega)).trans ((jx_upc (by omega)).trans ((jx_cpc (by omega)).trans ((jx_cpc (by omega)).trans ((jx_cpc (by omega)).trans ((jx_upc (by omega)).trans ((jx_cpc (by omega)).trans ((jx_cpc (by omega)).trans ((jx_cpc (by omega)).trans ((jx_cpc (by omega)).trans ((jx_cpc (by omega)).trans (jx_cpc (by omega))))))))))))
  · exact fun x h0 h1 => (jx_upc (by decide)).trans ((jx_upc (by decide)).trans ((jx_cpc (by decide)).trans ((jx_cpc (by decide)).trans ((jx_cpc (by decide)).trans ((jx_upc (by decide)).trans ((jx_cpc (by decide)).trans ((jx_cpc (by decide)).trans ((jx_cpc (by decide)).trans ((jx_cpc (by decide)).trans ((jx_cpc (by decide)).trans (jx_cp0 h0 h1)))))))))))
  · exact fun x h0 h1 => (jx_upc (by decide)).trans ((jx_upc (by decide)).trans ((jx_cpc (by decide)).trans ((jx_cpc (by decide)).trans ((jx_cpc (by decide)).trans ((jx_upc (by decide)).trans ((jx_cpc (by decide)).trans ((jx_cpc (by decide)).trans ((jx_cpc (by decide)).trans ((jx_cpc (by decide)).trans ((jx_cp0 h0 h1).trans (jx_cpc (by decide))))))))))))
  · exact fun x h0 h1 => (jx_upc (by decide)).trans ((jx_upc (by decide)).trans ((jx_cpc (by decide)).trans ((jx_cpc (by decide)).trans ((jx_cpc (by decide)).trans ((jx_upc (by decide)).trans ((jx_cpc (by decide)).trans ((jx_cpc (by decide)).trans ((jx_cpc (by decide)).trans ((jx_cp0 h0 h1).trans ((jx_cpc (by decide)).trans (jx_cpc (by decide))))))))))))
  · exact fun x h0 h1 => (jx_upc (by decide)).trans ((jx_upc (by decide)).trans ((jx_cpc (by decide)).trans ((jx_cpc (by decide)).trans ((jx_cpc (by decide)).trans ((jx_upc (by decide)).trans ((jx_cpc (by decide)).trans ((jx_cpc (by decide)).trans ((jx_cp0 h0 h1).trans ((jx_cpc (by decide)).trans ((jx_cpc (by decide)).trans (jx_cpc (by decide))))))))))))
  · exact fun x h0 h1 => (jx_upc (by decide)).trans ((jx_upc (by decide)).trans ((jx_cpc (by decide)).trans ((jx_cpc (by decide)).trans ((jx_cpc (by decide)).trans ((jx_upc (by decide)).trans ((jx_cpc (by decide)).trans ((jx_cp0 h0 h1).trans ((jx_cpc (by decide)).trans ((jx_cpc (by decide)).trans ((jx_cpc (by decide)).trans (jx_cpc (by decide))))))))))))
  · exact fun x h0 h1 => (jx_upc (by decide)).trans ((jx_upc (by decide)).trans ((jx_cpc (by decide)).trans ((jx_cpc (by decide)).trans ((jx_cpc (by decide)).trans ((jx_upc (by decide)).trans ((jx_cp0 h0 h1).trans ((jx_cpc (by decide)).trans ((jx_cpc (by decide)).trans ((jx_cpc (by decide)).trans ((jx_cpc (by decide)).trans (jx_cpc (by decide))))))))))))
  · exact fun x h0 h1 => (jx_upc (by decide)).trans ((jx_upc (by decide)).trans ((jx_cpc (by decide)).trans ((jx_cpc (by decide)).trans ((jx_cp0 h0 h1).trans ((jx_upc (by decide)).trans ((jx_cpc (by decide)).trans ((jx_cpc (by decide)).trans ((jx_cpc (by decide)).trans ((jx_cpc (by decide)).trans ((jx_cpc (by decide)).trans (jx_cpc (by decide))))))))))))
  · exact fun x h0 h1 => (jx_upc (by decide)).trans ((jx_upc (by decide)).trans ((jx_cpc (by decide)).trans ((jx_cp0 h0 h1).trans ((jx_cpc (by decide)).trans ((jx_upc (by decide)).trans ((jx_cpc (by decide)).trans ((jx_cpc (by decide)).trans ((jx_cpc (by decide)).trans ((jx_cpc (by decide)).trans ((jx_cpc (by decide)).trans (jx_cpc (by decide))))))))))))
  · exact fun x h0 h1 => (jx_upc (by decide)).trans ((jx_upc (by decide)).trans ((jx_cp0 h0 h1).trans ((jx_cpc (by decide)).trans ((jx_cpc (by decide)).trans ((jx_upc (by decide)).trans ((jx_cpc (by decide)).trans ((jx_cpc (by decide)).trans ((jx_cpc (by decide)).trans ((jx_cpc (by decide)).trans ((jx_cpc (by decide)).trans (jx_cpc (by decide))))))))))))
  · exact (jx_upc (by decide)).trans ((jx_upc (by decide)).trans ((jx_cpc (by decide)).trans ((jx_cpc (by decide)).trans ((jx_cpc (by decide)).trans (jx_ups)))))
  · exact (jx_upx (by decide)).trans ((jx_ups).trans ((jx_upc (by decide)).trans ((jx_cpc (by decide)).trans ((jx_cpc (by decide)).trans ((jx_cpc (by decide)).trans ((jx_cpc (by decide)).trans ((jx_cpc (by decide)).trans (jx_cpc (by decide)))))))))
  · exact (jx_ups).trans ((jx_upc (by decide)).trans ((jx_cpc (by decide)).trans ((jx_cpc (by decide)).trans ((jx_cpc (by decide)).trans ((jx_cpc (by decide)).trans ((jx_cpc (by decide)).trans (jx_cpc (by decide))))))))
set_option maxHeartbeats 4000000 in
theorem sp_M_copyFrom_b3 (d : Nat) (M : jxM) {K : jxK} (h : ∀ M', (∀ c x, (c < 4 ∨ 14 < c) → M' c x = M c x) → q_blk M' 4 M 50 → K none M') : jx_call jx_G1 jx_T (d + 3) 16 [.inr 4, .inr 50] M K := by
  intro X hX
  refine bk_M_copyFrom_b3_0 (d := d) hX M ?_
  intro X2 hX2
  refine bk_D_copyFrom_b3_0 (d := d) hX2 M ⟨rfl, h _ (fun c x hc => ?_) ⟨?_, ?_, ?_, ?_, ?_, ?_, ?_, ?_, ?_, ?_, ?_, ?_⟩⟩
  · exact (jx_upc (by omega)).trans ((jx_upc (by omega)).trans ((jx_cpc (by omega)).trans ((jx_cpc (by omega)).trans ((jx_cpc (by omega)).trans ((jx_upc (by omega)).trans ((jx_cpc (by omega)).trans ((jx_cpc (by omega)).trans ((jx_cpc (by omega)).trans ((jx_cpc (by omega)).trans ((jx_cpc (by omega)).trans (jx_cpc (by omega))))))))))))
  · exact fun x h0 h1 => (jx_upc (by decide)).trans ((jx_upc (by decide)).trans ((jx_cpc (by decide)).trans ((jx_cpc (by decide)).trans ((jx_cpc (by decide)).trans ((jx_upc (by decide)).trans ((jx_cpc (by decide)).trans ((jx_cpc (by decide)).trans ((jx_cpc (by decide)).trans ((jx_cpc (by decide)).trans ((jx_cpc (by decide)).trans (jx_cp0 h0 h1)))))))))))
  · exact fun x h0 h1 => (jx_upc (by decide)).trans ((jx_upc (by decide)).trans ((jx_cpc (by decide)).trans ((jx_cpc (by decide)).trans ((jx_cpc (by decide)).trans ((jx_upc (by decide)).trans ((jx_cpc (by decide)).trans ((jx_cpc (by decide)).trans ((jx_cpc (by decide)).trans ((jx_cpc (by decide)).trans ((jx_cp0 h0 h1).trans (jx_cpc (by decide))))))))))))
  · exact fun x h0 h1 => (jx_upc (by decide)).trans ((jx_upc (by decide)).trans ((jx_cpc (by decide)).trans ((jx_cpc (by decide)).trans ((jx_cpc (by decide)).trans ((jx_upc (by decide)).trans ((jx_cpc (by decide)).trans ((jx_cpc (by decide)).trans ((jx_cpc (by decide)).trans ((jx_cp0 h0 h1).trans ((jx_cpc (by decide)).trans (jx_cpc (by decide))))))))))))
  · exact fun x h0 h1 => (jx_upc (by decide)).trans ((jx_upc (by decide)).trans ((jx_cpc (by decide)).trans ((jx_cpc (by decide)).trans ((jx_cpc (by decide)).trans ((jx_upc (by decide)).trans ((jx_cpc (by decide)).trans ((jx_cpc (by decide)).trans ((jx_cp0 h0 h1).trans ((jx_cpc (by decide)).trans ((jx_cpc (by decide)).trans (jx_cpc (by decide))))))))))))
  · exact fun x h0 h1 => (jx_upc (by decide)).trans ((jx_upc (by decide)).trans ((jx_cpc (by decide)).trans ((jx_cpc (by decide)).trans ((jx_cpc (by decide)).trans ((jx_upc (by decide)).trans ((jx_cpc (by decide)).trans ((jx_cp0 h0 h1).trans ((jx_cpc (by decide)).trans ((jx_cpc (by decide)).trans ((jx_cpc (by decide)).trans (jx_cpc (by decide))))))))))))
  · exact fun x h0 h1 => (jx_upc (by decide)).trans ((jx_upc (by decide)).trans ((jx_cpc (by decide)).trans ((jx_cpc (by decide)).trans ((jx_cpc (by decide)).trans ((jx_upc (by decide)).trans ((jx_cp0 h0 h1).trans ((jx_cpc (by decide)).trans ((jx_cpc (by decide)).trans ((jx_cpc (by decide)).trans ((jx_cpc (by decide)).trans (jx_cpc (by decide))))))))))))
  · exact fun x h0 h1 => (jx_upc (by decide)).trans ((jx_upc (by decide)).trans ((jx_cpc (by decide)).trans ((jx_cpc (by decide)).trans ((jx_cp0 h0 h1).trans ((jx_upc (by decide)).trans ((jx_cpc (by decide)).trans ((jx_cpc (by decide)).trans ((jx_cpc (by decide)).trans ((jx_cpc (by decide)).trans ((jx_cpc (by decide)).trans (jx_cpc (by decide))))))))))))
  · exact fun x h0 h1 => (jx_upc (by decide)).trans ((jx_upc (by decide)).trans ((jx_cpc (by decide)).trans ((jx_cp0 h0 h1).trans ((jx_cpc (by decide)).trans ((jx_upc (by decide)).trans ((jx_cpc (by decide)).trans ((jx_cpc (by decide)).trans ((jx_cpc (by decide)).trans ((jx_cpc (by decide)).trans ((jx_cpc (by decide)).trans (jx_cpc (by decide))))))))))))
  · exact fun x h0 h1 => (jx_upc (by decide)).trans ((jx_upc (by decide)).trans ((jx_cp0 h0 h1).trans ((jx_cpc (by decide)).trans ((jx_cpc (by decide)).trans ((jx_upc (by decide)).trans ((jx_cpc (by decide)).trans ((jx_cpc (by decide)).trans ((jx_cpc (by decide)).trans ((jx_cpc (by decide)).trans ((jx_cpc (by decide)).trans (jx_cpc (by decide))))))))))))
  · exact (jx_upc (by decide)).trans ((jx_upc (by decide)).trans ((jx_cpc (by decide)).trans ((jx_cpc (by decide)).trans ((jx_cpc (by decide)).trans (jx_ups)))))
  · exact (jx_upx (by decide)).trans ((jx_ups).trans ((jx_upc (by decide)).trans ((jx_cpc (by decide)).trans ((jx_cpc (by decide)).trans ((jx_cpc (by decide)).trans ((jx_cpc (by decide)).trans ((jx_cpc (by decide)).trans (jx_cpc (by decide)))))))))
  · exact (jx_ups).trans ((jx_upc (by decide)).trans ((jx_cpc (by decide)).trans ((jx_cpc (by decide)).trans ((jx_cpc (by decide)).trans ((jx_cpc (by decide)).trans ((jx_cpc (by decide)).trans (jx_cpc (by decide))))))))
set_option maxHeartbeats 4000000 in
theorem sp_M_copyFrom_k4 (d : Nat) (M : jxM) {K : jxK} (h : ∀ M', (∀ c x, (c < 61 ∨ 71 < c) → M' c x = M c x) → q_blk M' 61 M 4 → K none M') : jx_call jx_G1 jx_T (d + 3) 16 [.inr 61, .inr 4] M K := by
  intro X hX
  refine bk_M_copyFrom_k4_0 (d := d) hX M ?_
  intro X2 hX2
  refine bk_D_copyFrom_k4_0 (d := d) hX2 M ⟨rfl, h _ (fun c x hc => ?_) ⟨?_, ?_, ?_, ?_, ?_, ?_, ?_, ?_, ?_, ?_, ?_, ?_⟩⟩
  · exact (jx_upc (by omega)).trans ((jx_upc (by omega)).trans ((jx_cpc (by omega)).trans ((jx_cpc (by omega)).trans ((jx_cpc (by omega)).trans ((jx_upc (by omega)).trans ((jx_cpc (by omega)).trans ((jx_cpc (by omega)).trans ((jx_cpc (by omega)).trans ((jx_cpc (by omega)).trans ((jx_cpc (by omega)).trans (jx_cpc (by omega))))))))))))
  · exact fun x h0 h1 => (jx_upc (by decide)).trans ((jx_upc (by decide)).trans ((jx_cpc (by decide)).trans ((jx_cpc (by decide)).trans ((jx_cpc (by decide)).trans ((jx_upc (by decide)).trans ((jx_cpc (by decide)).trans ((jx_cpc (by decide)).trans ((jx_cpc (by decide)).trans ((jx_cpc (by decide)).trans ((jx_cpc (by decide)).trans (jx_cp0 h0 h1)))))))))))
  · exact fun x h0 h1 => (jx_upc (by decide)).trans ((jx_upc (by decide)).trans ((jx_cpc (by decide)).trans ((jx_cpc (by decide)).trans ((jx_cpc (by decide)).trans ((jx_upc (by decide)).trans ((jx_cpc (by decide)).trans ((jx_cpc (by decide)).trans ((jx_cpc (by decide)).trans ((jx_cpc (by decide)).trans ((jx_cp0 h0 h1).trans (jx_cpc (by decide))))))))))))
  · exact fun x h0 h1 => (jx_upc (by decide)).trans ((jx_upc (by decide)).trans ((jx_cpc (by decide)).trans ((jx_cpc (by decide)).trans ((jx_cpc (by decide)).trans ((jx_upc (by decide)).trans ((jx_cpc (by decide)).trans ((jx_cpc (by decide)).trans ((jx_cpc (by decide)).trans ((jx_cp0 h0 h1).trans ((jx_cpc (by decide)).trans (jx_cpc (by decide))))))))))))
  · exact fun x h0 h1 => (jx_upc (by decide)).trans ((jx_upc (by decide)).trans ((jx_cpc (by decide)).trans ((jx_cpc (by decide)).trans ((jx_cpc (by decide)).trans ((jx_upc (by decide)).trans ((jx_cpc (by decide)).trans ((jx_cpc (by decide)).trans ((jx_cp0 h0 h1).trans ((jx_cpc (by decide)).trans ((jx_cpc (by decide)).trans (jx_cpc (by decide))))))))))))
  · exact fun x h0 h1 => (jx_upc (by decide)).trans ((jx_upc (by decide)).trans ((jx_cpc (by decide)).trans ((jx_cpc (by decide)).trans ((jx_cpc (by decide)).trans ((jx_upc (by decide)).trans ((jx_cpc (by decide)).trans ((jx_cp0 h0 h1).trans ((jx_cpc (by decide)).trans ((jx_cpc (by decide)).trans ((jx_cpc (by decide)).trans (jx_cpc (by decide))))))))))))
  · exact fun x h0 h1 => (jx_upc (by decide)).trans ((jx_upc (by decide)).trans ((jx_cpc (by decide)).trans ((jx_cpc (by decide)).trans ((jx_cpc (by decide)).trans ((jx_upc (by decide)).trans ((jx_cp0 h0 h1).trans ((jx_cpc (by decide)).trans ((jx_cpc (by decide)).trans ((jx_cpc (by decide)).trans ((jx_cpc (by decide)).trans (jx_cpc (by decide))))))))))))
  · exact fun x h0 h1 => (jx_upc (by decide)).trans ((jx_upc (by decide)).trans ((jx_cpc (by decide)).trans ((jx_cpc (by decide)).trans ((jx_cp0 h0 h1).trans ((jx_upc (by decide)).trans ((jx_cpc (by decide)).trans ((jx_cpc (by decide)).trans ((jx_cpc (by decide)).trans ((jx_cpc (by decide)).trans ((jx_cpc (by decide)).trans (jx_cpc (by decide))))))))))))
  · exact fun x h0 h1 => (jx_upc (by decide)).trans ((jx_upc (by decide)).trans ((jx_cpc (by decide)).trans ((jx_cp0 h0 h1).trans ((jx_cpc (by decide)).trans ((jx_upc (by decide)).trans ((jx_cpc (by decide)).trans ((jx_cpc (by decide)).trans ((jx_cpc (by decide)).trans ((jx_cpc (by decide)).trans ((jx_cpc (by decide)).trans (jx_cpc (by decide))))))))))))
  · exact fun x h0 h1 => (jx_upc (by decide)).trans ((jx_upc (by decide)).trans ((jx_cp0 h0 h1).trans ((jx_cpc (by decide)).trans ((jx_cpc (by decide)).trans ((jx_upc (by decide)).trans ((jx_cpc (by decide)).trans ((jx_cpc (by decide)).trans ((jx_cpc (by decide)).trans ((jx_cpc (by decide)).trans ((jx_cpc (by decide)).trans (jx_cpc (by decide))))))))))))
  · exact (jx_upc (by decide)).trans ((jx_upc (by decide)).trans ((jx_cpc (by decide)).trans ((jx_cpc (by decide)).trans ((jx_cpc (by decide)).trans (jx_ups)))))
  · exact (jx_upx (by decide)).trans ((jx_ups).trans ((jx_upc (by decide)).trans ((jx_cpc (by decide)).trans ((jx_cpc (by decide)).trans ((jx_cpc (by decide)).trans ((jx_cpc (by decide)).trans ((jx_cpc (by decide)).trans (jx_cpc (by decide)))))))))
  · exact (jx_ups).trans ((jx_upc (by decide)).trans ((jx_cpc (by decide)).trans ((jx_cpc (by decide)).trans ((jx_cpc (by decide)).trans ((jx_cpc (by decide)).trans ((jx_cpc (by decide)).trans (jx_cpc (by decide))))))))
set_option maxHeartbeats 4000000 in
theorem sp_M_copyFrom_b4 (d : Nat) (M : jxM) {K : jxK} (h : ∀ M', (∀ c x, (c < 4 ∨ 14 < c) → M' c x = M c x) → q_blk M' 4 M 61 → K none M') : jx_call jx_G1 jx_T (d + 3) 16 [.inr 4, .inr 61] M K := by
  intro X hX
  refine bk_M_copyFrom_b4_0 (d := d) hX M ?_
  intro X2 hX2
  refine bk_D_copyFrom_b4_0 (d := d) hX2 M ⟨rfl, h _ (fun c x hc => ?_) ⟨?_, ?_, ?_, ?_, ?_, ?_, ?_, ?_, ?_, ?_, ?_, ?_⟩⟩
  · exact (jx_upc (by omega)).trans ((jx_upc (by omega)).trans ((jx_cpc (by omega)).trans ((jx_cpc (by omega)).trans ((jx_cpc (by omega)).trans ((jx_upc (by omega)).trans ((jx_cpc (by omega)).trans ((jx_cpc (by omega)).trans ((jx_cpc (by omega)).trans ((jx_cpc (by omega)).trans ((jx_cpc (by omega)).trans (jx_cpc (by omega))))))))))))
  · exact fun x h0 h1 => (jx_upc (by decide)).trans ((jx_upc (by decide)).trans ((jx_cpc (by decide)).trans ((jx_cpc (by decide)).trans ((jx_cpc (by decide)).trans ((jx_upc (by decide)).trans ((jx_cpc (by decide)).trans ((jx_cpc (by decide)).trans ((jx_cpc (by decide)).trans ((jx_cpc (by decide)).trans ((jx_cpc (by decide)).trans (jx_cp0 h0 h1)))))))))))
  · exact fun x h0 h1 => (jx_upc (by decide)).trans ((jx_upc (by decide)).trans ((jx_cpc (by decide)).trans ((jx_cpc (by decide)).trans ((jx_cpc (by decide)).trans ((jx_upc (by decide)).trans ((jx_cpc (by decide)).trans ((jx_cpc (by decide)).trans ((jx_cpc (by decide)).trans ((jx_cpc (by decide)).trans ((jx_cp0 h0 h1).trans (jx_cpc (by decide))))))))))))
  · exact fun x h0 h1 => (jx_upc (by decide)).trans ((jx_upc (by decide)).trans ((jx_cpc (by decide)).trans ((jx_cpc (by decide)).trans ((jx_cpc (by decide)).trans ((jx_upc (by decide)).trans ((jx_cpc (by decide)).trans ((jx_cpc (by decide)).trans ((jx_cpc (by decide)).trans ((jx_cp0 h0 h1).trans ((jx_cpc (by decide)).trans (jx_cpc (by decide))))))))))))
  · exact fun x h0 h1 => (jx_upc (by decide)).trans ((jx_upc (by decide)).trans ((jx_cpc (by decide)).trans ((jx_cpc (by decide)).trans ((jx_cpc (by decide)).trans ((jx_upc (by decide)).trans ((jx_cpc (by decide)).trans ((jx_cpc (by decide)).trans ((jx_cp0 h0 h1).trans ((jx_cpc (by decide)).trans ((jx_cpc (by decide)).trans (jx_cpc (by decide))))))))))))
  · exact fun x h0 h1 => (jx_upc (by decide)).trans ((jx_upc (by decide)).trans ((jx_cpc (by decide)).trans ((jx_cpc (by decide)).trans ((jx_cpc (by decide)).trans ((jx_upc (by decide)).trans ((jx_cpc (by decide)).trans ((jx_cp0 h0 h1).trans ((jx_cpc (by decide)).trans ((jx_cpc (by decide)).trans ((jx_cpc (by decide)).trans (jx_cpc (by decide))))))))))))
  · exact fun x h0 h1 => (jx_upc (by decide)).trans ((jx_upc (by decide)).trans ((jx_cpc (by decide)).trans ((jx_cpc (by decide)).trans ((jx_cpc (by decide)).trans ((jx_upc (by decide)).trans ((jx_cp0 h0 h1).trans ((jx_cpc (by decide)).trans ((jx_cpc (by decide)).trans ((jx_cpc (by decide)).trans ((jx_cpc (by decide)).trans (jx_cpc (by decide))))))))))))
  · exact fun x h0 h1 => (jx_upc (by decide)).trans ((jx_upc (by decide)).trans ((jx_cpc (by decide)).trans ((jx_cpc (by decide)).trans ((jx_cp0 h0 h1).trans ((jx_upc (by decide)).trans ((jx_cpc (by decide)).trans ((jx_cpc (by decide)).trans ((jx_cpc (by decide)).trans ((jx_cpc (by decide)).trans ((jx_cpc (by decide)).trans (jx_cpc (by decide))))))))))))
  · exact fun x h0 h1 => (jx_upc (by decide)).trans ((jx_upc (by decide)).trans ((jx_cpc (by decide)).trans ((jx_cp0 h0 h1).trans ((jx_cpc (by decide)).trans ((jx_upc (by decide)).trans ((jx_cpc (by decide)).trans ((jx_cpc (by decide)).trans ((jx_cpc (by decide)).trans ((jx_cpc (by decide)).trans ((jx_cpc (by decide)).trans (jx_cpc (by decide))))))))))))
  · exact fun x h0 h1 => (jx_upc (by decide)).trans ((jx_upc (by decide)).trans ((jx_cp0 h0 h1).trans ((jx_cpc (by decide)).trans ((jx_cpc (by decide)).trans ((jx_upc (by decide)).trans ((jx_cpc (by decide)).trans ((jx_cpc (by decide)).trans ((jx_cpc (by decide)).trans ((jx_cpc (by decide)).trans ((jx_cpc (by decide)).trans (jx_cpc (by decide))))))))))))
  · exact (jx_upc (by decide)).trans ((jx_upc (by decide)).trans ((jx_cpc (by decide)).trans ((jx_cpc (by decide)).trans ((jx_cpc (by decide)).trans (jx_ups)))))
  · exact (jx_upx (by decide)).trans ((jx_ups).trans ((jx_upc (by decide)).trans ((jx_cpc (by decide)).trans ((jx_cpc (by decide)).trans ((jx_cpc (by decide)).trans ((jx_cpc (by decide)).trans ((jx_cpc (by decide)).trans (jx_cpc (by decide)))))))))
  · exact (jx_ups).trans ((jx_upc (by decide)).trans ((jx_cpc (by decide)).trans ((jx_cpc (by decide)).trans ((jx_cpc (by decide)).trans ((jx_cpc (by decide)).trans ((jx_cpc (by decide)).trans (jx_cpc (by decide))))))))
set_option maxHeartbeats 4000000 in
theorem sp_M_copyFrom_k5 (d : Nat) (M : jxM) {K : jxK} (h : ∀ M', (∀ c x, (c < 72 ∨ 82 < c) → M' c x = M c x) → q_blk M' 72 M 4 → K none M') : jx_call jx_G1 jx_T (d + 3) 16 [.inr 72, .inr 4] M K := by
  intro X hX
  refine bk_M_copyFrom_k5_0 (d := d) hX M ?_
  intro X2 hX2
  refine bk_D_copyFrom_k5_0 (d := d) hX2 M ⟨rfl, h _ (fun c x hc => ?_) ⟨?_, ?_, ?_, ?_, ?_, ?_, ?_, ?_, ?_, ?_, ?_, ?_⟩⟩
  · exact (jx_upc (by omega)).trans ((jx_upc (by omega)).trans ((jx_cpc (by omega)).trans ((jx_cpc (by omega)).trans ((jx_cpc (by omega)).trans ((jx_upc (by omega)).trans ((jx_cpc (by omega)).trans ((jx_cpc (by omega)).trans ((jx_cpc (by omega)).trans ((jx_cpc (by omega)).trans ((jx_cpc (by omega)).trans (jx_cpc (by omega))))))))))))
  · exact fun x h0 h1 => (jx_upc (by decide)).trans ((jx_upc (by decide)).trans ((jx_cpc (by decide)).trans ((jx_cpc (by decide)).trans ((jx_cpc (by decide)).trans ((jx_upc (by decide)).trans ((jx_cpc (by decide)).trans ((jx_cpc (by decide)).trans ((jx_cpc (by decide)).trans ((jx_cpc (by decide)).trans ((jx_cpc (by decide)).trans (jx_cp0 h0 h1)))))))))))
  · exact fun x h0 h1 => (jx_upc (by decide)).trans ((jx_upc (by decide)).trans ((jx_cpc (by decide)).trans ((jx_cpc (by decide)).trans ((jx_cpc (by decide)).trans ((jx_upc (by decide)).trans ((jx_cpc (by decide)).trans ((jx_cpc (by decide)).trans ((jx_cpc (by decide)).trans ((jx_cpc (by decide)).trans ((jx_cp0 h0 h1).trans (jx_cpc (by decide))))))))))))
  · exact fun x h0 h1 => (jx_upc (by decide)).trans ((jx_upc (by decide)).trans ((jx_cpc (by decide)).trans ((jx_cpc (by decide)).trans ((jx_cpc (by decide)).trans ((jx_upc (by decide)).trans ((jx_cpc (by decide)).trans ((jx_cpc (by decide)).trans ((jx_cpc (by decide)).trans ((jx_cp0 h0 h1).trans ((jx_cpc (by decide)).trans (jx_cpc (by decide))))))))))))
  · exact fun x h0 h1 => (jx_upc (by decide)).trans ((jx_upc (by decide)).trans ((jx_cpc (by decide)).trans ((jx_cpc (by decide)).trans ((jx_cpc (by decide)).trans ((jx_upc (by decide)).trans ((jx_cpc (by decide)).trans ((jx_cpc (by decide)).trans ((jx_cp0 h0 h1).trans ((jx_cpc (by decide)).trans ((jx_cpc (by decide)).trans (jx_cpc (by decide))))))))))))
  · exact fun x h0 h1 => (jx_upc (by decide)).trans ((jx_upc (by decide)).trans ((jx_cpc (by decide)).trans ((jx_cpc (by decide)).trans ((jx_cpc (by decide)).trans ((jx_upc (by decide)).trans ((jx_cpc (by decide)).trans ((jx_cp0 h0 h1).trans ((jx_cpc (by decide)).trans ((jx_cpc (by decide)).trans ((jx_cpc (by decide)).trans (jx_cpc (by decide))))))))))))
  · exact fun x h0 h1 => (jx_upc (by decide)).trans ((jx_upc (by decide)).trans ((jx_cpc (by decide)).trans ((jx_cpc (by decide)).trans ((jx_cpc (by decide)).trans ((jx_upc (by decide)).trans ((jx_cp0 h0 h1).trans ((jx_cpc (by decide)).trans ((jx_cpc (by decide)).trans ((jx_cpc (by decide)).trans ((jx_cpc (by decide)).trans (jx_cpc (by decide))))))))))))
  · exact fun x h0 h1 => (jx_upc (by decide)).trans ((jx_upc (by decide)).trans ((jx_cpc (by decide)).trans ((jx_cpc (by decide)).trans ((jx_cp0 h0 h1).trans ((jx_upc (by decide)).trans ((jx_cpc (by decide)).trans ((jx_cpc (by decide)).trans ((jx_cpc (by decide)).trans ((jx_cpc (by decide)).trans ((jx_cpc (by decide)).trans (jx_cpc (by decide))))))))))))
  · exact fun x h0 h1 => (jx_upc (by decide)).trans ((jx_upc (by decide)).trans ((jx_cpc (by decide)).trans ((jx_cp0 h0 h1).trans ((jx_cpc (by decide)).trans ((jx_upc (by decide)).trans ((jx_cpc (by decide)).trans ((jx_cpc (by decide)).trans ((jx_cpc (by decide)).trans ((jx_cpc (by decide)).trans ((jx_cpc (by decide)).trans (jx_cpc (by decide))))))))))))
  · exact fun x h0 h1 => (jx_upc (by decide)).trans ((jx_upc (by decide)).trans ((jx_cp0 h0 h1).trans ((jx_cpc (by decide)).trans ((jx_cpc (by decide)).trans ((jx_upc (by decide)).trans ((jx_cpc (by decide)).trans ((jx_cpc (by decide)).trans ((jx_cpc (by decide)).trans ((jx_cpc (by decide)).trans ((jx_cpc (by decide)).trans (jx_cpc (by decide))))))))))))
  · exact (jx_upc (by decide)).trans ((jx_upc (by decide)).trans ((jx_cpc (by decide)).trans ((jx_cpc (by decide)).trans ((jx_cpc (by decide)).trans (jx_ups)))))
  · exact (jx_upx (by decide)).trans ((jx_ups).trans ((jx_upc (by decide)).trans ((jx_cpc (by decide)).trans ((jx_cpc (by decide)).trans ((jx_cpc (by decide)).trans ((jx_cpc (by decide)).trans ((jx_cpc (by decide)).trans (jx_cpc (by decide)))))))))
  · exact (jx_ups).trans ((jx_upc (by decide)).trans ((jx_cpc (by decide)).trans ((jx_cpc (by decide)).trans ((jx_cpc (by decide)).trans ((jx_cpc (by decide)).trans ((jx_cpc (by decide)).trans (jx_cpc (by decide))))))))
set_option maxHeartbeats 4000000 in
theorem sp_M_copyFrom_b5 (d : Nat) (M : jxM) {K : jxK} (h : ∀ M', (∀ c x, (c < 4 ∨ 14 < c) → M' c x = M c x) → q_blk M' 4 M 72 → K none M') : jx_call jx_G1 jx_T (d + 3) 16 [.inr 4, .inr 72] M K := by
  intro X hX
  refine bk_M_copyFrom_b5_0 (d := d) hX M ?_
  intro X2 hX2
  refine bk_D_copyFrom_b5_0 (d := d) hX2 M ⟨rfl, h _ (fun c x hc => ?_) ⟨?_, ?_, ?_, ?_, ?_, ?_, ?_, ?_, ?_, ?_, ?_, ?_⟩⟩
  · exact (jx_upc (by omega)).trans ((jx_upc (by omega)).trans ((jx_cpc (by omega)).trans ((jx_cpc (by omega)).trans ((jx_cpc (by omega)).trans ((jx_upc (by omega)).trans ((jx_cpc (by omega)).trans ((jx_cpc (by omega)).trans ((jx_cpc (by omega)).trans ((jx_cpc (by omega)).trans ((jx_cpc (by omega)).trans (jx_cpc (by omega))))))))))))
  · exact fun x h0 h1 => (jx_upc (by decide)).trans ((jx_upc (by decide)).trans ((jx_cpc (by decide)).trans ((jx_cpc (by decide)).trans ((jx_cpc (by decide)).trans ((jx_upc (by decide)).trans ((jx_cpc (by decide)).trans ((jx_cpc (by decide)).trans ((jx_cpc (by decide)).trans ((jx_cpc (by decide)).trans ((jx_cpc (by decide)).trans (jx_cp0 h0 h1)))))))))))
  · exact fun x h0 h1 => (jx_upc (by decide)).trans ((jx_upc (by decide)).trans ((jx_cpc (by decide)).trans ((jx_cpc (by decide)).trans ((jx_cpc (by decide)).trans ((jx_upc (by decide)).trans ((jx_cpc (by decide)).trans ((jx_cpc (by decide)).trans ((jx_cpc (by decide)).trans ((jx_cpc (by decide)).trans ((jx_cp0 h0 h1).trans (jx_cpc (by decide))))))))))))
  · exact fun x h0 h1 => (jx_upc (by decide)).trans ((jx_upc (by decide)).trans ((jx_cpc (by decide)).trans ((jx_cpc (by decide)).trans ((jx_cpc (by decide)).trans ((jx_upc (by decide)).trans ((jx_cpc (by decide)).trans ((jx_cpc (by decide)).trans ((jx_cpc (by decide)).trans ((jx_cp0 h0 h1).trans ((jx_cpc (by decide)).trans (jx_cpc (by decide))))))))))))
  · exact fun x h0 h1 => (jx_upc (by decide)).trans ((jx_upc (by decide)).trans ((jx_cpc (by decide)).trans ((jx_cpc (by decide)).trans ((jx_cpc (by decide)).trans ((jx_upc (by decide)).trans ((jx_cpc (by decide)).trans ((jx_cpc (by decide)).trans ((jx_cp0 h0 h1).trans ((jx_cpc (by decide)).trans ((jx_cpc (by decide)).trans (jx_cpc (by decide))))))))))))
  · exact fun x h0 h1 => (jx_upc (by decide)).trans ((jx_upc (by decide)).trans ((jx_cpc (by decide)).trans ((jx_cpc (by decide)).trans ((jx_cpc (by decide)).trans ((jx_upc (by decide)).trans ((jx_cpc (by decide)).trans ((jx_cp0 h0 h1).trans ((jx_cpc (by decide)).trans ((jx_cpc (by decide)).trans ((jx_cpc (by decide)).trans (jx_cpc (by decide))))))))))))
  · exact fun x h0 h1 => (jx_upc (by decide)).trans ((jx_upc (by decide)).trans ((jx_cpc (by decide)).trans ((jx_cpc (by decide)).trans ((jx_cpc (by decide)).trans ((jx_upc (by decide)).trans ((jx_cp0 h0 h1).trans ((jx_cpc (by decide)).trans ((jx_cpc (by decide)).trans ((jx_cpc (by decide)).trans ((jx_cpc (by decide)).trans (jx_cpc (by decide))))))))))))
  · exact fun x h0 h1 => (jx_upc (by decide)).trans ((jx_upc (by decide)).trans ((jx_cpc (by decide)).trans ((jx_cpc (by decide)).trans ((jx_cp0 h0 h1).trans ((jx_upc (by decide)).trans ((jx_cpc (by decide)).trans ((jx_cpc (by decide)).trans ((jx_cpc (by decide)).trans ((jx_cpc (by decide)).trans ((jx_cpc (by decide)).trans (jx_cpc (by decide))))))))))))
  · exact fun x h0 h1 => (jx_upc (by decide)).trans ((jx_upc (by decide)).trans ((jx_cpc (by decide)).trans ((jx_cp0 h0 h1).trans ((jx_cpc (by decide)).trans ((jx_upc (by decide)).trans ((jx_cpc (by decide)).trans ((jx_cpc (by decide)).trans ((jx_cpc (by decide)).trans ((jx_cpc (by decide)).trans ((jx_cpc (by decide)).trans (jx_cpc (by decide))))))))))))
  · exact fun x h0 h1 => (jx_upc (by decide)).trans ((jx_upc (by decide)).trans ((jx_cp0 h0 h1).trans ((jx_cpc (by decide)).trans ((jx_cpc (by decide)).trans ((jx_upc (by decide)).trans ((jx_cpc (by decide)).trans ((jx_cpc (by decide)).trans ((jx_cpc (by decide)).trans ((jx_cpc (by decide)).trans ((jx_cpc (by decide)).trans (jx_cpc (by decide))))))))))))
  · exact (jx_upc (by decide)).trans ((jx_upc (by decide)).trans ((jx_cpc (by decide)).trans ((jx_cpc (by decide)).trans ((jx_cpc (by decide)).trans (jx_ups)))))
  · exact (jx_upx (by decide)).trans ((jx_ups).trans ((jx_upc (by decide)).trans ((jx_cpc (by decide)).trans ((jx_cpc (by decide)).trans ((jx_cpc (by decide)).trans ((jx_cpc (by decide)).trans ((jx_cpc (by decide)).trans (jx_cpc (by decide)))))))))
  · exact (jx_ups).trans ((jx_upc (by decide)).trans ((jx_cpc (by decide)).trans ((jx_cpc (by decide)).trans ((jx_cpc (by decide)).trans ((jx_cpc (by decide)).trans ((jx_cpc (by decide)).trans (jx_cpc (by decide))))))))
/-- what an edit's beginning does to the class's memory -/
def q_edit (M M' : jxM) : Prop :=
  (∀ c x, (c ≤ 14 ∨ 83 ≤ c) → ¬ (c = 1 ∧ x = 5) → M' c x = M c x) ∧ M' 1 5 = 1 ∧ M' 15 1 = (if M 15 1 = 5 then 0 else M 15 1 + 1) ∧ M' 15 2 = min (M 15 2 + 1) 6 ∧ q_blk M' (17 + 11 * (M 15 1).toNat) M 4 ∧ (∀ c x, 17 ≤ c → c ≤ 82 → (c < 17 + 11 * (M 15 1).toNat ∨ 27 + 11 * (M 15 1).toNat < c) → M' c x = M c x)
set_option maxHeartbeats 4000000 in
theorem sp_C_beginEdit (d : Nat) (M : jxM) (h1 : (0 ≤ M 15 1 ∧ M 15 1 < 6) ∧ (0 ≤ M 15 2 ∧ M 15 2 ≤ 6)) {K : jxK} (h : ∀ M', q_edit M M' → K none M') : jx_call jx_G1 jx_T (d + 5) 72 [.inr 1] M K := by
  intro X hX
  refine bk_C_beginEdit_0 (d := d) hX M ?_
  intro X2 hX2
  have key : ∀ (j : Nat) (M2 : jxM), M 15 1 = j → j < 6 → (∀ c x, (c < 17 + 11 * j ∨ 17 + 11 * j + 10 < c) → M2 c x = M c x) → q_blk M2 (17 + 11 * j) M 4 → ∀ nx, nx = (if M 15 1 = 5 then 0 else M 15 1 + 1) → K none (jx_up (jx_up (jx_up M2 15 1 nx) 15 2 (min (M2 15 2 + 1) 6)) 1 5 1) := by
    intro j M2 hj hj6 hf hb nx hnx
    have hjt : (M 15 1).toNat = j := by omega
    refine h _ ⟨fun c x hc hn => ?_, jx_ups, ?_, ?_, ?_, fun c x c1 c2 c3 => ?_⟩
    · have e1 : jx_up (jx_up (jx_up M2 15 1 nx) 15 2 (min (M2 15 2 + 1) 6)) 1 5 1 c x = jx_up (jx_up M2 15 1 nx) 15 2 (min (M2 15 2 + 1) 6) c x := by
        by_cases z : c = 1
        · subst z; exact jx_upx (fun y => hn ⟨rfl, y⟩)
        · exact jx_upc z
      rw [e1, jx_upc (by omega), jx_upc (by omega)]
      exact hf c x (by omega)
    · rw [jx_upc (by decide), jx_upx (by decide), jx_ups, hnx]
    · rw [jx_upc (by decide), jx_ups, hf 15 2 (by omega)]
    · rw [hjt]
      have z : ∀ c x, 17 ≤ c → jx_up (jx_up (jx_up M2 15 1 nx) 15 2 (min (M2 15 2 + 1) 6)) 1 5 1 c x = M2 c x := fun c x hc => by rw [jx_upc (by omega), jx_upc (by omega), jx_upc (by omega)]
      obtain ⟨b1, b2, b3, b4, b5, b6, b7, b8, b9, b10, b11, b12⟩ := hb
      exact ⟨fun x x1 x2 => (z _ x (by omega)).trans (b1 x x1 x2), fun x x1 x2 => (z _ x (by omega)).trans (b2 x x1 x2), fun x x1 x2 => (z _ x (by omega)).trans (b3 x x1 x2), fun x x1 x2 => (z _ x (by omega)).trans (b4 x x1 x2), fun x x1 x2 => (z _ x (by omega)).trans (b5 x x1 x2), fun x x1 x2 => (z _ x (by omega)).trans (b6 x x1 x2), fun x x1 x2 => (z _ x (by omega)).trans (b7 x x1 x2), fun x x1 x2 => (z _ x (by omega)).trans (b8 x x1 x2), fun x x1 x2 => (z _ x (by omega)).trans (b9 x x1 x2), (z _ _ (by omega)).trans b10, (z _ _ (by omega)).trans b11, (z _ _ (by omega)).trans b12⟩
    · rw [hjt] at c3
      rw [jx_upc (by omega), jx_upc (by omega), jx_upc (by omega)]
      exact hf c x (by omega)
  have e15 : ∀ (j : Nat) (M2 : jxM), (∀ c x, (c < 17 + 11 * j ∨ 17 + 11 * j + 10 < c) → M2 c x = M c x) → M2 15 1 = M 15 1 ∧ M2 15 2 = M 15 2 := fun j M2 hf => ⟨hf 15 1 (by omega), hf 15 2 (by omega)⟩
  refine bk_H_keep_0 (d := d) hX2 M ⟨h1.1, fun q => ?_, fun q => ?_, fun q => ?_, fun q => ?_, fun q => ?_, fun q => ?_⟩
  · refine sp_M_copyFrom_k0 d M (fun M2 hf hb => ⟨rfl, fun z => ⟨?_, rfl, ?_⟩, fun z => ⟨?_, rfl, ?_⟩⟩)
    · have := e15 0 M2 hf
      omega
    · refine key 0 M2 q (by omega) hf hb _ ?_
      rw [(e15 0 M2 hf).1] at z ⊢
      rw [if_neg z]
    · have := e15 0 M2 hf
      omega
    · refine key 0 M2 q (by omega) hf hb _ ?_
      rw [(e15 0 M2 hf).1] at z
      rw [if_pos z]
  · refine sp_M_copyFrom_k1 d M (fun M2 hf hb => ⟨rfl, fun z => ⟨?_, rfl, ?_⟩, fun z => ⟨?_, rfl, ?_⟩⟩)
    · have := e15 1 M2 hf
      omega
    · refine key 1 M2 q (by omega) hf hb _ ?_
      rw [(e15 1 M2 hf).1] at z ⊢
      rw [if_neg z]
    · have := e15 1 M2 hf
      omega
    · refine key 1 M2 q (by omega) hf hb _ ?_
      rw [(e15 1 M2 hf).1] at z
      rw [if_pos z]
  · refine sp_M_copyFrom_k2 d M (fun M2 hf hb => ⟨rfl, fun z => ⟨?_, rfl, ?_⟩, fun z => ⟨?_, rfl, ?_⟩⟩)
    · have := e15 2 M2 hf
      omega
    · refine key 2 M2 q (by omega) hf hb _ ?_
      rw [(e15 2 M2 hf).1] at z ⊢
      rw [if_neg z]
    · have := e15 2 M2 hf
      omega
    · refine key 2 M2 q (by omega) hf hb _ ?_
      rw [(e15 2 M2 hf).1] at z
      rw [if_pos z]
  · refine sp_M_copyFrom_k3 d M (fun M2 hf hb => ⟨rfl, fun z => ⟨?_, rfl, ?_⟩, fun z => ⟨?_, rfl, ?_⟩⟩)
    · have := e15 3 M2 hf
      omega
    · refine key 3 M2 q (by omega) hf hb _ ?_
      rw [(e15 3 M2 hf).1] at z ⊢
      rw [if_neg z]
    · have := e15 3 M2 hf
      omega
    · refine key 3 M2 q (by omega) hf hb _ ?_
      rw [(e15 3 M2 hf).1] at z
      rw [if_pos z]
  · refine sp_M_copyFrom_k4 d M (fun M2 hf hb => ⟨rfl, fun z => ⟨?_, rfl, ?_⟩, fun z => ⟨?_, rfl, ?_⟩⟩)
    · have := e15 4 M2 hf
      omega
    · refine key 4 M2 q (by omega) hf hb _ ?_
      rw [(e15 4 M2 hf).1] at z ⊢
      rw [if_neg z]
    · have := e15 4 M2 hf
      omega
    · refine key 4 M2 q (by omega) hf hb _ ?_
      rw [(e15 4 M2 hf).1] at z
      rw [if_pos z]
  · refine sp_M_copyFrom_k5 d M (fun M2 hf hb => ⟨rfl, fun z => ⟨?_, rfl, ?_⟩, fun z => ⟨?_, rfl, ?_⟩⟩)
    · have := e15 5 M2 hf
      omega
    · refine key 5 M2 q (by omega) hf hb _ ?_
      rw [(e15 5 M2 hf).1] at z ⊢
      rw [if_neg z]
    · have := e15 5 M2 hf
      omega
    · refine key 5 M2 q (by omega) hf hb _ ?_
      rw [(e15 5 M2 hf).1] at z
      rw [if_pos z]
end
section
/-- what 'save' does to the reference's memory -/
def q_save (M M' : jxM) : Prop :=
  (∀ c x, c ≠ 1 → c ≠ 3 → M' c x = M c x) ∧ (∀ x, x ≠ 2 → x ≠ 5 → M' 1 x = M 1 x) ∧ M' 1 5 = 0 ∧ M' 1 2 = min (M 1 2 + 1) 6 ∧ (M 1 2 = 6 → ∀ k, 0 ≤ k → k < 1525 → M' 3 k = M 3 (k + 305)) ∧ (M 1 2 < 6 → ∀ k, 0 ≤ k → k < 305 * M 1 2 → M' 3 k = M 3 k) ∧ (∀ k, 0 ≤ k → k < 305 → M' 3 (305 * min (M 1 2) 5 + k) = M 2 k)
theorem sp_F_save (d : Nat) (M : jxM) (h1 : 0 ≤ M 1 2 ∧ M 1 2 ≤ 6) {K : jxK} (h : ∀ M', q_save M M' → K none M') : jx_call jx_G2 jx_T (d + 1) 81 [.inr 1] M K := by
  intro X hX
  have lp2 : ∀ (N : jxM), 0 ≤ N 1 2 → N 1 2 ≤ 5 → (∀ M', (∀ c x, c ≠ 3 → M' c x = N c x) → (∀ k, k < 305 * N 1 2 → M' 3 k = N 3 k) → (∀ k, 0 ≤ k → k < 305 → M' 3 (305 * N 1 2 + k) = N 2 k) → K none (jx_up (jx_up M' 1 2 (N 1 2 + 1)) 1 5 0)) → X 29 [.inr 1, .inl 0] [] N := by
    intro N n0 n5 hk
    refine jx_loop (σ := jxM) 305 (fun i M' => 0 ≤ i ∧ i ≤ 305 ∧ (∀ c x, c ≠ 3 → M' c x = N c x) ∧ (∀ k, k < 305 * N 1 2 → M' 3 k = N 3 k) ∧ (∀ k, 0 ≤ k → k < i → M' 3 (305 * N 1 2 + k) = N 2 k)) (fun i M' => X 29 [.inr 1, .inl i] [] M') ?_ 0 N ⟨by omega, by omega, fun _ _ _ => rfl, fun _ _ => rfl, fun k _ _ => by omega⟩
    intro i M' ⟨i1, i2, i3, i4, i5⟩ ih
    have e12 := i3 1 2 (by decide)
    refine bk_F_save_29 (d := d) hX i M' ⟨fun q => ⟨by omega, ?_⟩, fun q => ⟨by omega, ih _ q ⟨by omega, by omega, fun c x hc => ?_, fun k hk2 => ?_, fun k k1 k2 => ?_⟩⟩⟩
    · rw [e12]
      exact hk M' i3 i4 (fun k k1 k2 => i5 k k1 (by omega))
    · rw [jx_upc hc]; exact i3 c x hc
    · rw [jx_upx (by omega)]; exact i4 k hk2
    · rw [e12, i3 2 i (by decide)]
      rcases Int.lt_or_le k i with z | z
      · rw [jx_upx (by omega)]; exact i5 k k1 z
      · obtain rfl : k = i := by omega
        rw [jx_ups]
  refine bk_F_save_0 (d := d) hX M ⟨fun q => ?_, fun q => ?_⟩
  · refine lp2 M h1.1 (by omega) (fun M' m1 m2 m3 => h _ ⟨fun c x c1 c2 => ?_, fun x x1 x2 => ?_, jx_ups, ?_, fun z => by omega, fun _ k k1 k2 => ?_, fun k k1 k2 => ?_⟩)
    · rw [jx_upc c1, jx_upc c1]; exact m1 c x c2
    · rw [jx_upx x2, jx_upx x1]; exact m1 1 x (by decide)
    · rw [jx_upx (by decide), jx_ups]; omega
    · rw [jx_upc (by decide), jx_upc (by decide)]; exact m2 k k2
    · rw [jx_upc (by decide), jx_upc (by decide), show min (M 1 2) 5 = M 1 2 by omega]; exact m3 k k1 k2
  · refine jx_loop (σ := jxM) 1525 (fun i M' => 0 ≤ i ∧ i ≤ 1525 ∧ (∀ c x, c ≠ 3 → M' c x = M c x) ∧ (∀ k, 0 ≤ k → k < i → M' 3 k = M 3 (k + 305)) ∧ (∀ k, i ≤ k → M' 3 k = M 3 k)) (fun i M' => X 6 [.inr 1, .inl i] [] M') ?_ 0 M ⟨by omega, by omega, fun _ _ _ => rfl, fun k _ _ => by omega, fun _ _ => rfl⟩
    intro i M' ⟨i1, i2, i3, i4, i5⟩ ih
    have e12 := i3 1 2 (by decide)
    refine bk_F_save_6 (d := d) hX i M' ⟨fun q2 => ⟨by omega, ?_⟩, fun q2 => ⟨by omega, ih _ q2 ⟨by omega, by omega, fun c x hc => ?_, fun k k1 k2 => ?_, fun k k1 => ?_⟩⟩⟩
    · have n12 : jx_up M' 1 2 (M' 1 2 - 1) 1 2 = 5 := by rw [jx_ups]; omega
      refine lp2 _ (by omega) (by omega) (fun M3 m1 m2 m3 => h _ ⟨fun c x c1 c2 => ?_, fun x x1 x2 => ?_, jx_ups, ?_, fun _ k k1 k2 => ?_, fun z => by omega, fun k k1 k2 => ?_⟩)
      · rw [jx_upc c1, jx_upc c1, m1 c x c2, jx_upc c1]; exact i3 c x c2
      · rw [jx_upx x2, jx_upx x1, m1 1 x (by decide), jx_upx x1]; exact i3 1 x (by decide)
      · rw [jx_upx (by decide), jx_ups, n12]; omega
      · rw [jx_upc (by decide), jx_upc (by decide), m2 k (by omega), jx_upc (by decide)]; exact i4 k k1 (by omega)
      · rw [jx_upc (by decide), jx_upc (by decide), show min (M 1 2) 5 = 5 by omega]
        have := m3 k k1 k2
        rw [n12] at this
        rw [this, jx_upc (by decide)]
        exact i3 2 k (by decide)
    · rw [jx_upc hc]; exact i3 c x hc
    · rcases Int.lt_or_le k i with z | z
      · rw [jx_upx (by omega)]; exact i4 k k1 z
      · obtain rfl : k = i := by omega
        rw [jx_ups]; exact i5 _ (by omega)
    · rw [jx_upx (by omega)]; exact i5 k (by omega)
def q_und (M M' : jxM) : Prop :=
  (∀ c x, c ≠ 1 → c ≠ 2 → M' c x = M c x) ∧ (∀ x, x ≠ 2 → x ≠ 5 → M' 1 x = M 1 x) ∧ M' 1 5 = 0 ∧ M' 1 2 = M 1 2 - 1 ∧ (∀ k, 0 ≤ k → k < 305 → M' 2 k = M 3 (305 * (M 1 2 - 1) + k))
theorem sp_F_undo (d : Nat) (M : jxM) (h1 : 0 ≤ M 1 2 ∧ M 1 2 ≤ 6) {K : jxK} (h0 : M 1 2 = 0 → K (some (.inl (-2))) M) (h : M 1 2 ≠ 0 → ∀ M', q_und M M' → K (some (.inl (M 1 2 - 1))) M') : jx_call jx_G2 jx_T (d + 1) 82 [.inr 1] M K := by
  intro X hX
  refine bk_F_undo_0 (d := d) hX M ⟨fun q => ⟨by omega, ?_⟩, h0⟩
  have n12 : jx_up M 1 2 (M 1 2 - 1) 1 2 = M 1 2 - 1 := jx_ups
  refine jx_loop (σ := jxM) 305 (fun i M' => 0 ≤ i ∧ i ≤ 305 ∧ (∀ c x, c ≠ 2 → M' c x = jx_up M 1 2 (M 1 2 - 1) c x) ∧ (∀ k, 0 ≤ k → k < i → M' 2 k = M 3 (305 * (M 1 2 - 1) + k))) (fun i M' => X 13 [.inr 1, .inl i] [] M') ?_ 0 _ ⟨by omega, by omega, fun _ _ _ => rfl, fun k _ _ => by omega⟩
  intro i M' ⟨i1, i2, i3, i4⟩ ih
  have e12 : M' 1 2 = M 1 2 - 1 := (i3 1 2 (by decide)).trans n12
  refine bk_F_undo_13 (d := d) hX i M' ⟨fun q2 => ?_, fun q2 => ⟨by omega, ih _ q2 ⟨by omega, by omega, fun c x hc => ?_, fun k k1 k2 => ?_⟩⟩⟩
  · rw [e12]
    refine h q _ ⟨fun c x c1 c2 => ?_, fun x x1 x2 => ?_, jx_ups, ?_, fun k k1 k2 => ?_⟩
    · rw [jx_upc c1, i3 c x c2, jx_upc c1]
    · rw [jx_upx x2, i3 1 x (by decide), jx_upx x1]
    · rw [jx_upx (by decide)]; exact e12
    · rw [jx_upc (by decide)]; exact i4 k k1 (by omega)
  · rw [jx_upc hc]; exact i3 c x hc
  · rcases Int.lt_or_le k i with z | z
    · rw [jx_upx (by omega)]; exact i4 k k1 z
    · obtain rfl : k = i := by omega
      rw [jx_ups, e12, i3 3 _ (by decide), jx_upc (by decide)]
/-- the class's undo -/
def q_und1 (M M' : jxM) (l : Int) : Prop :=
  (∀ c x, (c ≤ 3 ∨ 16 ≤ c) → ¬ (c = 1 ∧ x = 5) → M' c x = M c x) ∧ M' 1 5 = 1 ∧ M' 15 1 = l ∧ M' 15 2 = M 15 2 - 1 ∧ q_blk M' 4 M (17 + 11 * l.toNat)
set_option maxHeartbeats 4000000 in
theorem sp_C_undo (d : Nat) (M : jxM) (h1 : (0 ≤ M 15 1 ∧ M 15 1 < 6) ∧ (0 ≤ M 15 2 ∧ M 15 2 ≤ 6)) {K : jxK} (h0 : M 15 2 = 0 → K (some (.inl (-2))) M) (h : M 15 2 ≠ 0 → ∀ M', q_und1 M M' (if M 15 1 = 0 then 5 else M 15 1 - 1) → K (some (.inl (M 15 2 - 1))) M') : jx_call jx_G1 jx_T (d + 5) 71 [.inr 1] M K := by
  intro X hX
  refine bk_C_undo_0 (d := d) hX M ⟨fun q0 => ?_, h0⟩
  intro X2 hX2
  have key : ∀ (j : Nat) (M2 : jxM) (l : Int), l = j → j < 6 → l = (if M 15 1 = 0 then 5 else M 15 1 - 1) → (∀ c x, (c < 4 ∨ 14 < c) → M2 c x = M c x) → q_blk M2 4 M (17 + 11 * j) → K (some (.inl ((jx_up (jx_up M2 15 1 l) 15 2 (M2 15 2 - 1)) 15 2))) (jx_up (jx_up (jx_up M2 15 1 l) 15 2 (M2 15 2 - 1)) 1 5 1) := by
    intro j M2 l hl hj hl2 hf hb
    have e2 : M2 15 2 = M 15 2 := hf 15 2 (by omega)
    rw [jx_ups, e2]
    refine h q0 _ ⟨fun c x hc hn => ?_, jx_ups, ?_, ?_, ?_⟩
    · have e1 : jx_up (jx_up (jx_up M2 15 1 l) 15 2 (M 15 2 - 1)) 1 5 1 c x = jx_up (jx_up M2 15 1 l) 15 2 (M 15 2 - 1) c x := by
        by_cases z : c = 1
        · subst z; exact jx_upx (fun y => hn ⟨rfl, y⟩)
        · exact jx_upc z
      rw [e1, jx_upc (by omega), jx_upc (by omega)]
      exact hf c x (by omega)
    · rw [jx_upc (by decide), jx_upx (by decide), jx_ups, hl2]
    · rw [jx_upc (by decide), jx_ups]
    · rw [← hl2, show l.toNat = j by omega]
      have z : ∀ c x, 4 ≤ c → c ≤ 14 → jx_up (jx_up (jx_up M2 15 1 l) 15 2 (M 15 2 - 1)) 1 5 1 c x = M2 c x := fun c x hc hd => by rw [jx_upc (by omega), jx_upc (by omega), jx_upc (by omega)]
      obtain ⟨b1, b2, b3, b4, b5, b6, b7, b8, b9, b10, b11, b12⟩ := hb
      exact ⟨fun x x1 x2 => (z _ x (by omega) (by omega)).trans (b1 x x1 x2), fun x x1 x2 => (z _ x (by omega) (by omega)).trans (b2 x x1 x2), fun x x1 x2 => (z _ x (by omega) (by omega)).trans (b3 x x1 x2), fun x x1 x2 => (z _ x (by omega) (by omega)).trans (b4 x x1 x2), fun x x1 x2 => (z _ x (by omega) (by omega)).trans (b5 x x1 x2), fun x x1 x2 => (z _ x (by omega) (by omega)).trans (b6 x x1 x2), fun x x1 x2 => (z _ x (by omega) (by omega)).trans (b7 x x1 x2), fun x x1 x2 => (z _ x (by omega) (by omega)).trans (b8 x x1 x2), fun x x1 x2 => (z _ x (by omega) (by omega)).trans (b9 x x1 x2), (z _ _ (by omega) (by omega)).trans b10, (z _ _ (by omega) (by omega)).trans b11, (z _ _ (by omega) (by omega)).trans b12⟩
  have e15 : ∀ M2 : jxM, (∀ c x, (c < 4 ∨ 14 < c) → M2 c x = M c x) → M2 15 2 = M 15 2 := fun M2 hf => hf 15 2 (by omega)
  refine bk_H_bringBack_0 (d := d) hX2 M ⟨fun q => ⟨by omega, fun q1 => ⟨fun _ => ?_, fun z => absurd z q0⟩, fun q1 => ⟨fun _ => ?_, fun z => absurd z q0⟩, fun q1 => ⟨fun _ => ?_, fun z => absurd z q0⟩, fun q1 => ⟨fun _ => ?_, fun z => absurd z q0⟩, fun q1 => ⟨fun _ => ?_, fun z => absurd z q0⟩, fun q1 => ⟨fun _ => ?_, fun z => absurd z q0⟩⟩, fun q => ⟨fun _ => ?_, fun z => absurd z q0⟩⟩
  · exact sp_M_copyFrom_b0 d M (fun M2 hf hb => ⟨rfl, by have := e15 M2 hf; omega, rfl, key 0 M2 _ q1 (by omega) (by rw [if_neg q]) hf hb⟩)
  · exact sp_M_copyFrom_b1 d M (fun M2 hf hb => ⟨rfl, by have := e15 M2 hf; omega, rfl, key 1 M2 _ q1 (by omega) (by rw [if_neg q]) hf hb⟩)
  · exact sp_M_copyFrom_b2 d M (fun M2 hf hb => ⟨rfl, by have := e15 M2 hf; omega, rfl, key 2 M2 _ q1 (by omega) (by rw [if_neg q]) hf hb⟩)
  · exact sp_M_copyFrom_b3 d M (fun M2 hf hb => ⟨rfl, by have := e15 M2 hf; omega, rfl, key 3 M2 _ q1 (by omega) (by rw [if_neg q]) hf hb⟩)
  · exact sp_M_copyFrom_b4 d M (fun M2 hf hb => ⟨rfl, by have := e15 M2 hf; omega, rfl, key 4 M2 _ q1 (by omega) (by rw [if_neg q]) hf hb⟩)
  · exact sp_M_copyFrom_b5 d M (fun M2 hf hb => ⟨rfl, by have := e15 M2 hf; omega, rfl, key 5 M2 _ q1 (by omega) (by rw [if_neg q]) hf hb⟩)
  · exact sp_M_copyFrom_b5 d M (fun M2 hf hb => ⟨rfl, by have := e15 M2 hf; omega, rfl, key 5 M2 _ rfl (by omega) (by rw [if_pos q]) hf hb⟩)
-- ===== both memories =====
def q_txt (M1 M2 : jxM) : Prop := M1 2 1 = M2 1 4 ∧ (0 ≤ M2 1 4 ∧ M2 1 4 ≤ 20) ∧ ∀ i, 0 ≤ i → i < M2 1 4 → M1 3 i = M2 4 i
def q_his (M1 M2 : jxM) : Prop := M1 15 2 = M2 1 2 ∧ (0 ≤ M2 1 2 ∧ M2 1 2 ≤ 6) ∧ (0 ≤ M1 15 1 ∧ M1 15 1 < 6) ∧ ∀ j, 0 ≤ j → j < M2 1 2 → q_rs M1 (17 + 11 * ((M1 15 1 - M2 1 2 + j) % 6).toNat) (fun k => M2 3 (305 * j + k)) ∧ q_ok (fun k => M2 3 (305 * j + k))
def q_base (M1 M2 : jxM) : Prop := q_txt M1 M2 ∧ q_rs M1 4 (M2 2) ∧ q_ok (M2 2) ∧ q_his M1 M2
def q_nx1 (M M' : jxM) : Prop := M' 1 5 = 1 ∨ ∀ c x, (c = 1 ∨ 4 ≤ c) → M' c x = M c x
def q_nx2 (M M' : jxM) : Prop := M' 1 5 = 0 ∨ ∀ c x, c ≠ 4 → ¬ (c = 1 ∧ x = 4) → M' c x = M c x
/-- the two answers are one, and the memories go on together -/
def q_pair (M1 M2 : jxM) (v : Option jxV) (M1' : jxM) : jxK := fun w M2' => (∃ r : Int, v = some (.inl r) ∧ w = some (.inl r)) ∧ q_base M1' M2' ∧ q_nx1 M1 M1' ∧ q_nx2 M2 M2'
theorem q_his_fr {M1 M2 M1' M2' : jxM} (h : q_his M1 M2) (h1 : ∀ c x, 15 ≤ c → c ≤ 82 → M1' c x = M1 c x) (h2 : ∀ x, M2' 3 x = M2 3 x) (h3 : M2' 1 2 = M2 1 2) : q_his M1' M2' := by
  obtain ⟨a, b, c, d⟩ := h
  have e1 := h1 15 1 (by omega) (by omega)
  have e2 := h1 15 2 (by omega) (by omega)
  refine ⟨by rw [e2, h3]; exact a, by rw [h3]; exact b, by rw [e1]; exact c, fun j j1 j2 => ?_⟩
  rw [h3] at j2 ⊢
  rw [e1]
  obtain ⟨d1, d2⟩ := d j j1 j2
  refine ⟨q_rs_eq d2 (q_rs_blk d2 d1 (q_blk_rfl (fun c x c1 c2 => h1 c x (by omega) ?_))) (fun k _ _ => h2 _), q_ok_eq d2 (fun k _ _ => h2 _)⟩
  omega
/-- behind the beginning of an edit on both sides the history is in order -/
theorem q_his_edit {M1 M2 M1' M2' : jxM} (h : q_base M1 M2) (h1 : q_edit M1 M1') (h2 : q_save M2 M2') : q_his M1' M2' := by
  obtain ⟨-, hrs, hok, a, b, c, d⟩ := h
  obtain ⟨e1, e2, e3, e4, e5, e6⟩ := h1
  obtain ⟨s1, s2, s3, s4, s5, s6, s7⟩ := h2
  have n1 : (M1 15 1 = 5 → M1' 15 1 = 0) ∧ (M1 15 1 ≠ 5 → M1' 15 1 = M1 15 1 + 1) := ⟨fun z => by rw [e3, if_pos z], fun z => by rw [e3, if_neg z]⟩
  refine ⟨by rw [e4, s4, a], by omega, by omega, fun j j1 j2 => ?_⟩
  rcases Int.lt_or_le j (min (M2 1 2) 5) with z | z
  · -- an older state
    have hj : ∃ j', 0 ≤ j' ∧ j' < M2 1 2 ∧ (M1' 15 1 - M2' 1 2 + j) % 6 = (M1 15 1 - M2 1 2 + j') % 6 ∧ (M1 15 1 - M2 1 2 + j') % 6 ≠ M1 15 1 ∧ ∀ k, 0 ≤ k → k < 305 → M2' 3 (305 * j + k) = M2 3 (305 * j' + k) := by
      by_cases z6 : M2 1 2 = 6
      · refine ⟨j + 1, by omega, by omega, ?_, ?_, fun k k1 k2 => ?_⟩
        · by_cases y : M1 15 1 = 5
          · rw [n1.1 y, s4]; omega
          · rw [n1.2 y, s4]; omega
        · omega
        · rw [s5 z6 _ (by omega) (by omega)]
          congr 1
          omega
      · refine ⟨j, by omega, by omega, ?_, ?_, fun k k1 k2 => ?_⟩
        · by_cases y : M1 15 1 = 5
          · rw [n1.1 y, s4]; omega
          · rw [n1.2 y, s4]; omega
        · omega
        · rw [s6 (by omega) _ (by omega) (by omega)]
    obtain ⟨j', p1, p2, p3, p4, p5⟩ := hj
    obtain ⟨d1, d2⟩ := d j' p1 p2
    rw [p3]
    refine ⟨q_rs_eq d2 (q_rs_blk d2 d1 (q_blk_rfl (fun c x c1 c2 => e6 c x (by omega) (by omega) ?_))) (fun k k1 k2 => p5 k k1 k2), q_ok_eq d2 (fun k k1 k2 => p5 k k1 k2)⟩
    omega
  · -- the state that was saved now
    have hj : j = min (M2 1 2) 5 := by omega
    have hs : ((M1' 15 1 - M2' 1 2 + j) % 6).toNat = (M1 15 1).toNat := by
      by_cases y : M1 15 1 = 5
      · rw [n1.1 y, s4]; omega
      · rw [n1.2 y, s4]; omega
    rw [hs, hj]
    exact ⟨q_rs_eq hok (q_rs_blk hok hrs e5) (fun k k1 k2 => s7 k k1 k2), q_ok_eq hok (fun k k1 k2 => s7 k k1 k2)⟩
end
section
theorem q_bs {M1 M2 : jxM} (h : q_base M1 M2) : M1 2 1 = M2 1 4 ∧ (0 ≤ M2 1 4 ∧ M2 1 4 ≤ 20) ∧ M1 5 6 = M2 2 0 ∧ (0 ≤ M2 2 0 ∧ M2 2 0 ≤ 20) ∧ M1 4 5 = M2 2 271 ∧ (0 ≤ M2 2 271 ∧ M2 2 271 ≤ 16) ∧ M1 4 4 = M2 2 270 ∧ M1 15 2 = M2 1 2 ∧ (0 ≤ M2 1 2 ∧ M2 1 2 ≤ 6) ∧ (0 ≤ M1 15 1 ∧ M1 15 1 < 6) := by
  obtain ⟨⟨a1, a2, -⟩, ⟨b1, -, -, b4, b5, -⟩, ⟨c1, -, -, -, c5, -⟩, d1, d2, d3, -⟩ := h
  exact ⟨a1, a2, b1, c1, b5, c5, b4, d1, d2, d3⟩
/-- of an entry -/
theorem q_en {M1 M2 : jxM} (h : q_base M1 M2) {e : Int} (e1 : 0 ≤ e) (e2 : e < M2 2 0) : M1 7 e = M2 2 (1 + 11 * e) ∧ (1 ≤ M2 2 (1 + 11 * e) ∧ M2 2 (1 + 11 * e) ≤ 6) ∧ M1 8 e = M2 2 (1 + 11 * e + 7) ∧ M1 9 e = M2 2 (1 + 11 * e + 8) ∧ (0 ≤ M2 2 (1 + 11 * e + 8) ∧ M2 2 (1 + 11 * e + 8) ≤ 4) ∧ M1 10 e = M2 2 (1 + 11 * e + 9) ∧ (0 ≤ M2 2 (1 + 11 * e + 9) ∧ M2 2 (1 + 11 * e + 9) ≤ 99) ∧ M1 11 e = M2 2 (1 + 11 * e + 10) ∧ (0 ≤ M2 2 (1 + 11 * e + 10) ∧ M2 2 (1 + 11 * e + 10) ≤ 9) := by
  obtain ⟨-, ⟨-, b2, -⟩, ⟨-, c2, -⟩, -⟩ := h
  obtain ⟨z1, -, z3, z4, z5, z6⟩ := b2 e e1 e2
  obtain ⟨y1, y2, y3, y4⟩ := c2 e e1 e2
  exact ⟨z1, y1, z3, z4, y2, z5, y3, z6, y4⟩
theorem q_let {M1 M2 : jxM} (h : q_base M1 M2) {e i : Int} (e1 : 0 ≤ e) (e2 : e < M2 2 0) (i1 : 0 ≤ i) (i2 : i < M2 2 (1 + 11 * e)) : M1 6 (e * 6 + i) = M2 2 (1 + 11 * e + 1 + i) := ((h.2.1.2.1 e e1 e2).2.1) i i1 i2
theorem q_begins {M1 M2 : jxM} (h : q_base M1 M2) {e : Int} (e1 : 0 ≤ e) (e2 : e < M2 2 0) : t_begins M1 e ↔ f_begins M2 e := by
  obtain ⟨z1, -⟩ := q_en h e1 e2
  obtain ⟨a1, a2, a3⟩ := h.1
  unfold t_begins f_begins
  rw [z1, a1]
  constructor
  · rintro ⟨y1, y2⟩
    exact ⟨y1, fun i i1 i2 => by rw [← a3 i i1 i2, ← q_let h e1 e2 i1 (by omega)]; exact (y2 i i1 i2).symm⟩
  · rintro ⟨y1, y2⟩
    exact ⟨y1, fun i i1 i2 => by rw [a3 i i1 i2, q_let h e1 e2 i1 (by omega)]; exact (y2 i i1 i2).symm⟩
theorem q_stands {M1 M2 : jxM} (h : q_base M1 M2) {e g : Int} (e1 : 0 ≤ e) (e2 : e < M2 2 0) (g1 : 0 ≤ g) : m_stands M1 e g ↔ f_stands (M2 2) e g := by
  obtain ⟨z1, -⟩ := q_en h e1 e2
  obtain ⟨-, -, -, -, a5, -⟩ := q_bs h
  have hin := h.2.1.2.2.2.2.2.1
  unfold m_stands f_stands
  rw [z1, a5]
  constructor
  · rintro ⟨y1, y2⟩
    exact ⟨y1, fun i i1 i2 => by rw [← q_let h e1 e2 i1 i2, y2 i i1 i2, hin (g + i) (by omega) (by omega), Int.add_assoc]⟩
  · rintro ⟨y1, y2⟩
    exact ⟨y1, fun i i1 i2 => by rw [q_let h e1 e2 i1 i2, y2 i i1 i2, hin (g + i) (by omega) (by omega), Int.add_assoc]⟩
theorem j_sum_eq {f g : Int → Int} (k : Nat) (h : ∀ i, 0 ≤ i → i < (k : Int) → f i = g i) : j_sum f k = j_sum g k := by
  induction k with
  | zero => rfl
  | succ k ih => simp only [j_sum]; rw [ih (fun i i1 i2 => h i i1 (by omega)), h k (by omega) (by omega)]
theorem q_same {M1 M2 : jxM} (h : q_base M1 M2) (r : Int) : q_pair M1 M2 (some (.inl r)) M1 (some (.inl r)) M2 := ⟨⟨r, rfl, rfl⟩, h, Or.inr (fun _ _ _ => rfl), Or.inr (fun _ _ _ _ => rfl)⟩
theorem q_same2 {M1 M2 : jxM} (h : q_base M1 M2) {r r' : Int} (e : r = r') : q_pair M1 M2 (some (.inl r)) M1 (some (.inl r')) M2 := by rw [e]; exact q_same h r'
/-- the text alone has changed -/
theorem q_base_txt {M1 M2 M1' M2' : jxM} (h : q_base M1 M2) (ht : q_txt M1' M2') (h1 : ∀ c x, 4 ≤ c → M1' c x = M1 c x) (h2 : ∀ c x, c = 2 ∨ c = 3 → M2' c x = M2 c x) (h3 : M2' 1 2 = M2 1 2) : q_base M1' M2' :=
  ⟨ht, q_rs_eq h.2.2.1 (q_rs_blk h.2.2.1 h.2.1 (q_blk_rfl (fun c x c1 _ => h1 c x c1))) (fun k _ _ => h2 2 k (Or.inl rfl)), q_ok_eq h.2.2.1 (fun k _ _ => h2 2 k (Or.inl rfl)), q_his_fr h.2.2.2 (fun c x c1 _ => h1 c x (by omega)) (fun x => h2 3 x (Or.inr rfl)) h3⟩
theorem pr_appendCharacter (d1 d2 : Nat) {M1 M2 : jxM} (h : q_base M1 M2) (a : Int) : jx_call jx_G1 jx_T (d1 + 2) 46 [.inr 1, .inl a] M1 (fun v M1' => jx_call jx_G2 jx_T (d2 + 2) 83 [.inr 1, .inl a] M2 (q_pair M1 M2 v M1')) := by
  obtain ⟨a1, a2, -⟩ := q_bs h
  intro X hX
  refine bk_C_appendCharacter_0 (d := d1) hX a M1 ⟨fun q => ⟨fun q2 => ?_, fun q2 => ?_⟩, fun q => ?_⟩
  · refine sp_T_push d1 a M1 (by omega) ⟨rfl, ?_⟩
    intro X2 hX2
    refine bk_F_appendCharacter_0 (d := d2) hX2 a M2 ⟨fun z => ⟨fun z2 => ⟨by omega, ?_⟩, fun z2 => by omega⟩, fun z => by omega⟩
    rw [jx_ups, a1]
    refine ⟨⟨_, rfl, rfl⟩, q_base_txt h ⟨by rw [jx_ups, jx_ups], by rw [jx_ups]; omega, fun i i1 i2 => ?_⟩ (fun c x hc => by rw [jx_upc (by omega), jx_upc (by omega)]) (fun c x hc => by rw [jx_upc (by omega), jx_upc (by omega)]) (by rw [jx_upx (by decide), jx_upc (by decide)]), Or.inr (fun c x hc => by rw [jx_upc (by omega), jx_upc (by omega)]), Or.inr (fun c x c1 c2 => ?_)⟩
    · rw [jx_ups] at i2
      rw [jx_upc (c := 2) (by decide), jx_upc (c := 1) (by decide)]
      rcases Int.lt_or_le i (M2 1 4) with z | z
      · rw [jx_upx (c := 3) (by omega), jx_upx (c := 4) (by omega)]; exact h.1.2.2 i i1 z
      · obtain rfl : i = M2 1 4 := by omega
        rw [jx_ups, jx_ups]
    · have e : jx_up (jx_up M2 4 (M2 1 4) a) 1 4 (M2 1 4 + 1) c x = jx_up M2 4 (M2 1 4) a c x := by
        by_cases z : c = 1
        · subst z; exact jx_upx (fun y => c2 ⟨rfl, y⟩)
        · exact jx_upc z
      rw [e, jx_upc c1]
  · intro X2 hX2
    exact bk_F_appendCharacter_0 (d := d2) hX2 a M2 ⟨fun z => ⟨fun z2 => by omega, fun z2 => q_same h _⟩, fun z => by omega⟩
  · intro X2 hX2
    exact bk_F_appendCharacter_0 (d := d2) hX2 a M2 ⟨fun z => by omega, fun z => q_same h _⟩
theorem pr_clearText (d1 d2 : Nat) {M1 M2 : jxM} (h : q_base M1 M2) : jx_call jx_G1 jx_T (d1 + 1) 47 [.inr 1] M1 (fun v M1' => jx_call jx_G2 jx_T (d2 + 1) 84 [.inr 1] M2 (q_pair M1 M2 v M1')) := by
  obtain ⟨a1, a2, -⟩ := q_bs h
  intro X hX
  refine bk_C_clearText_0 (d := d1) hX M1 ?_
  intro X2 hX2
  refine bk_F_clearText_0 (d := d2) hX2 M2 ?_
  rw [a1]
  refine ⟨⟨_, rfl, rfl⟩, q_base_txt h ⟨by rw [jx_ups, jx_ups], by rw [jx_ups]; omega, fun i i1 i2 => by rw [jx_ups] at i2; omega⟩ (fun c x hc => by rw [jx_upc (by omega)]) (fun c x hc => by rw [jx_upc (by omega)]) (by rw [jx_upx (by decide)]), Or.inr (fun c x hc => by rw [jx_upc (by omega)]), Or.inr (fun c x c1 c2 => ?_)⟩
  by_cases z : c = 1
  · subst z; exact jx_upx (fun y => c2 ⟨rfl, y⟩)
  · exact jx_upc z
theorem pr_entryCount (d1 d2 : Nat) {M1 M2 : jxM} (h : q_base M1 M2) : jx_call jx_G1 jx_T (d1 + 1) 50 [.inr 1] M1 (fun v M1' => jx_call jx_G2 jx_T (d2 + 1) 91 [.inr 1] M2 (q_pair M1 M2 v M1')) := by
  obtain ⟨-, -, a3, -⟩ := q_bs h
  intro X hX
  refine bk_C_entryCount_0 (d := d1) hX M1 ?_
  intro X2 hX2
  exact bk_F_entryCount_0 (d := d2) hX2 M2 (q_same2 h a3)
theorem pr_inputLength (d1 d2 : Nat) {M1 M2 : jxM} (h : q_base M1 M2) : jx_call jx_G1 jx_T (d1 + 1) 58 [.inr 1] M1 (fun v M1' => jx_call jx_G2 jx_T (d2 + 1) 101 [.inr 1] M2 (q_pair M1 M2 v M1')) := by
  obtain ⟨-, -, -, -, a5, -⟩ := q_bs h
  intro X hX
  refine bk_C_inputLength_0 (d := d1) hX M1 ?_
  intro X2 hX2
  exact bk_F_inputLength_0 (d := d2) hX2 M2 (q_same2 h a5)
theorem pr_wordOf (d1 d2 : Nat) {M1 M2 : jxM} (h : q_base M1 M2) (a : Int) : jx_call jx_G1 jx_T (d1 + 3) 51 [.inr 1, .inl a] M1 (fun v M1' => jx_call jx_G2 jx_T (d2 + 3) 92 [.inr 1, .inl a] M2 (q_pair M1 M2 v M1')) := by
  obtain ⟨-, -, a3, a4, -⟩ := q_bs h
  intro X hX
  refine bk_C_wordOf_0 (d := d1) hX a M1 ⟨by omega, fun q => ⟨by omega, ?_⟩, fun q => ?_⟩
  · intro X2 hX2
    refine bk_F_wordOf_0 (d := d2) hX2 a M2 ⟨by omega, fun z => by omega, fun z => ⟨by omega, q_same2 h ?_⟩⟩
    exact (q_en h z.1 z.2).2.2.1
  · intro X2 hX2
    exact bk_F_wordOf_0 (d := d2) hX2 a M2 ⟨by omega, fun z => q_same h _, fun z => by omega⟩
theorem pr_costOf (d1 d2 : Nat) {M1 M2 : jxM} (h : q_base M1 M2) (a : Int) : jx_call jx_G1 jx_T (d1 + 3) 52 [.inr 1, .inl a] M1 (fun v M1' => jx_call jx_G2 jx_T (d2 + 3) 94 [.inr 1, .inl a] M2 (q_pair M1 M2 v M1')) := by
  obtain ⟨-, -, a3, a4, -⟩ := q_bs h
  intro X hX
  refine bk_C_costOf_0 (d := d1) hX a M1 ⟨by omega, fun q => ?_, fun q => ?_⟩
  · obtain ⟨z1, z2, z3, z4, z5, z6, z7, z8, z9⟩ := q_en h (e := a) (by omega) (by omega)
    refine ⟨by omega, ?_⟩
    intro X2 hX2
    refine bk_F_costOf_0 (d := d2) hX2 a M2 ⟨by omega, fun z => by omega, fun z => ⟨by omega, q_same2 h ?_⟩⟩
    unfold f_price
    rw [z6, z8]
  · intro X2 hX2
    exact bk_F_costOf_0 (d := d2) hX2 a M2 ⟨by omega, fun z => q_same h _, fun z => by omega⟩
theorem pr_useCount (d1 d2 : Nat) {M1 M2 : jxM} (h : q_base M1 M2) (a : Int) : jx_call jx_G1 jx_T (d1 + 3) 53 [.inr 1, .inl a] M1 (fun v M1' => jx_call jx_G2 jx_T (d2 + 3) 95 [.inr 1, .inl a] M2 (q_pair M1 M2 v M1')) := by
  obtain ⟨-, -, a3, a4, -⟩ := q_bs h
  intro X hX
  refine bk_C_useCount_0 (d := d1) hX a M1 ⟨by omega, fun q => ⟨by omega, ?_⟩, fun q => ?_⟩
  · intro X2 hX2
    refine bk_F_useCount_0 (d := d2) hX2 a M2 ⟨by omega, fun z => by omega, fun z => ⟨by omega, q_same2 h ?_⟩⟩
    exact (q_en h z.1 z.2).2.2.2.2.2.2.2.1
  · intro X2 hX2
    exact bk_F_useCount_0 (d := d2) hX2 a M2 ⟨by omega, fun z => q_same h _, fun z => by omega⟩
theorem j_b01 (P : Int → Prop) (k : Nat) : 0 ≤ j_sum (fun e => jx_b (P e)) k ∧ j_sum (fun e => jx_b (P e)) k ≤ k := by
  have := j_sum_le (f := fun e => jx_b (P e)) (B := 1) k (fun i _ _ => by rcases jx_b01 (P i) with z | z <;> omega)
  omega
theorem j_step (f : Int → Int) {i : Int} (h : 0 ≤ i) : j_sum f (i + 1).toNat = j_sum f i.toNat + f i := by
  rw [show (i + 1).toNat = i.toNat + 1 by omega]
  simp only [j_sum]
  rw [show ((i.toNat : Nat) : Int) = i by omega]
theorem pr_entriesWithPrefix (d1 d2 : Nat) {M1 M2 : jxM} (h : q_base M1 M2) : jx_call jx_G1 jx_T (d1 + 2) 54 [.inr 1] M1 (fun v M1' => jx_call jx_G2 jx_T (d2 + 3) 96 [.inr 1] M2 (q_pair M1 M2 v M1')) := by
  obtain ⟨a1, a2, a3, a4, -⟩ := q_bs h
  intro X hX
  refine bk_C_entriesWithPrefix_0 (d := d1) hX M1 ?_
  refine jx_loop (σ := Int) (M1 5 6) (fun i s => 0 ≤ i ∧ i ≤ M1 5 6 ∧ s = j_sum (fun e => jx_b (t_begins M1 e)) i.toNat) (fun i s => X 8 [.inr 1, .inr 5, .inl s, .inl i] [] M1) ?_ 0 0 ⟨by omega, by omega, rfl⟩
  intro i s ⟨i1, i2, i3⟩ ih
  have hb := j_b01 (t_begins M1) i.toNat
  refine bk_C_entriesWithPrefix_8 (d := d1) hX s i M1 ⟨fun q => ?_, fun q => ⟨?_, fun q2 => ⟨by omega, ih _ q ⟨by omega, by omega, ?_⟩⟩, fun q2 => ⟨by omega, ih _ q ⟨by omega, by omega, ?_⟩⟩⟩⟩
  · intro X2 hX2
    refine bk_F_entriesWithPrefix_0 (d := d2) hX2 M2 ?_
    refine jx_loop (σ := Int) (M2 2 0) (fun i s => 0 ≤ i ∧ i ≤ M2 2 0 ∧ s = j_sum (fun e => jx_b (f_begins M2 e)) i.toNat) (fun i s => X2 4 [.inr 1, .inl s, .inl i] [] M2) ?_ 0 0 ⟨by omega, by omega, rfl⟩
    intro j t ⟨j1, j2, j3⟩ jh
    have hb2 := j_b01 (f_begins M2) j.toNat
    refine bk_F_entriesWithPrefix_4 (d := d2) hX2 t j M2 ⟨fun z => q_same2 h ?_, fun z => ⟨?_, fun z2 => ⟨by omega, jh _ z ⟨by omega, by omega, ?_⟩⟩, fun z2 => ⟨by omega, jh _ z ⟨by omega, by omega, ?_⟩⟩⟩⟩
    · rw [i3, j3, show i.toNat = j.toNat by omega]
      exact j_sum_eq _ (fun e e1 e2 => jx_bc (q_begins h e1 (by omega)))
    · have := q_en h j1 z
      omega
    · rw [j_step _ j1, jx_bf z2, j3]
    · rw [j_step _ j1, jx_bt z2, j3]
  · have := q_en h i1 (by omega)
    omega
  · rw [j_step _ i1, jx_bf q2, i3]; omega
  · rw [j_step _ i1, jx_bt q2, i3]
theorem pr_segmentsAt (d1 d2 : Nat) {M1 M2 : jxM} (h : q_base M1 M2) (g : Int) : jx_call jx_G1 jx_T (d1 + 3) 60 [.inr 1, .inl g] M1 (fun v M1' => jx_call jx_G2 jx_T (d2 + 3) 104 [.inr 1, .inl g] M2 (q_pair M1 M2 v M1')) := by
  obtain ⟨a1, a2, a3, a4, a5, a6, -⟩ := q_bs h
  intro X hX
  refine bk_C_segmentsAt_0 (d := d1) hX g M1 ⟨fun q0 => ?_, fun q0 => ?_⟩
  · refine jx_loop (σ := Int) (M1 5 6) (fun i s => 0 ≤ i ∧ i ≤ M1 5 6 ∧ s = j_sum (fun e => jx_b (m_stands M1 e g)) i.toNat) (fun i s => X 10 [.inr 1, .inl g, .inl s, .inl i] [] M1) ?_ 0 0 ⟨by omega, by omega, rfl⟩
    intro i s ⟨i1, i2, i3⟩ ih
    have hb := j_b01 (fun e => m_stands M1 e g) i.toNat
    refine bk_C_segmentsAt_10 (d := d1) hX g s i M1 ⟨fun q => ?_, fun q => ⟨?_, fun q2 => ⟨by omega, ih _ q ⟨by omega, by omega, ?_⟩⟩, fun q2 => ⟨by omega, ih _ q ⟨by omega, by omega, ?_⟩⟩⟩⟩
    · intro X2 hX2
      refine bk_F_segmentsAt_0 (d := d2) hX2 g M2 ⟨fun z0 => ?_, fun z0 => by omega⟩
      refine jx_loop (σ := Int) (M2 2 0) (fun i s => 0 ≤ i ∧ i ≤ M2 2 0 ∧ s = j_sum (fun e => jx_b (f_stands (M2 2) e g)) i.toNat) (fun i s => X2 14 [.inr 1, .inl g, .inl s, .inl i] [] M2) ?_ 0 0 ⟨by omega, by omega, rfl⟩
      intro j t ⟨j1, j2, j3⟩ jh
      have hb2 := j_b01 (fun e => f_stands (M2 2) e g) j.toNat
      refine bk_F_segmentsAt_14 (d := d2) hX2 g t j M2 ⟨fun z => q_same2 h ?_, fun z => ⟨?_, fun z2 => ⟨by omega, jh _ z ⟨by omega, by omega, ?_⟩⟩, fun z2 => ⟨by omega, jh _ z ⟨by omega, by omega, ?_⟩⟩⟩⟩
      · rw [i3, j3, show i.toNat = j.toNat by omega]
        exact j_sum_eq _ (fun e e1 e2 => jx_bc (q_stands h e1 (by omega) (by omega)))
      · have := q_en h j1 z
        omega
      · rw [j_step _ j1, jx_bf z2, j3]
      · rw [j_step _ j1, jx_bt z2, j3]
    · have := q_en h i1 (by omega)
      omega
    · rw [j_step _ i1, jx_bf q2, i3]; omega
    · rw [j_step _ i1, jx_bt q2, i3]
  · intro X2 hX2
    exact bk_F_segmentsAt_0 (d := d2) hX2 g M2 ⟨fun z => by omega, fun z => q_same h _⟩
theorem pr_undo (d1 d2 : Nat) {M1 M2 : jxM} (h : q_base M1 M2) : jx_call jx_G1 jx_T (d1 + 5) 71 [.inr 1] M1 (fun v M1' => jx_call jx_G2 jx_T (d2 + 1) 82 [.inr 1] M2 (q_pair M1 M2 v M1')) := by
  obtain ⟨a1, a2, a3, a4, a5, a6, a7, a8, a9, a10⟩ := q_bs h
  refine sp_C_undo d1 M1 (by omega) (fun q => ?_) (fun q M1' u => ?_)
  · exact sp_F_undo d2 M2 a9 (fun _ => q_same h _) (fun z => by omega)
  · refine sp_F_undo d2 M2 a9 (fun z => by omega) (fun z M2' w => ?_)
    obtain ⟨u1, u2, u3, u4, u5⟩ := u
    obtain ⟨w1, w2, w3, w4, w5⟩ := w
    obtain ⟨⟨t1, t2, t3⟩, hrs, hok, b1, b2, b3, b4⟩ := h
    have hl : (if M1 15 1 = 0 then (5 : Int) else M1 15 1 - 1) = (M1 15 1 - M2 1 2 + (M2 1 2 - 1)) % 6 := by
      by_cases y : M1 15 1 = 0
      · rw [if_pos y]; omega
      · rw [if_neg y]; omega
    rw [hl] at u3 u5
    obtain ⟨d1', d2'⟩ := b4 (M2 1 2 - 1) (by omega) (by omega)
    refine ⟨⟨_, rfl, by rw [a8]⟩, ⟨⟨?_, ?_, ?_⟩, ?_, ?_, ?_, ?_, ?_, ?_⟩, Or.inl u2, Or.inl w3⟩
    · rw [u1 2 1 (by omega) (by omega), w2 4 (by decide) (by decide)]; exact t1
    · rw [w2 4 (by decide) (by decide)]; exact t2
    · intro i i1 i2
      rw [w2 4 (by decide) (by decide)] at i2
      rw [u1 3 i (by omega) (by omega), w1 4 i (by decide) (by decide)]; exact t3 i i1 i2
    · exact q_rs_eq d2' (q_rs_blk d2' d1' u5) (fun k k1 k2 => w5 k k1 k2)
    · exact q_ok_eq d2' (fun k k1 k2 => w5 k k1 k2)
    · rw [u4, w4, b1]
    · omega
    · omega
    · intro j j1 j2
      rw [w4] at j2
      obtain ⟨c1, c2⟩ := b4 j j1 (by omega)
      rw [u3, w4, show ((M1 15 1 - M2 1 2 + (M2 1 2 - 1)) % 6 - (M2 1 2 - 1) + j) % 6 = (M1 15 1 - M2 1 2 + j) % 6 by omega]
      exact ⟨q_rs_eq c2 (q_rs_blk c2 c1 (q_blk_rfl (fun c x y1 y2 => u1 c x (by omega) (by omega)))) (fun k _ _ => w1 3 _ (by decide) (by decide)), q_ok_eq c2 (fun k _ _ => w1 3 _ (by decide) (by decide))⟩
end
section
theorem q_edit_base {M1 M2 M1' M2' : jxM} (h : q_base M1 M2) (h1 : q_edit M1 M1') (h2 : q_save M2 M2') : q_base M1' M2' ∧ M1' 1 5 = 1 ∧ M2' 1 5 = 0 := by
  have hh := q_his_edit h h1 h2
  obtain ⟨⟨t1, t2, t3⟩, hrs, hok, -⟩ := h
  obtain ⟨e1, e2, -⟩ := h1
  obtain ⟨s1, s2, s3, -⟩ := h2
  refine ⟨⟨⟨?_, ?_, fun i i1 i2 => ?_⟩, ?_, ?_, hh⟩, e2, s3⟩
  · rw [e1 2 1 (by omega) (by omega), s2 4 (by decide) (by decide)]; exact t1
  · rw [s2 4 (by decide) (by decide)]; exact t2
  · rw [s2 4 (by decide) (by decide)] at i2
    rw [e1 3 i (by omega) (by omega), s1 4 i (by decide) (by decide)]; exact t3 i i1 i2
  · exact q_rs_eq hok (q_rs_blk hok hrs (q_blk_rfl (fun c x c1 c2 => e1 c x (by omega) (by omega)))) (fun k _ _ => s1 2 k (by decide) (by decide))
  · exact q_ok_eq hok (fun k _ _ => s1 2 k (by decide) (by decide))
theorem q_mod {M1 M2 M1' M2' : jxM} (h : q_base M1 M2) (ht : q_txt M1' M2') (hr : q_rs M1' 4 (M2' 2)) (ho : q_ok (M2' 2)) (f1 : ∀ c x, 15 ≤ c → c ≤ 82 → M1' c x = M1 c x) (f2 : ∀ x, M2' 3 x = M2 3 x) (f3 : M2' 1 2 = M2 1 2) : q_base M1' M2' := ⟨ht, hr, ho, q_his_fr h.2.2.2 f1 f2 f3⟩
theorem q_txt_fr {M1 M2 M1' M2' : jxM} (h : q_txt M1 M2) (f1 : ∀ c x, c = 2 ∨ c = 3 → M1' c x = M1 c x) (f2 : M2' 1 4 = M2 1 4) (f3 : ∀ x, M2' 4 x = M2 4 x) : q_txt M1' M2' := by
  obtain ⟨a, b, c⟩ := h
  exact ⟨by rw [f1 2 1 (Or.inl rfl), f2]; exact a, by rw [f2]; exact b, fun i i1 i2 => by rw [f1 3 i (Or.inr rfl), f3 i]; exact c i i1 (by rw [← f2]; exact i2)⟩
theorem sp_F_changed (d : Nat) (p v : Int) (M : jxM) (h1 : (0 ≤ M 1 2 ∧ M 1 2 ≤ 6) ∧ 0 ≤ p ∧ p < 305) {K : jxK} (h : ∀ Ms, q_save M Ms → K (some (.inl (Ms 2 p))) (jx_up Ms 2 p v)) : jx_call jx_G2 jx_T (d + 2) 97 [.inr 1, .inl p, .inl v] M K := by
  intro X hX
  refine bk_F_changed_0 (d := d) hX p v M ?_
  exact sp_F_save d M h1.1 (fun Ms hs => ⟨rfl, by omega, h Ms hs⟩)
/-- one place of the state is set on both sides -/
theorem q_set {M1 M2 : jxM} (h : q_base M1 M2) {c : Nat} {x p v : Int} (hc : 4 ≤ c ∧ c ≤ 14) (hr : q_rs (jx_up M1 c x v) 4 (jx_up M2 2 p v 2)) (ho : q_ok (jx_up M2 2 p v 2)) : q_base (jx_up M1 c x v) (jx_up M2 2 p v) :=
  q_mod h (q_txt_fr h.1 (fun c' x' z => jx_upc (by omega)) (jx_upc (by decide)) (fun x' => jx_upc (by decide))) hr ho (fun c' x' _ _ => jx_upc (by omega)) (fun x' => jx_upc (by decide)) (jx_upc (by decide))
theorem q_upA {M : jxM} {p v k : Int} : jx_up M 2 p v 2 k = if k = p then v else M 2 k := by
  by_cases z : k = p
  · rw [if_pos z, z, jx_ups]
  · rw [if_neg z, jx_upx z]
theorem pr_setConnection (d1 d2 : Nat) {M1 M2 : jxM} (h : q_base M1 M2) (a b k : Int) : jx_call jx_G1 jx_T (d1 + 6) 55 [.inr 1, .inl a, .inl b, .inl k] M1 (fun v M1' => jx_call jx_G2 jx_T (d2 + 3) 98 [.inr 1, .inl a, .inl b, .inl k] M2 (q_pair M1 M2 v M1')) := by
  obtain ⟨a1, a2, a3, a4, a5, a6, a7, a8, a9, a10⟩ := q_bs h
  have bad : ¬ (0 ≤ a ∧ a ≤ 6 ∧ 0 ≤ b ∧ b ≤ 6 ∧ 0 ≤ k ∧ k ≤ 99) → jx_call jx_G2 jx_T (d2 + 3) 98 [.inr 1, .inl a, .inl b, .inl k] M2 (q_pair M1 M2 (some (.inl (-1))) M1) := by
    intro z X2 hX2
    exact bk_F_setConnection_0 (d := d2) hX2 a b k M2 ⟨fun _ => q_same h _, fun y1 => ⟨fun _ => q_same h _, fun y2 => ⟨fun _ => q_same h _, fun y3 => absurd ⟨y1.1, y1.2, y2.1, y2.2, y3.1, y3.2⟩ z⟩⟩⟩
  intro X hX
  refine bk_C_setConnection_0 (d := d1) hX a b k M1 ⟨fun q => bad (by omega), fun q => ⟨fun q2 => bad (by omega), fun q2 => ⟨fun q3 => ?_, fun q3 => bad (by omega)⟩⟩⟩
  refine sp_C_beginEdit d1 M1 (by omega) (fun N1 ed => ⟨rfl, by omega, ?_⟩)
  intro X2 hX2
  refine bk_F_setConnection_0 (d := d2) hX2 a b k M2 ⟨fun z => by omega, fun z => ⟨fun z2 => by omega, fun z2 => ⟨fun z3 => by omega, fun z3 => ⟨by omega, ?_⟩⟩⟩⟩
  refine sp_F_changed d2 _ k M2 (by omega) (fun N2 sv => ⟨_, rfl, ?_⟩)
  obtain ⟨hb, f1, f2⟩ := q_edit_base h ed sv
  have hcon := hb.2.1.2.2.1 (a * 7 + b) (by omega) (by omega)
  have hco : N1 12 (a * 7 + b) = N2 2 (221 + 7 * a + b) := by rw [hcon]; congr 1; omega
  refine ⟨⟨_, rfl, by rw [hco]⟩, q_set hb (by decide) ?_ ?_, Or.inl (by rw [jx_upc (by decide)]; exact f1), Or.inl (by rw [jx_upc (by decide)]; exact f2)⟩
  · obtain ⟨r1, r2, r3, r4, r5, r6, r7⟩ := hb.2.1
    obtain ⟨o1, o2, o3, o4, o5, o6⟩ := hb.2.2.1
    refine ⟨?_, fun e e1 e2 => ?_, fun j j1 j2 => ?_, ?_, ?_, fun i i1 i2 => ?_, fun g g1 g2 => ?_⟩
    · rw [jx_upc (by decide), q_upA, if_neg (by omega)]; exact r1
    · rw [q_upA, if_neg (by omega)] at e2
      obtain ⟨y1, y2, y3, y4, y5, y6⟩ := r2 e e1 e2
      have ol := (o2 e e1 e2).1
      simp only [q_upA]
      rw [if_neg (by omega), if_neg (by omega), if_neg (by omega), if_neg (by omega), if_neg (by omega)]
      refine ⟨by rw [jx_upc (by decide)]; exact y1, fun i i1 i2 => ?_, by rw [jx_upc (by decide)]; exact y3, by rw [jx_upc (by decide)]; exact y4, by rw [jx_upc (by decide)]; exact y5, by rw [jx_upc (by decide)]; exact y6⟩
      rw [if_neg (by omega), jx_upc (by decide)]
      exact y2 i i1 i2
    · rw [q_upA]
      by_cases z : j = a * 7 + b
      · rw [if_pos (by omega), z]; exact jx_ups
      · rw [if_neg (by omega)]; exact (jx_upx z).trans (r3 j j1 j2)
    · rw [q_upA, if_neg (by omega), jx_upc (by decide)]; exact r4
    · rw [q_upA, if_neg (by omega), jx_upc (by decide)]; exact r5
    · rw [q_upA, if_neg (by omega)] at i2
      rw [q_upA, if_neg (by omega), jx_upc (by decide)]; exact r6 i i1 i2
    · rw [q_upA, if_neg (by omega), jx_upc (by decide)]; exact r7 g g1 g2
  · obtain ⟨o1, o2, o3, o4, o5, o6⟩ := hb.2.2.1
    refine ⟨by rw [q_upA, if_neg (by omega)]; exact o1, fun e e1 e2 => ?_, fun j j1 j2 => ?_, by rw [q_upA, if_neg (by omega)]; exact o4, by rw [q_upA, if_neg (by omega)]; exact o5, fun g g1 g2 => ?_⟩
    · rw [q_upA, if_neg (by omega)] at e2
      have := o2 e e1 e2
      simp only [q_upA]
      rw [if_neg (by omega), if_neg (by omega), if_neg (by omega), if_neg (by omega)]
      exact this
    · rw [q_upA]
      have := o3 j j1 j2
      split <;> omega
    · rw [q_upA, if_neg (by omega), q_upA, if_neg (by omega)]; exact o6 g g1 g2
theorem pr_setUnknownCost (d1 d2 : Nat) {M1 M2 : jxM} (h : q_base M1 M2) (k : Int) : jx_call jx_G1 jx_T (d1 + 6) 56 [.inr 1, .inl k] M1 (fun v M1' => jx_call jx_G2 jx_T (d2 + 3) 99 [.inr 1, .inl k] M2 (q_pair M1 M2 v M1')) := by
  obtain ⟨a1, a2, a3, a4, a5, a6, a7, a8, a9, a10⟩ := q_bs h
  intro X hX
  refine bk_C_setUnknownCost_0 (d := d1) hX k M1 ⟨fun q => ?_, fun q => ?_⟩
  · refine sp_C_beginEdit d1 M1 (by omega) (fun N1 ed => ⟨rfl, ?_⟩)
    intro X2 hX2
    refine bk_F_setUnknownCost_0 (d := d2) hX2 k M2 ⟨fun z => by omega, fun z => ?_⟩
    refine sp_F_changed d2 _ k M2 (by omega) (fun N2 sv => ⟨_, rfl, ?_⟩)
    obtain ⟨hb, f1, f2⟩ := q_edit_base h ed sv
    refine ⟨⟨_, rfl, by rw [hb.2.1.2.2.2.1]⟩, q_set hb (by decide) ?_ ?_, Or.inl (by rw [jx_upc (by decide)]; exact f1), Or.inl (by rw [jx_upc (by decide)]; exact f2)⟩
    · obtain ⟨r1, r2, r3, r4, r5, r6, r7⟩ := hb.2.1
      obtain ⟨o1, o2, o3, o4, o5, o6⟩ := hb.2.2.1
      refine ⟨?_, fun e e1 e2 => ?_, fun j j1 j2 => ?_, ?_, ?_, fun i i1 i2 => ?_, fun g g1 g2 => ?_⟩
      · rw [jx_upc (by decide), q_upA, if_neg (by omega)]; exact r1
      · rw [q_upA, if_neg (by omega)] at e2
        obtain ⟨y1, y2, y3, y4, y5, y6⟩ := r2 e e1 e2
        have ol := (o2 e e1 e2).1
        simp only [q_upA]
        rw [if_neg (by omega), if_neg (by omega), if_neg (by omega), if_neg (by omega), if_neg (by omega)]
        refine ⟨by rw [jx_upc (by decide)]; exact y1, fun i i1 i2 => ?_, by rw [jx_upc (by decide)]; exact y3, by rw [jx_upc (by decide)]; exact y4, by rw [jx_upc (by decide)]; exact y5, by rw [jx_upc (by decide)]; exact y6⟩
        rw [if_neg (by omega), jx_upc (by decide)]
        exact y2 i i1 i2
      · rw [q_upA, if_neg (by omega), jx_upc (by decide)]; exact r3 j j1 j2
      · rw [q_upA, if_pos rfl]; exact jx_ups
      · rw [q_upA, if_neg (by omega), jx_upx (by decide)]; exact r5
      · rw [q_upA, if_neg (by omega)] at i2
        rw [q_upA, if_neg (by omega), jx_upc (by decide)]; exact r6 i i1 i2
      · rw [q_upA, if_neg (by omega), jx_upc (by decide)]; exact r7 g g1 g2
    · obtain ⟨o1, o2, o3, o4, o5, o6⟩ := hb.2.2.1
      refine ⟨by rw [q_upA, if_neg (by omega)]; exact o1, fun e e1 e2 => ?_, fun j j1 j2 => ?_, by rw [q_upA, if_pos rfl]; omega, by rw [q_upA, if_neg (by omega)]; exact o5, fun g g1 g2 => ?_⟩
      · rw [q_upA, if_neg (by omega)] at e2
        have := o2 e e1 e2
        simp only [q_upA]
        rw [if_neg (by omega), if_neg (by omega), if_neg (by omega), if_neg (by omega)]
        exact this
      · rw [q_upA, if_neg (by omega)]; exact o3 j j1 j2
      · rw [q_upA, if_neg (by omega), q_upA, if_neg (by omega)]; exact o6 g g1 g2
  · intro X2 hX2
    exact bk_F_setUnknownCost_0 (d := d2) hX2 k M2 ⟨fun z => q_same h _, fun z => by omega⟩
theorem pr_setConstraint (d1 d2 : Nat) {M1 M2 : jxM} (h : q_base M1 M2) (g k : Int) : jx_call jx_G1 jx_T (d1 + 6) 59 [.inr 1, .inl g, .inl k] M1 (fun v M1' => jx_call jx_G2 jx_T (d2 + 3) 102 [.inr 1, .inl g, .inl k] M2 (q_pair M1 M2 v M1')) := by
  obtain ⟨a1, a2, a3, a4, a5, a6, a7, a8, a9, a10⟩ := q_bs h
  have bad : ¬ (1 ≤ g ∧ g ≤ M2 2 271 - 1 ∧ 0 ≤ k ∧ k ≤ 2) → jx_call jx_G2 jx_T (d2 + 3) 102 [.inr 1, .inl g, .inl k] M2 (q_pair M1 M2 (some (.inl (-1))) M1) := by
    intro z X2 hX2
    exact bk_F_setConstraint_0 (d := d2) hX2 g k M2 ⟨by omega, fun _ => q_same h _, fun y1 => ⟨fun _ => q_same h _, fun y2 => absurd ⟨y1.1, y1.2, y2.1, y2.2⟩ z⟩⟩
  intro X hX
  refine bk_C_setConstraint_0 (d := d1) hX g k M1 ⟨by omega, fun q => bad (by omega), fun q => ⟨fun q2 => ?_, fun q2 => bad (by omega)⟩⟩
  refine sp_C_beginEdit d1 M1 (by omega) (fun N1 ed => ⟨rfl, by omega, ?_⟩)
  intro X2 hX2
  refine bk_F_setConstraint_0 (d := d2) hX2 g k M2 ⟨by omega, fun z => by omega, fun z => ⟨fun z2 => by omega, fun z2 => ⟨by omega, ?_⟩⟩⟩
  refine sp_F_changed d2 _ k M2 (by omega) (fun N2 sv => ⟨_, rfl, ?_⟩)
  obtain ⟨hb, f1, f2⟩ := q_edit_base h ed sv
  have e271 : N2 2 271 = M2 2 271 := sv.1 2 271 (by decide) (by decide)
  refine ⟨⟨_, rfl, by rw [← hb.2.1.2.2.2.2.2.2 g (by omega) (by omega)]⟩, q_set hb (by decide) ?_ ?_, Or.inl (by rw [jx_upc (by decide)]; exact f1), Or.inl (by rw [jx_upc (by decide)]; exact f2)⟩
  · obtain ⟨r1, r2, r3, r4, r5, r6, r7⟩ := hb.2.1
    obtain ⟨o1, o2, o3, o4, o5, o6⟩ := hb.2.2.1
    refine ⟨?_, fun e e1 e2 => ?_, fun j j1 j2 => ?_, ?_, ?_, fun i i1 i2 => ?_, fun j j1 j2 => ?_⟩
    · rw [jx_upc (by decide), q_upA, if_neg (by omega)]; exact r1
    · rw [q_upA, if_neg (by omega)] at e2
      obtain ⟨y1, y2, y3, y4, y5, y6⟩ := r2 e e1 e2
      have ol := (o2 e e1 e2).1
      simp only [q_upA]
      rw [if_neg (by omega), if_neg (by omega), if_neg (by omega), if_neg (by omega), if_neg (by omega)]
      refine ⟨by rw [jx_upc (by decide)]; exact y1, fun i i1 i2 => ?_, by rw [jx_upc (by decide)]; exact y3, by rw [jx_upc (by decide)]; exact y4, by rw [jx_upc (by decide)]; exact y5, by rw [jx_upc (by decide)]; exact y6⟩
      rw [if_neg (by omega), jx_upc (by decide)]
      exact y2 i i1 i2
    · rw [q_upA, if_neg (by omega), jx_upc (by decide)]; exact r3 j j1 j2
    · rw [q_upA, if_neg (by omega), jx_upc (by decide)]; exact r4
    · rw [q_upA, if_neg (by omega), jx_upc (by decide)]; exact r5
    · rw [q_upA, if_neg (by omega)] at i2
      rw [q_upA, if_neg (by omega), jx_upc (by decide)]; exact r6 i i1 i2
    · rw [q_upA]
      by_cases z : j = g
      · rw [if_pos (by omega), z]; exact jx_ups
      · rw [if_neg (by omega)]; exact (jx_upx z).trans (r7 j j1 j2)
  · obtain ⟨o1, o2, o3, o4, o5, o6⟩ := hb.2.2.1
    refine ⟨by rw [q_upA, if_neg (by omega)]; exact o1, fun e e1 e2 => ?_, fun j j1 j2 => ?_, by rw [q_upA, if_neg (by omega)]; exact o4, by rw [q_upA, if_neg (by omega)]; exact o5, fun j j1 j2 => ?_⟩
    · rw [q_upA, if_neg (by omega)] at e2
      have := o2 e e1 e2
      simp only [q_upA]
      rw [if_neg (by omega), if_neg (by omega), if_neg (by omega), if_neg (by omega)]
      exact this
    · rw [q_upA, if_neg (by omega)]; exact o3 j j1 j2
    · have := o6 j j1 j2
      simp only [q_upA]
      rw [if_neg (show ¬ (271 : Int) = 288 + g by omega)]
      split <;> omega
-- ===== the input =====
theorem t_err_two (f f' : Int → Int) (lim : Int) {n1 n2 : Int} (h1 : n1 < 0) (h2 : n2 < 0) : ∀ (k : Nat) (i : Int), 0 ≤ i → (∀ j, i ≤ j → j < i + k → f j = f' j) → (t_err f lim n1 i k = n1 ∧ t_err f' lim n2 i k = n2 ∧ (0 < k → i + k ≤ lim)) ∨ (t_err f lim n1 i k = t_err f' lim n2 i k ∧ i ≤ t_err f lim n1 i k ∧ t_err f lim n1 i k < i + k) := by
  intro k
  induction k with
  | zero => intro i _ _; exact Or.inl ⟨rfl, rfl, fun z => by omega⟩
  | succ k ih =>
    intro i hi hf
    have e := hf i (by omega) (by omega)
    simp only [t_err]
    rw [← e]
    by_cases hc : lim ≤ i ∨ f i < 97 ∨ 122 < f i
    · rw [if_pos hc, if_pos hc]
      exact Or.inr ⟨rfl, by omega, by omega⟩
    · rw [if_neg hc, if_neg hc]
      rcases ih (i + 1) (by omega) (fun j j1 j2 => hf j (by omega) (by omega)) with ⟨y1, y2, y3⟩ | ⟨y1, y2, y3⟩
      · refine Or.inl ⟨y1, y2, fun _ => ?_⟩
        by_cases hk : 0 < k
        · have := y3 hk; omega
        · omega
      · exact Or.inr ⟨y1, by omega, by omega⟩
theorem q_err {M1 M2 : jxM} (h : q_base M1 M2) (lim : Int) : (t_err (M1 3) lim (-1) 0 (M1 2 1).toNat = -1 ∧ t_err (M2 4) lim (-9) 0 (M2 1 4).toNat = -9 ∧ (0 < M2 1 4 → M2 1 4 ≤ lim)) ∨ (t_err (M1 3) lim (-1) 0 (M1 2 1).toNat = t_err (M2 4) lim (-9) 0 (M2 1 4).toNat ∧ 0 ≤ t_err (M1 3) lim (-1) 0 (M1 2 1).toNat ∧ t_err (M1 3) lim (-1) 0 (M1 2 1).toNat < 20) := by
  obtain ⟨a1, a2, a3⟩ := h.1
  rw [a1]
  rcases t_err_two (M1 3) (M2 4) lim (n1 := -1) (n2 := -9) (by omega) (by omega) (M2 1 4).toNat 0 (by omega) (fun j j1 j2 => a3 j j1 (by omega)) with ⟨y1, y2, y3⟩ | ⟨y1, y2, y3⟩
  · exact Or.inl ⟨y1, y2, fun z => by have := y3 (by omega); omega⟩
  · exact Or.inr ⟨y1, y2, by omega⟩
theorem sp_F_setInput (d : Nat) (M : jxM) (h1 : (0 ≤ M 1 4 ∧ M 1 4 ≤ 20) ∧ (0 ≤ M 1 2 ∧ M 1 2 ≤ 6)) {K : jxK} (he : t_err (M 4) 16 (-9) 0 (M 1 4).toNat ≠ -9 → (0 ≤ t_err (M 4) 16 (-9) 0 (M 1 4).toNat ∧ t_err (M 4) 16 (-9) 0 (M 1 4).toNat < 20) ∧ K (some (.inl (-10 - t_err (M 4) 16 (-9) 0 (M 1 4).toNat))) M)
    (h : t_err (M 4) 16 (-9) 0 (M 1 4).toNat = -9 → M 1 4 ≤ 16 ∧ ∀ Ms M', q_save M Ms → (∀ c x, c ≠ 2 → ¬ (c = 1 ∧ x = 4) → M' c x = Ms c x) → M' 1 4 = 0 → (∀ k, k < 271 → M' 2 k = Ms 2 k) → M' 2 271 = M 1 4 → (∀ i, 0 ≤ i → i < M 1 4 → M' 2 (272 + i) = M 4 i) → (∀ g, 0 ≤ g → g ≤ 16 → M' 2 (288 + g) = 0) → K (some (.inl (M 1 4))) M') : jx_call jx_G2 jx_T (d + 3) 100 [.inr 1] M K := by
  intro X hX
  refine bk_F_setInput_0 (d := d) hX M ⟨by omega, fun q => ?_, fun q => ⟨by have := he q; omega, (he q).2⟩⟩
  obtain ⟨hm, hk⟩ := h q
  refine sp_F_save (d + 1) M h1.2 (fun Ms sv => ⟨rfl, ?_⟩)
  have e14 : Ms 1 4 = M 1 4 := sv.2.1 4 (by decide) (by decide)
  rw [q]
  refine jx_loop (σ := jxM) 16 (fun i N => 0 ≤ i ∧ i ≤ 16 ∧ (∀ c x, c ≠ 2 → N c x = Ms c x) ∧ (∀ k, k < 271 → N 2 k = Ms 2 k) ∧ N 2 271 = M 1 4 ∧ (∀ j, 0 ≤ j → j < i → j < M 1 4 → N 2 (272 + j) = M 4 j)) (fun i N => X 21 [.inr 1, .inl (-9), .inl i] [] N) ?_ 0 _ ⟨by omega, by omega, fun c x hc => jx_upc hc, fun k hk => jx_upx (by omega), by rw [jx_ups, e14], fun j _ _ _ => by omega⟩
  intro i N ⟨i1, i2, i3, i4, i5, i6⟩ ih
  have n14 : N 1 4 = M 1 4 := (i3 1 4 (by decide)).trans e14
  refine bk_F_setInput_21 (d := d) hX (-9) i N ⟨fun q2 => ?_, fun q2 => ⟨by omega, fun q3 => ⟨by omega, ih _ q2 ⟨by omega, by omega, fun c x hc => ?_, fun k hk => ?_, ?_, fun j j1 j2 j3 => ?_⟩⟩, fun q3 => ⟨by omega, ih _ q2 ⟨by omega, by omega, fun c x hc => ?_, fun k hk => ?_, ?_, fun j j1 j2 j3 => ?_⟩⟩⟩⟩
  · refine jx_loop (σ := jxM) 17 (fun g N => 0 ≤ g ∧ g ≤ 17 ∧ (∀ c x, c ≠ 2 → N c x = Ms c x) ∧ (∀ k, k < 271 → N 2 k = Ms 2 k) ∧ N 2 271 = M 1 4 ∧ (∀ j, 0 ≤ j → j < M 1 4 → N 2 (272 + j) = M 4 j) ∧ (∀ j, 0 ≤ j → j < g → N 2 (288 + j) = 0)) (fun g N => X 44 [.inr 1, .inl (-9), .inl g] [] N) ?_ 0 N ⟨by omega, by omega, i3, i4, i5, fun j j1 j2 => i6 j j1 (by omega) j2, fun j _ _ => by omega⟩
    intro g N2 ⟨g1, g2, g3, g4, g5, g6, g7⟩ jh
    refine bk_F_setInput_44 (d := d) hX (-9) g N2 ⟨fun z => ?_, fun z => ⟨by omega, jh _ (by omega) ⟨by omega, by omega, fun c x hc => ?_, fun k hk => ?_, ?_, fun j j1 j2 => ?_, fun j j1 j2 => ?_⟩⟩⟩
    · rw [g5]
      refine hk Ms _ sv (fun c x c1 c2 => ?_) jx_ups (fun k hk2 => ?_) ?_ (fun j j1 j2 => ?_) (fun j j1 j2 => ?_)
      · by_cases y : c = 1
        · subst y; rw [jx_upx (fun w => c2 ⟨rfl, w⟩)]; exact g3 _ _ c1
        · rw [jx_upc y]; exact g3 _ _ c1
      · rw [jx_upc (by decide)]; exact g4 k hk2
      · rw [jx_upc (by decide)]; exact g5
      · rw [jx_upc (by decide)]; exact g6 j j1 j2
      · rw [jx_upc (by decide)]; exact g7 j j1 (by omega)
    · rw [jx_upc hc]; exact g3 c x hc
    · rw [jx_upx (by omega)]; exact g4 k hk
    · rw [jx_upx (by omega)]; exact g5
    · rw [jx_upx (by omega)]; exact g6 j j1 j2
    · rcases Int.lt_or_le j g with y | y
      · rw [jx_upx (by omega)]; exact g7 j j1 y
      · obtain rfl : j = g := by omega
        rw [jx_ups]
  · rw [jx_upc hc]; exact i3 c x hc
  · rw [jx_upx (by omega)]; exact i4 k hk
  · rw [jx_upx (by omega)]; exact i5
  · rw [jx_upx (by omega)]; exact i6 j j1 (by omega) j3
  · rw [jx_upc hc]; exact i3 c x hc
  · rw [jx_upx (by omega)]; exact i4 k hk
  · rw [jx_upx (by omega)]; exact i5
  · rcases Int.lt_or_le j i with y | y
    · rw [jx_upx (by omega)]; exact i6 j j1 y j3
    · obtain rfl : j = i := by omega
      rw [jx_ups, i3 4 _ (by decide)]
      exact sv.1 4 _ (by decide) (by decide)
theorem pr_setInput (d1 d2 : Nat) {M1 M2 : jxM} (h : q_base M1 M2) : jx_call jx_G1 jx_T (d1 + 6) 57 [.inr 1] M1 (fun v M1' => jx_call jx_G2 jx_T (d2 + 3) 100 [.inr 1] M2 (q_pair M1 M2 v M1')) := by
  obtain ⟨a1, a2, a3, a4, a5, a6, a7, a8, a9, a10⟩ := q_bs h
  have hE := q_err h 16
  intro X hX
  refine bk_C_setInput_0 (d := d1) hX M1 ⟨by omega, fun q => ?_, fun q => ⟨by omega, ?_⟩⟩
  · refine sp_C_beginEdit d1 M1 (by omega) (fun N1 ed => ⟨rfl, ?_⟩)
    have e21 : N1 2 1 = M1 2 1 := ed.1 2 1 (by omega) (by omega)
    have hm : M2 1 4 ≤ 16 := by omega
    refine sp_M_takeInput (d1 + 3) N1 (by omega) ⟨rfl, ?_⟩
    refine sp_F_setInput d2 M2 (by omega) (fun z => by omega) (fun z => ⟨hm, fun N2 M' sv m1 m2 m3 m4 m5 m6 => ?_⟩)
    obtain ⟨hb, f1, f2⟩ := q_edit_base h ed sv
    have fi : ∀ (N : jxM) (c : Nat) (x : Int), c ≠ 14 → jx_fi N 14 17 0 c x = N c x := fun N c x hc => by unfold jx_fi; rw [if_neg (fun y => hc y.1)]
    refine ⟨⟨_, rfl, ?_⟩, q_mod hb ⟨?_, ?_, fun i i1 i2 => ?_⟩ ?_ ?_ (fun c x c1 c2 => ?_) (fun x => m1 3 x (by decide) (by omega)) (m1 1 2 (by decide) (by omega)), Or.inl ?_, Or.inl ?_⟩
    · rw [fi _ _ _ (by decide), jx_ups, e21, a1]
    · rw [jx_ups, m2]
    · rw [m2]; omega
    · rw [m2] at i2; omega
    · obtain ⟨r1, r2, r3, r4, r5, r6, r7⟩ := hb.2.1
      obtain ⟨o1, o2, o3, o4, o5, o6⟩ := hb.2.2.1
      have out : ∀ (c : Nat) (x : Int), 4 ≤ c → c ≠ 14 → c ≠ 13 → ¬ (c = 4 ∧ x = 5) → jx_up (jx_fi (jx_up (jx_cp N1 3 0 13 0 (N1 2 1)) 4 5 (N1 2 1)) 14 17 0) 2 1 0 c x = N1 c x := by
        intro c x c1 c2 c3 c4
        rw [jx_upc (by omega), fi _ _ _ c2]
        by_cases y : c = 4
        · subst y; rw [jx_upx (fun w => c4 ⟨rfl, w⟩), jx_cpc c3]
        · rw [jx_upc y, jx_cpc c3]
      refine ⟨?_, fun e e1 e2 => ?_, fun j j1 j2 => ?_, ?_, ?_, fun i i1 i2 => ?_, fun g g1 g2 => ?_⟩
      · rw [out 5 6 (by decide) (by decide) (by decide) (by omega), m3 0 (by omega)]; exact r1
      · rw [m3 0 (by omega)] at e2
        obtain ⟨y1, y2, y3, y4, y5, y6⟩ := r2 e e1 e2
        have ol := (o2 e e1 e2).1
        rw [m3 (1 + 11 * e) (by omega), m3 (1 + 11 * e + 7) (by omega), m3 (1 + 11 * e + 8) (by omega), m3 (1 + 11 * e + 9) (by omega), m3 (1 + 11 * e + 10) (by omega)]
        refine ⟨by rw [out 7 e (by decide) (by decide) (by decide) (by omega)]; exact y1, fun i i1 i2 => ?_, by rw [out 8 e (by decide) (by decide) (by decide) (by omega)]; exact y3, by rw [out 9 e (by decide) (by decide) (by decide) (by omega)]; exact y4, by rw [out 10 e (by decide) (by decide) (by decide) (by omega)]; exact y5, by rw [out 11 e (by decide) (by decide) (by decide) (by omega)]; exact y6⟩
        rw [out 6 _ (by decide) (by decide) (by decide) (by omega), m3 (1 + 11 * e + 1 + i) (by omega)]
        exact y2 i i1 i2
      · rw [out 12 j (by decide) (by decide) (by decide) (by omega), m3 (221 + j) (by omega)]; exact r3 j j1 j2
      · rw [out 4 4 (by decide) (by decide) (by decide) (by omega), m3 270 (by omega)]; exact r4
      · rw [m4, jx_upc (by decide), fi _ _ _ (by decide), jx_ups, e21, a1]
      · rw [m4] at i2
        rw [m5 i i1 i2, jx_upc (by decide), fi _ _ _ (by decide), jx_upc (by decide), jx_cp0 i1 (by omega), ed.1 3 i (by omega) (by omega)]
        exact h.1.2.2 i i1 i2
      · rw [m6 g g1 g2, jx_upc (by decide)]
        unfold jx_fi
        rw [if_pos ⟨rfl, g1, by omega⟩]
    · obtain ⟨o1, o2, o3, o4, o5, o6⟩ := hb.2.2.1
      refine ⟨by rw [m3 0 (by omega)]; exact o1, fun e e1 e2 => ?_, fun j j1 j2 => by rw [m3 (221 + j) (by omega)]; exact o3 j j1 j2, by rw [m3 270 (by omega)]; exact o4, by rw [m4]; omega, fun g g1 g2 => by rw [m6 g g1 g2]; omega⟩
      rw [m3 0 (by omega)] at e2
      rw [m3 (1 + 11 * e) (by omega), m3 (1 + 11 * e + 8) (by omega), m3 (1 + 11 * e + 9) (by omega), m3 (1 + 11 * e + 10) (by omega)]
      exact o2 e e1 e2
    · rw [jx_upc (by omega), fi _ _ _ (by omega), jx_upc (by omega), jx_cpc (by omega)]
    · rw [jx_upc (by decide), fi _ _ _ (by decide), jx_upc (by decide), jx_cpc (by decide)]; exact f1
    · rw [m1 1 5 (by decide) (by omega)]; exact f2
  · refine sp_F_setInput d2 M2 (by omega) (fun z => ⟨by omega, q_same2 h (by omega)⟩) (fun z => by omega)
end
section
def f_found (M : jxM) (w c : Int) : Prop := ∃ e, 0 ≤ e ∧ e < M 2 0 ∧ M 2 (1 + 11 * e) = M 1 4 ∧ f_begins M e ∧ M 2 (1 + 11 * e + 7) = w ∧ M 2 (1 + 11 * e + 8) = c
theorem q_found {M1 M2 : jxM} (h : q_base M1 M2) (w c : Int) : d_holds M1 w c ↔ f_found M2 w c := by
  obtain ⟨a1, a2, a3, a4, -⟩ := q_bs h
  constructor
  · rintro ⟨e, e1, e2, e3, e4, e5, e6⟩
    rw [a3] at e2
    obtain ⟨z1, z2, z3, z4, -⟩ := q_en h e1 e2
    exact ⟨e, e1, e2, by rw [← z1, e5, a1], (q_begins h e1 e2).mp e6, by rw [← z3]; exact e3, by rw [← z4]; exact e4⟩
  · rintro ⟨e, e1, e2, e3, e4, e5, e6⟩
    obtain ⟨z1, z2, z3, z4, -⟩ := q_en h e1 e2
    exact ⟨e, e1, by rw [a3]; exact e2, by rw [z3]; exact e5, by rw [z4]; exact e6, by rw [z1, e3, a1], (q_begins h e1 e2).mpr e4⟩
set_option maxHeartbeats 4000000 in
theorem sp_F_addEntry (d : Nat) (w c k : Int) (M : jxM) (hw : 0 ≤ w ∧ w ≤ 99) (hc : 0 ≤ c ∧ c ≤ 4) (hk : 0 ≤ k ∧ k ≤ 99) (h1 : (0 ≤ M 1 4 ∧ M 1 4 ≤ 20) ∧ (0 ≤ M 1 2 ∧ M 1 2 ≤ 6) ∧ (0 ≤ M 2 0 ∧ M 2 0 ≤ 20)) (hl : ∀ e, 0 ≤ e → e < M 2 0 → M 2 (1 + 11 * e) ≤ 6) {K : jxK}
    (k1 : f_found M w c → K (some (.inl (-2))) M) (k2 : ¬ f_found M w c → M 2 0 = 20 → K (some (.inl (-3))) M) (k3 : ¬ f_found M w c → M 2 0 < 20 → M 1 4 = 0 → K (some (.inl (-10))) M)
    (k4 : ¬ f_found M w c → M 2 0 < 20 → M 1 4 ≠ 0 → t_err (M 4) 6 (-9) 0 (M 1 4).toNat ≠ -9 → (0 ≤ t_err (M 4) 6 (-9) 0 (M 1 4).toNat ∧ t_err (M 4) 6 (-9) 0 (M 1 4).toNat < 20) ∧ K (some (.inl (-10 - t_err (M 4) 6 (-9) 0 (M 1 4).toNat))) M)
    (k5 : ¬ f_found M w c → M 2 0 < 20 → M 1 4 ≠ 0 → t_err (M 4) 6 (-9) 0 (M 1 4).toNat = -9 → M 1 4 ≤ 6 ∧ ∀ Ms M', q_save M Ms → (∀ c x, c ≠ 2 → ¬ (c = 1 ∧ x = 4) → M' c x = Ms c x) → M' 1 4 = 0 → M' 2 0 = M 2 0 + 1 → (∀ j, 1 ≤ j → j < 1 + 11 * M 2 0 → M' 2 j = Ms 2 j) → M' 2 (1 + 11 * M 2 0) = M 1 4 → (∀ i, 0 ≤ i → i < M 1 4 → M' 2 (1 + 11 * M 2 0 + 1 + i) = M 4 i) → M' 2 (1 + 11 * M 2 0 + 7) = w → M' 2 (1 + 11 * M 2 0 + 8) = c → M' 2 (1 + 11 * M 2 0 + 9) = k → M' 2 (1 + 11 * M 2 0 + 10) = 0 → (∀ j, 221 ≤ j → M' 2 j = Ms 2 j) → K (some (.inl (M 2 0))) M') :
    jx_call jx_G2 jx_T (d + 3) 89 [.inr 1, .inl w, .inl c, .inl k] M K := by
  intro X hX
  refine bk_F_addEntry_0 (d := d) hX w c k M ⟨fun z => absurd hw z, fun _ => ⟨fun z => absurd hc z, fun _ => ⟨fun _ => ?_, fun z => absurd hk z⟩⟩⟩
  refine jx_loop (σ := Unit) (M 2 0) (fun e _ => 0 ≤ e ∧ e ≤ M 2 0 ∧ ∀ j, 0 ≤ j → j < e → ¬ (M 2 (1 + 11 * j) = M 1 4 ∧ f_begins M j ∧ M 2 (1 + 11 * j + 7) = w ∧ M 2 (1 + 11 * j + 8) = c)) (fun e _ => X 19 [.inr 1, .inl w, .inl c, .inl k, .inl e, .inr 0, .inr 0] [] M) ?_ 0 () ⟨by omega, by omega, fun j _ _ => by omega⟩
  intro e _ ⟨i1, i2, i3⟩ ih
  have nf : M 2 0 ≤ e → ¬ f_found M w c := fun q ⟨j, j1, j2, j3⟩ => i3 j j1 (by omega) j3
  have hn : e < M 2 0 → ¬ (M 2 (1 + 11 * e) = M 1 4 ∧ f_begins M e ∧ M 2 (1 + 11 * e + 7) = w ∧ M 2 (1 + 11 * e + 8) = c) → X 19 [.inr 1, .inl w, .inl c, .inl k, .inl (e + 1), .inr 0, .inr 0] [] M := fun q z => ih () q ⟨by omega, by omega, fun j j1 j2 => by
    rcases Int.lt_or_le j e with y | y
    · exact i3 j j1 y
    · obtain rfl : j = e := by omega
      exact z⟩
  refine bk_F_addEntry_19 (d := d) hX w c k e M ⟨fun q => ⟨fun q2 => ⟨fun q3 => ⟨by omega, fun q4 => ?_, fun q4 => ?_⟩, fun q3 => k3 (nf q) (by omega) q3⟩, fun q2 => k2 (nf q) q2⟩, fun q => ⟨by omega, fun q2 => ⟨by omega, hn q (fun z => q2 z.1)⟩, fun q2 => ⟨?_, fun q3 => ⟨by omega, hn q (fun z => q3 z.2.1)⟩, fun q3 => ⟨by omega, fun q4 => ⟨by omega, hn q (fun z => q4 z.2.2.1)⟩, fun q4 => ⟨by omega, fun q5 => ⟨by omega, hn q (fun z => q5 z.2.2.2)⟩, fun q5 => k1 ⟨e, i1, q, q2, q3, q4, q5⟩⟩⟩⟩⟩⟩
  · obtain ⟨hm, hK⟩ := k5 (nf q) (by omega) q3 q4
    refine sp_F_save (d + 1) M h1.2.1 (fun Ms sv => ?_)
    have e14 : Ms 1 4 = M 1 4 := sv.2.1 4 (by decide) (by decide)
    have e20 : Ms 2 0 = M 2 0 := sv.1 2 0 (by decide) (by decide)
    refine ⟨rfl, by omega, ?_⟩
    rw [q4, e20, e14]
    refine jx_loop (σ := jxM) 6 (fun i N => 0 ≤ i ∧ i ≤ 6 ∧ (∀ c x, c ≠ 2 → N c x = Ms c x) ∧ (∀ j, (j < 1 + 11 * M 2 0 ∨ 1 + 11 * M 2 0 + 7 ≤ j) → N 2 j = Ms 2 j) ∧ N 2 (1 + 11 * M 2 0) = M 1 4 ∧ (∀ j, 0 ≤ j → j < i → j < M 1 4 → N 2 (1 + 11 * M 2 0 + 1 + j) = M 4 j)) (fun i N => X 99 [.inr 1, .inl w, .inl c, .inl k, .inl (-9), .inl (1 + 11 * M 2 0), .inl i] [] N) ?_ 0 _ ⟨by omega, by omega, fun c x hc => jx_upc hc, fun j hj => jx_upx (by omega), jx_ups, fun j _ _ _ => by omega⟩
    intro i N ⟨g1, g2, g3, g4, g5, g6⟩ jh
    have n14 : N 1 4 = M 1 4 := (g3 1 4 (by decide)).trans e14
    have n20 : N 2 0 = M 2 0 := (g4 0 (by omega)).trans e20
    have v20 : jx_up (jx_up (jx_up (jx_up N 2 (1 + 11 * M 2 0 + 7) w) 2 (1 + 11 * M 2 0 + 8) c) 2 (1 + 11 * M 2 0 + 9) k) 2 (1 + 11 * M 2 0 + 10) 0 2 0 = M 2 0 := by
      rw [jx_upx (by omega), jx_upx (by omega), jx_upx (by omega), jx_upx (by omega)]; exact n20
    refine bk_F_addEntry_99 (d := d) hX w c k (-9) (1 + 11 * M 2 0) i N ⟨fun z => ?_, fun z => ⟨by omega, fun z2 => ⟨by omega, jh _ z ⟨by omega, by omega, fun c x hc => ?_, fun j hj => ?_, ?_, fun j j1 j2 j3 => ?_⟩⟩, fun z2 => ⟨by omega, jh _ z ⟨by omega, by omega, fun c x hc => ?_, fun j hj => ?_, ?_, fun j j1 j2 j3 => ?_⟩⟩⟩⟩
    · rw [v20]
      refine ⟨by omega, ?_⟩
      rw [show M 2 0 + 1 - 1 = M 2 0 by omega]
      have rd : ∀ j, j ≠ 0 → (j < 1 + 11 * M 2 0 + 7 ∨ 1 + 11 * M 2 0 + 10 < j) → jx_up (jx_up (jx_up (jx_up (jx_up (jx_up N 2 (1 + 11 * M 2 0 + 7) w) 2 (1 + 11 * M 2 0 + 8) c) 2 (1 + 11 * M 2 0 + 9) k) 2 (1 + 11 * M 2 0 + 10) 0) 2 0 (M 2 0 + 1)) 1 4 0 2 j = N 2 j := by
        intro j j0 j1
        rw [jx_upc (by decide), jx_upx j0, jx_upx (by omega), jx_upx (by omega), jx_upx (by omega), jx_upx (by omega)]
      refine hK Ms _ sv (fun c x c1 c2 => ?_) jx_ups ?_ (fun j j1 j2 => ?_) ?_ (fun j j1 j2 => ?_) ?_ ?_ ?_ ?_ (fun j j1 => ?_)
      · by_cases y : c = 1
        · subst y; rw [jx_upx (fun v => c2 ⟨rfl, v⟩), jx_upc c1, jx_upc c1, jx_upc c1, jx_upc c1, jx_upc c1]; exact g3 _ _ c1
        · rw [jx_upc y, jx_upc c1, jx_upc c1, jx_upc c1, jx_upc c1, jx_upc c1]; exact g3 _ _ c1
      · rw [jx_upc (by decide), jx_ups]
      · rw [rd j (by omega) (by omega)]; exact g4 j (by omega)
      · rw [rd _ (by omega) (by omega)]; exact g5
      · rw [rd _ (by omega) (by omega)]; exact g6 j j1 (by omega) j2
      · rw [jx_upc (by decide), jx_upx (by omega), jx_upx (by omega), jx_upx (by omega), jx_upx (by omega), jx_ups]
      · rw [jx_upc (by decide), jx_upx (by omega), jx_upx (by omega), jx_upx (by omega), jx_ups]
      · rw [jx_upc (by decide), jx_upx (by omega), jx_upx (by omega), jx_ups]
      · rw [jx_upc (by decide), jx_upx (by omega), jx_ups]
      · rw [rd j (by omega) (by omega)]; exact g4 j (by omega)
    · rw [jx_upc hc]; exact g3 c x hc
    · rw [jx_upx (by omega)]; exact g4 j hj
    · rw [jx_upx (by omega)]; exact g5
    · rw [jx_upx (by omega)]; exact g6 j j1 (by omega) j3
    · rw [jx_upc hc]; exact g3 c x hc
    · rw [jx_upx (by omega)]; exact g4 j hj
    · rw [jx_upx (by omega)]; exact g5
    · rcases Int.lt_or_le j i with y | y
      · rw [jx_upx (by omega)]; exact g6 j j1 y j3
      · obtain rfl : j = i := by omega
        rw [jx_ups, g3 4 _ (by decide)]
        exact sv.1 4 _ (by decide) (by decide)
  · obtain ⟨z1, z2⟩ := k4 (nf q) (by omega) q3 q4
    exact ⟨by omega, z2⟩
  · have := hl e i1 q
    omega
theorem sp_T_readingError (d : Nat) (M : jxM) (h1 : 0 ≤ M 2 1 ∧ M 2 1 ≤ 20) {K : jxK} (h0 : M 2 1 = 0 → K (some (.inl 0)) M) (h : M 2 1 ≠ 0 → K (some (.inl (t_err (M 3) 6 (-1) 0 (M 2 1).toNat))) M) : jx_call jx_G1 jx_T (d + 3) 44 [.inr 2] M K := by
  intro X hX
  exact bk_T_readingError_0 (d := d) hX M ⟨fun q => ⟨by omega, h q⟩, h0⟩
set_option maxHeartbeats 4000000 in
theorem pr_addEntry (d1 d2 : Nat) {M1 M2 : jxM} (h : q_base M1 M2) (w c k : Int) : jx_call jx_G1 jx_T (d1 + 6) 48 [.inr 1, .inl w, .inl c, .inl k] M1 (fun v M1' => jx_call jx_G2 jx_T (d2 + 3) 89 [.inr 1, .inl w, .inl c, .inl k] M2 (q_pair M1 M2 v M1')) := by
  obtain ⟨a1, a2, a3, a4, a5, a6, a7, a8, a9, a10⟩ := q_bs h
  have hE := q_err h 6
  have hF := q_found h w c
  have hl2 : ∀ e, 0 ≤ e → e < M2 2 0 → M2 2 (1 + 11 * e) ≤ 6 := fun e e1 e2 => (q_en h e1 e2).2.1.2
  have bad : ¬ (0 ≤ w ∧ w ≤ 99 ∧ 0 ≤ c ∧ c ≤ 4 ∧ 0 ≤ k ∧ k ≤ 99) → jx_call jx_G2 jx_T (d2 + 3) 89 [.inr 1, .inl w, .inl c, .inl k] M2 (q_pair M1 M2 (some (.inl (-1))) M1) := by
    intro z X2 hX2
    exact bk_F_addEntry_0 (d := d2) hX2 w c k M2 ⟨fun _ => q_same h _, fun y1 => ⟨fun _ => q_same h _, fun y2 => ⟨fun y3 => absurd ⟨y1.1, y1.2, y2.1, y2.2, y3.1, y3.2⟩ z, fun _ => q_same h _⟩⟩⟩
  intro X hX
  refine bk_C_addEntry_0 (d := d1) hX w c k M1 ⟨fun q => bad (by omega), fun q => ⟨fun q2 => bad (by omega), fun q2 => ⟨fun q3 => ⟨⟨by omega, by omega, fun e e1 e2 => ?_⟩, fun q4 => ⟨fun q5 => ?_, fun q5 => ?_⟩, fun q4 => ?_⟩, fun q3 => bad (by omega)⟩⟩⟩
  · rw [(q_en h e1 (by omega)).1]; exact hl2 e e1 (by omega)
  · have nf : ¬ f_found M2 w c := fun z => q4 (hF.mpr z)
    refine sp_T_readingError (d1 + 2) M1 (by omega) (fun z0 => ⟨_, rfl, fun z => absurd z (by decide), fun _ => ⟨by omega, ?_⟩⟩) (fun z0 => ⟨_, rfl, fun z => ?_, fun z => ⟨by omega, ?_⟩⟩)
    · exact sp_F_addEntry d2 w c k M2 (by omega) (by omega) (by omega) (by omega) hl2 (fun z => absurd z nf) (fun _ z => by omega) (fun _ _ _ => q_same h _) (fun _ _ z => by omega) (fun _ _ z => by omega)
    · refine sp_C_beginEdit d1 M1 (by omega) (fun N1 ed => ⟨rfl, ?_⟩)
      have e21 : N1 2 1 = M1 2 1 := ed.1 2 1 (by omega) (by omega)
      have e56 : N1 5 6 = M1 5 6 := ed.1 5 6 (by omega) (by omega)
      have hm : M2 1 4 ≤ 6 := by omega
      refine sp_D_append (d1 + 3) w c k N1 (by omega) ?_
      have r56 : jx_up (jx_up (jx_up (jx_up (jx_up (jx_up (jx_cp N1 3 0 6 (N1 5 6 * 6) (N1 2 1)) 7 (N1 5 6) (N1 2 1)) 8 (N1 5 6) w) 9 (N1 5 6) c) 10 (N1 5 6) k) 11 (N1 5 6) 0) 5 6 (N1 5 6 + 1) 5 6 = N1 5 6 + 1 := jx_ups
      refine ⟨rfl, by rw [r56]; omega, ?_⟩
      rw [r56]
      refine sp_F_addEntry d2 w c k M2 (by omega) (by omega) (by omega) (by omega) hl2 (fun z => absurd z nf) (fun _ z => by omega) (fun _ _ z => by omega) (fun _ _ _ y => by omega) (fun _ _ _ _ => ⟨hm, fun N2 M' sv m1 m2 m3 m4 m5 m6 m7 m8 m9 m10 m11 => ?_⟩)
      obtain ⟨hb, f1, f2⟩ := q_edit_base h ed sv
      have g20 : N2 2 0 = M2 2 0 := sv.1 2 0 (by decide) (by decide)
      have g56 : N1 5 6 = M2 2 0 := by omega
      rw [g56]
      have out : ∀ (c' : Nat) (x : Int), c' ≠ 2 → c' ≠ 5 → (c' < 6 ∨ 11 < c') → jx_up (jx_up (jx_up (jx_up (jx_up (jx_up (jx_up (jx_cp N1 3 0 6 (M2 2 0 * 6) (N1 2 1)) 7 (M2 2 0) (N1 2 1)) 8 (M2 2 0) w) 9 (M2 2 0) c) 10 (M2 2 0) k) 11 (M2 2 0) 0) 5 6 (M2 2 0 + 1)) 2 1 0 c' x = N1 c' x := by
        intro c' x c1 c2 c3
        rw [jx_upc c1, jx_upc c2, jx_upc (by omega), jx_upc (by omega), jx_upc (by omega), jx_upc (by omega), jx_upc (by omega), jx_cpc (by omega)]
      refine ⟨⟨_, rfl, by congr 2; omega⟩, q_mod hb ⟨by rw [jx_ups, m2], by rw [m2]; omega, fun i i1 i2 => by rw [m2] at i2; omega⟩ ?_ ?_ (fun c' x c1 c2 => out c' x (by omega) (by omega) (by omega)) (fun x => m1 3 x (by decide) (by omega)) (m1 1 2 (by decide) (by omega)), Or.inl (by rw [out 1 5 (by decide) (by decide) (by decide)]; exact f1), Or.inl (by rw [m1 1 5 (by decide) (by omega)]; exact f2)⟩
      · obtain ⟨r1, r2, r3, r4, r5, r6, r7⟩ := hb.2.1
        obtain ⟨o1, o2, o3, o4, o5, o6⟩ := hb.2.2.1
        refine ⟨?_, fun e e1 e2 => ?_, fun j j1 j2 => ?_, ?_, ?_, fun i i1 i2 => ?_, fun g g1 g2 => ?_⟩
        · rw [m3, jx_upc (by decide), jx_ups]
        · rw [m3] at e2
          rcases Int.lt_or_le e (M2 2 0) with y | y
          · obtain ⟨y1, y2, y3, y4, y5, y6⟩ := r2 e e1 (by omega)
            have ol := (o2 e e1 (by omega)).1
            rw [m4 (1 + 11 * e) (by omega) (by omega), m4 (1 + 11 * e + 7) (by omega) (by omega), m4 (1 + 11 * e + 8) (by omega) (by omega), m4 (1 + 11 * e + 9) (by omega) (by omega), m4 (1 + 11 * e + 10) (by omega) (by omega)]
            refine ⟨?_, fun i i1 i2 => ?_, ?_, ?_, ?_, ?_⟩
            · rw [jx_upc (by decide), jx_upc (by decide), jx_upc (by decide), jx_upc (by decide), jx_upc (by decide), jx_upc (by decide), jx_upx (by omega), jx_cpc (by decide)]; exact y1
            · rw [m4 (1 + 11 * e + 1 + i) (by omega) (by omega), jx_upc (by decide), jx_upc (by decide), jx_upc (by decide), jx_upc (by decide), jx_upc (by decide), jx_upc (by decide), jx_upc (by decide), jx_cpo (by omega)]; exact y2 i i1 i2
            · rw [jx_upc (by decide), jx_upc (by decide), jx_upc (by decide), jx_upc (by decide), jx_upc (by decide), jx_upx (by omega), jx_upc (by decide), jx_cpc (by decide)]; exact y3
            · rw [jx_upc (by decide), jx_upc (by decide), jx_upc (by decide), jx_upc (by decide), jx_upx (by omega), jx_upc (by decide), jx_upc (by decide), jx_cpc (by decide)]; exact y4
            · rw [jx_upc (by decide), jx_upc (by decide), jx_upc (by decide), jx_upx (by omega), jx_upc (by decide), jx_upc (by decide), jx_upc (by decide), jx_cpc (by decide)]; exact y5
            · rw [jx_upc (by decide), jx_upc (by decide), jx_upx (by omega), jx_upc (by decide), jx_upc (by decide), jx_upc (by decide), jx_upc (by decide), jx_cpc (by decide)]; exact y6
          · obtain rfl : e = M2 2 0 := by omega
            rw [m5, m7, m8, m9, m10]
            refine ⟨?_, fun i i1 i2 => ?_, ?_, ?_, ?_, ?_⟩
            · rw [jx_upc (by decide), jx_upc (by decide), jx_upc (by decide), jx_upc (by decide), jx_upc (by decide), jx_upc (by decide), jx_ups, e21, a1]
            · rw [m6 i i1 i2, jx_upc (by decide), jx_upc (by decide), jx_upc (by decide), jx_upc (by decide), jx_upc (by decide), jx_upc (by decide), jx_upc (by decide), jx_cpi (by omega) (by omega), ed.1 3 _ (by omega) (by omega), ← h.1.2.2 i i1 i2]
              congr 1
              omega
            · rw [jx_upc (by decide), jx_upc (by decide), jx_upc (by decide), jx_upc (by decide), jx_upc (by decide), jx_ups]
            · rw [jx_upc (by decide), jx_upc (by decide), jx_upc (by decide), jx_upc (by decide), jx_ups]
            · rw [jx_upc (by decide), jx_upc (by decide), jx_upc (by decide), jx_ups]
            · rw [jx_upc (by decide), jx_upc (by decide), jx_ups]
        · rw [m11 _ (by omega), out 12 j (by decide) (by decide) (by decide)]; exact r3 j j1 j2
        · rw [m11 _ (by omega), out 4 4 (by decide) (by decide) (by decide)]; exact r4
        · rw [m11 _ (by omega), out 4 5 (by decide) (by decide) (by decide)]; exact r5
        · rw [m11 _ (by omega)] at i2
          rw [m11 _ (by omega), out 13 i (by decide) (by decide) (by decide)]; exact r6 i i1 i2
        · rw [m11 _ (by omega), out 14 g (by decide) (by decide) (by decide)]; exact r7 g g1 g2
      · obtain ⟨o1, o2, o3, o4, o5, o6⟩ := hb.2.2.1
        refine ⟨by rw [m3]; omega, fun e e1 e2 => ?_, fun j j1 j2 => by rw [m11 _ (by omega)]; exact o3 j j1 j2, by rw [m11 _ (by omega)]; exact o4, by rw [m11 _ (by omega)]; exact o5, fun g g1 g2 => by rw [m11 _ (by omega), m11 _ (by omega)]; exact o6 g g1 g2⟩
        rw [m3] at e2
        rcases Int.lt_or_le e (M2 2 0) with y | y
        · rw [m4 (1 + 11 * e) (by omega) (by omega), m4 (1 + 11 * e + 8) (by omega) (by omega), m4 (1 + 11 * e + 9) (by omega) (by omega), m4 (1 + 11 * e + 10) (by omega) (by omega)]
          exact o2 e e1 (by omega)
        · obtain rfl : e = M2 2 0 := by omega
          rw [m5, m8, m9, m10]
          omega
    · exact sp_F_addEntry d2 w c k M2 (by omega) (by omega) (by omega) (by omega) hl2 (fun z => absurd z nf) (fun _ z => by omega) (fun _ _ z => by omega) (fun _ _ _ y => ⟨by omega, q_same2 h (by omega)⟩) (fun _ _ _ y => by omega)
  · exact sp_F_addEntry d2 w c k M2 (by omega) (by omega) (by omega) (by omega) hl2 (fun z => absurd (hF.mpr z) q4) (fun _ z => q_same h _) (fun _ z => by omega) (fun _ z => by omega) (fun _ z => by omega)
  · exact sp_F_addEntry d2 w c k M2 (by omega) (by omega) (by omega) (by omega) hl2 (fun _ => q_same h _) (fun z => absurd (hF.mp q4) z) (fun z => absurd (hF.mp q4) z) (fun z => absurd (hF.mp q4) z) (fun z => absurd (hF.mp q4) z)
end
section
/-- which entry stands at j behind the removal of e -/
def d_src (e j : Int) : Int := if j < e then j else j + 1
theorem sp_D_drop (d : Nat) (e : Int) (M : jxM) (h1 : 0 ≤ e ∧ e < M 5 6 ∧ M 5 6 ≤ 20) {K : jxK} (h : ∀ M', (∀ c x, c ≠ 5 → (c < 6 ∨ 11 < c) → M' c x = M c x) → M' 5 6 = M 5 6 - 1 → (∀ j, 0 ≤ j → j < M 5 6 - 1 → (∀ c, 7 ≤ c → c ≤ 11 → M' c j = M c (d_src e j)) ∧ ∀ i, 0 ≤ i → i < 6 → M' 6 (j * 6 + i) = M 6 (d_src e j * 6 + i)) → K none M') : jx_call jx_G1 jx_T (d + 3) 2 [.inr 5, .inl e] M K := by
  intro X hX
  refine bk_D_drop_0 (d := d) hX e M ?_
  refine jx_loop (σ := jxM) (M 5 6) (fun i N => e ≤ i ∧ i ≤ M 5 6 - 1 ∧ (∀ c x, (c < 6 ∨ 11 < c) → N c x = M c x) ∧ (∀ j, 0 ≤ j → j < i → (∀ c, 7 ≤ c → c ≤ 11 → N c j = M c (d_src e j)) ∧ ∀ k, 0 ≤ k → k < 6 → N 6 (j * 6 + k) = M 6 (d_src e j * 6 + k)) ∧ (∀ j, i ≤ j → (∀ c, 7 ≤ c → c ≤ 11 → N c j = M c j)) ∧ (∀ x, i * 6 ≤ x → N 6 x = M 6 x)) (fun i N => X 2 [.inr 5, .inl e, .inl i] [] N) ?_ e M ⟨by omega, by omega, fun _ _ _ => rfl, fun j j1 j2 => ?_, fun _ _ _ _ _ => rfl, fun _ _ => rfl⟩
  · intro i N ⟨i1, i2, i3, i4, i5, i6⟩ ih
    have n56 : N 5 6 = M 5 6 := i3 5 6 (by omega)
    refine bk_D_drop_2 (d := d) hX e i N ⟨by omega, fun q => ⟨by omega, ?_⟩, fun q => ⟨by omega, ?_⟩⟩
    · rw [n56]
      refine h _ (fun c x c1 c2 => ?_) jx_ups (fun j j1 j2 => ⟨fun c c1 c2 => ?_, fun k k1 k2 => ?_⟩)
      · rw [jx_upc c1]; exact i3 c x c2
      · rw [jx_upc (by omega)]; exact (i4 j j1 (by omega)).1 c c1 c2
      · rw [jx_upc (by omega)]; exact (i4 j j1 (by omega)).2 k k1 k2
    · refine sp_D_moveDown d (i + 1) N (by omega) ?_
      rw [show i + 1 - 1 = i by omega]
      refine ⟨rfl, by omega, ih _ (by omega) ⟨by omega, by omega, fun c x hc => ?_, fun j j1 j2 => ⟨fun c c1 c2 => ?_, fun k k1 k2 => ?_⟩, fun j j1 c c1 c2 => ?_, fun x hx => ?_⟩⟩
      · rw [jx_upc (by omega), jx_upc (by omega), jx_upc (by omega), jx_upc (by omega), jx_upc (by omega), jx_cpc (by omega)]; exact i3 c x hc
      · rcases Int.lt_or_le j i with y | y
        · rw [← (i4 j j1 y).1 c c1 c2]
          have gen : ∀ (L : jxM) (c' : Nat) (v : Int), jx_up L c' i v c j = L c j := fun L c' v => by
            by_cases z : c = c'
            · subst z; exact jx_upx (by omega)
            · exact jx_upc z
          rw [gen, gen, gen, gen, gen, jx_cpc (by omega)]
        · obtain rfl : j = i := by omega
          have ds : d_src e j = j + 1 := by unfold d_src; rw [if_neg (by omega)]
          rw [ds, ← i5 (j + 1) (by omega) c c1 c2]
          rcases (show c = 7 ∨ c = 8 ∨ c = 9 ∨ c = 10 ∨ c = 11 by omega) with rfl | rfl | rfl | rfl | rfl
          · rw [jx_upc (by decide), jx_upc (by decide), jx_upc (by decide), jx_upc (by decide), jx_ups]
          · rw [jx_upc (by decide), jx_upc (by decide), jx_upc (by decide), jx_ups]
          · rw [jx_upc (by decide), jx_upc (by decide), jx_ups]
          · rw [jx_upc (by decide), jx_ups]
          · rw [jx_ups]
      · rw [jx_upc (by decide), jx_upc (by decide), jx_upc (by decide), jx_upc (by decide), jx_upc (by decide)]
        rcases Int.lt_or_le j i with y | y
        · rw [jx_cpo (by omega)]; exact (i4 j j1 y).2 k k1 k2
        · obtain rfl : j = i := by omega
          have ds : d_src e j = j + 1 := by unfold d_src; rw [if_neg (by omega)]
          rw [jx_cpi (by omega) (by omega), ds, i6 _ (by omega)]
          congr 1
          omega
      · have gen : ∀ (L : jxM) (c' : Nat) (v : Int), jx_up L c' i v c j = L c j := fun L c' v => by
          by_cases z : c = c'
          · subst z; exact jx_upx (by omega)
          · exact jx_upc z
        rw [gen, gen, gen, gen, gen, jx_cpc (by omega)]
        exact i5 j (by omega) c c1 c2
      · rw [jx_upc (by decide), jx_upc (by decide), jx_upc (by decide), jx_upc (by decide), jx_upc (by decide), jx_cpo (by omega)]
        exact i6 x (by omega)
  · have ds : d_src e j = j := by unfold d_src; rw [if_pos j2]
    rw [ds]
    exact ⟨fun _ _ _ => rfl, fun _ _ _ => rfl⟩
theorem sp_F_removeEntry (d : Nat) (e : Int) (M : jxM) (h1 : (0 ≤ M 1 2 ∧ M 1 2 ≤ 6) ∧ (0 ≤ M 2 0 ∧ M 2 0 ≤ 20)) {K : jxK} (h0 : ¬ (0 ≤ e ∧ e < M 2 0) → K (some (.inl (-1))) M)
    (h : 0 ≤ e ∧ e < M 2 0 → ∀ Ms M', q_save M Ms → (∀ c x, c ≠ 2 → M' c x = Ms c x) → M' 2 0 = M 2 0 - 1 → (∀ k, 1 ≤ k → k < 1 + 11 * e → M' 2 k = Ms 2 k) → (∀ k, 1 + 11 * e ≤ k → k < 1 + 11 * (M 2 0 - 1) → M' 2 k = Ms 2 (k + 11)) → (∀ k, 221 ≤ k → M' 2 k = Ms 2 k) → K (some (.inl (M 2 0 - 1))) M') : jx_call jx_G2 jx_T (d + 3) 90 [.inr 1, .inl e] M K := by
  intro X hX
  refine bk_F_removeEntry_0 (d := d) hX e M ⟨h1.2, fun q => ?_, h0⟩
  refine sp_F_save (d + 1) M h1.1 (fun Ms sv => ?_)
  have e20 : Ms 2 0 = M 2 0 := sv.1 2 0 (by decide) (by decide)
  refine ⟨rfl, by omega, ?_⟩
  refine jx_loop (σ := jxM) (1 + 11 * (M 2 0 - 1)) (fun k N => 1 + 11 * e ≤ k ∧ k ≤ 1 + 11 * (M 2 0 - 1) ∧ (∀ c x, c ≠ 2 → N c x = Ms c x) ∧ N 2 0 = M 2 0 - 1 ∧ (∀ j, 1 ≤ j → j < 1 + 11 * e → N 2 j = Ms 2 j) ∧ (∀ j, 1 + 11 * e ≤ j → j < k → N 2 j = Ms 2 (j + 11)) ∧ (∀ j, k ≤ j → N 2 j = Ms 2 j)) (fun k N => X 19 [.inr 1, .inl e, .inl k] [] N) ?_ (1 + 11 * e) _ ⟨by omega, by omega, fun c x hc => jx_upc hc, by rw [jx_ups, e20], fun j j1 _ => jx_upx (by omega), fun j _ _ => by omega, fun j _ => jx_upx (by omega)⟩
  intro k N ⟨i1, i2, i3, i4, i5, i6, i7⟩ ih
  refine bk_F_removeEntry_19 (d := d) hX e k N ⟨by omega, fun z => ?_, fun z => ⟨by omega, ih _ (by omega) ⟨by omega, by omega, fun c x hc => ?_, ?_, fun j j1 j2 => ?_, fun j j1 j2 => ?_, fun j j1 => ?_⟩⟩⟩
  · rw [i4]
    exact h q Ms N sv i3 i4 i5 (fun j j1 j2 => i6 j j1 (by omega)) (fun j j1 => i7 j (by omega))
  · rw [jx_upc hc]; exact i3 c x hc
  · rw [jx_upx (by omega)]; exact i4
  · rw [jx_upx (by omega)]; exact i5 j j1 j2
  · rcases Int.lt_or_le j k with y | y
    · rw [jx_upx (by omega)]; exact i6 j j1 y
    · obtain rfl : j = k := by omega
      rw [jx_ups]; exact i7 _ (by omega)
  · rw [jx_upx (by omega)]; exact i7 j (by omega)
set_option maxHeartbeats 4000000 in
theorem pr_removeEntry (d1 d2 : Nat) {M1 M2 : jxM} (h : q_base M1 M2) (e : Int) : jx_call jx_G1 jx_T (d1 + 6) 49 [.inr 1, .inl e] M1 (fun v M1' => jx_call jx_G2 jx_T (d2 + 3) 90 [.inr 1, .inl e] M2 (q_pair M1 M2 v M1')) := by
  obtain ⟨a1, a2, a3, a4, a5, a6, a7, a8, a9, a10⟩ := q_bs h
  intro X hX
  refine bk_C_removeEntry_0 (d := d1) hX e M1 ⟨by omega, fun q => ?_, fun q => ?_⟩
  · refine sp_C_beginEdit d1 M1 (by omega) (fun N1 ed => ⟨rfl, ?_⟩)
    have e56 : N1 5 6 = M1 5 6 := ed.1 5 6 (by omega) (by omega)
    refine sp_D_drop (d1 + 2) e N1 (by omega) (fun M1' p1 p2 p3 => ⟨rfl, ?_⟩)
    refine sp_F_removeEntry d2 e M2 (by omega) (fun z => by omega) (fun _ N2 M2' sv m1 m2 m3 m4 m5 => ?_)
    obtain ⟨hb, f1, f2⟩ := q_edit_base h ed sv
    have g20 : N2 2 0 = M2 2 0 := sv.1 2 0 (by decide) (by decide)
    have sc : ∀ j, 0 ≤ j → j < M2 2 0 - 1 → (0 ≤ d_src e j ∧ d_src e j < M2 2 0) ∧ ∀ o, 0 ≤ o → o < 11 → M2' 2 (1 + 11 * j + o) = N2 2 (1 + 11 * d_src e j + o) := by
      intro j j1 j2
      unfold d_src
      by_cases y : j < e
      · rw [if_pos y]
        exact ⟨by omega, fun o o1 o2 => m3 _ (by omega) (by omega)⟩
      · rw [if_neg y]
        refine ⟨by omega, fun o o1 o2 => ?_⟩
        rw [m4 _ (by omega) (by omega)]
        congr 1
        omega
    refine ⟨⟨_, rfl, by rw [p2, e56, a3]⟩, q_mod hb (q_txt_fr hb.1 (fun c x hc => p1 c x (by omega) (by omega)) (m1 1 4 (by decide)) (fun x => m1 4 x (by decide))) ?_ ?_ (fun c x c1 c2 => p1 c x (by omega) (by omega)) (fun x => m1 3 x (by decide)) (m1 1 2 (by decide)), Or.inl (by rw [p1 1 5 (by decide) (by decide)]; exact f1), Or.inl (by rw [m1 1 5 (by decide)]; exact f2)⟩
    · obtain ⟨r1, r2, r3, r4, r5, r6, r7⟩ := hb.2.1
      obtain ⟨o1, o2, o3, o4, o5, o6⟩ := hb.2.2.1
      refine ⟨?_, fun j j1 j2 => ?_, fun j j1 j2 => ?_, ?_, ?_, fun i i1 i2 => ?_, fun g g1 g2 => ?_⟩
      · rw [m2, p2]; omega
      · rw [m2] at j2
        obtain ⟨s1, s2⟩ := sc j j1 j2
        obtain ⟨y1, y2, y3, y4, y5, y6⟩ := r2 (d_src e j) s1.1 (by omega)
        obtain ⟨t1, t2⟩ := p3 j j1 (by omega)
        have ol := (o2 (d_src e j) s1.1 (by omega)).1
        have z0 := s2 0 (by omega) (by omega)
        simp only [Int.add_zero] at z0
        rw [z0, s2 7 (by omega) (by omega), s2 8 (by omega) (by omega), s2 9 (by omega) (by omega), s2 10 (by omega) (by omega)]
        refine ⟨(t1 7 (by decide) (by decide)).trans y1, fun i i1 i2 => ?_, (t1 8 (by decide) (by decide)).trans y3, (t1 9 (by decide) (by decide)).trans y4, (t1 10 (by decide) (by decide)).trans y5, (t1 11 (by decide) (by decide)).trans y6⟩
        rw [Int.add_assoc, s2 (1 + i) (by omega) (by omega), ← Int.add_assoc]
        exact (t2 i i1 (by omega)).trans (y2 i i1 i2)
      · rw [m5 _ (by omega), p1 _ _ (by decide) (by decide)]; exact r3 j j1 j2
      · rw [m5 _ (by omega), p1 _ _ (by decide) (by decide)]; exact r4
      · rw [m5 _ (by omega), p1 _ _ (by decide) (by decide)]; exact r5
      · rw [m5 _ (by omega)] at i2
        rw [m5 _ (by omega), p1 _ _ (by decide) (by decide)]; exact r6 i i1 i2
      · rw [m5 _ (by omega), p1 _ _ (by decide) (by decide)]; exact r7 g g1 g2
    · obtain ⟨o1, o2, o3, o4, o5, o6⟩ := hb.2.2.1
      refine ⟨by rw [m2]; omega, fun j j1 j2 => ?_, fun j j1 j2 => by rw [m5 _ (by omega)]; exact o3 j j1 j2, by rw [m5 _ (by omega)]; exact o4, by rw [m5 _ (by omega)]; exact o5, fun g g1 g2 => by rw [m5 _ (by omega), m5 _ (by omega)]; exact o6 g g1 g2⟩
      rw [m2] at j2
      obtain ⟨s1, s2⟩ := sc j j1 j2
      have z0 := s2 0 (by omega) (by omega)
      simp only [Int.add_zero] at z0
      rw [z0, s2 8 (by omega) (by omega), s2 9 (by omega) (by omega), s2 10 (by omega) (by omega)]
      exact o2 (d_src e j) s1.1 (by omega)
  · exact sp_F_removeEntry d2 e M2 (by omega) (fun z => q_same h _) (fun z => by omega)
theorem sp_F_forget (d : Nat) (M : jxM) (h1 : (0 ≤ M 1 2 ∧ M 1 2 ≤ 6) ∧ (0 ≤ M 2 0 ∧ M 2 0 ≤ 20)) (hu : ∀ e, 0 ≤ e → e < M 2 0 → 0 ≤ M 2 (1 + 11 * e + 10) ∧ M 2 (1 + 11 * e + 10) ≤ 9) {K : jxK} (h0 : j_sum (fun e => M 2 (1 + 11 * e + 10)) (M 2 0).toNat = 0 → K (some (.inl (-2))) M)
    (h : j_sum (fun e => M 2 (1 + 11 * e + 10)) (M 2 0).toNat ≠ 0 → ∀ Ms M', q_save M Ms → (∀ c x, c ≠ 2 → M' c x = Ms c x) → (∀ e, 0 ≤ e → e < M 2 0 → M' 2 (1 + 11 * e + 10) = 0) → (∀ k, (∀ e, 0 ≤ e → e < M 2 0 → k ≠ 1 + 11 * e + 10) → M' 2 k = Ms 2 k) → K (some (.inl (j_sum (fun e => M 2 (1 + 11 * e + 10)) (M 2 0).toNat))) M') : jx_call jx_G2 jx_T (d + 2) 126 [.inr 1] M K := by
  intro X hX
  refine bk_F_forget_0 (d := d) hX M ?_
  refine jx_loop (σ := Int) (M 2 0) (fun i s => 0 ≤ i ∧ i ≤ M 2 0 ∧ s = j_sum (fun e => M 2 (1 + 11 * e + 10)) i.toNat) (fun i s => X 4 [.inr 1, .inl s, .inl i] [] M) ?_ 0 0 ⟨by omega, by omega, rfl⟩
  intro i s ⟨i1, i2, i3⟩ ih
  have hb := j_sum_le (f := fun e => M 2 (1 + 11 * e + 10)) (B := 9) i.toNat (fun j j1 j2 => hu j j1 (by omega))
  refine bk_F_forget_4 (d := d) hX s i M ⟨fun q => ⟨fun q2 => ?_, fun q2 => ?_⟩, fun q => ⟨?_, ih _ q ⟨by omega, by omega, ?_⟩⟩⟩
  · obtain rfl : i = M 2 0 := by omega
    rw [i3] at q2
    refine sp_F_save d M h1.1 (fun Ms sv => ⟨rfl, ?_⟩)
    have e20 : Ms 2 0 = M 2 0 := sv.1 2 0 (by decide) (by decide)
    refine jx_loop (σ := jxM) (M 2 0) (fun i N => 0 ≤ i ∧ i ≤ M 2 0 ∧ (∀ c x, c ≠ 2 → N c x = Ms c x) ∧ (∀ e, 0 ≤ e → e < i → N 2 (1 + 11 * e + 10) = 0) ∧ (∀ k, (∀ e, 0 ≤ e → e < i → k ≠ 1 + 11 * e + 10) → N 2 k = Ms 2 k)) (fun i N => X 30 [.inr 1, .inl s, .inl i] [] N) ?_ 0 Ms ⟨by omega, by omega, fun _ _ _ => rfl, fun e _ _ => by omega, fun _ _ => rfl⟩
    intro j N ⟨j1, j2, j3, j4, j5⟩ jh
    have n20 : N 2 0 = M 2 0 := (j5 0 (fun e e1 e2 => by omega)).trans e20
    refine bk_F_forget_30 (d := d) hX s j N ⟨fun z => ?_, fun z => ⟨by omega, jh _ (by omega) ⟨by omega, by omega, fun c x hc => ?_, fun e e1 e2 => ?_, fun k hk => ?_⟩⟩⟩
    · rw [i3]
      exact h q2 Ms N sv j3 (fun e e1 e2 => j4 e e1 (by omega)) (fun k hk => j5 k (fun e e1 e2 => hk e e1 (by omega)))
    · rw [jx_upc hc]; exact j3 c x hc
    · rcases Int.lt_or_le e j with y | y
      · rw [jx_upx (by omega)]; exact j4 e e1 y
      · obtain rfl : e = j := by omega
        rw [jx_ups]
    · rw [jx_upx (hk j j1 (by omega))]
      exact j5 k (fun e e1 e2 => hk e e1 (by omega))
  · obtain rfl : i = M 2 0 := by omega
    rw [i3] at q2
    exact h0 q2
  · have := hu i i1 q
    omega
  · rw [j_step _ i1, i3]
theorem pr_forget (d1 d2 : Nat) {M1 M2 : jxM} (h : q_base M1 M2) : jx_call jx_G1 jx_T (d1 + 6) 70 [.inr 1] M1 (fun v M1' => jx_call jx_G2 jx_T (d2 + 2) 126 [.inr 1] M2 (q_pair M1 M2 v M1')) := by
  obtain ⟨a1, a2, a3, a4, a5, a6, a7, a8, a9, a10⟩ := q_bs h
  have hu : ∀ e, 0 ≤ e → e < M2 2 0 → 0 ≤ M2 2 (1 + 11 * e + 10) ∧ M2 2 (1 + 11 * e + 10) ≤ 9 := fun e e1 e2 => (q_en h e1 e2).2.2.2.2.2.2.2.2
  have hs : j_sum (M1 11) (M1 5 6).toNat = j_sum (fun e => M2 2 (1 + 11 * e + 10)) (M2 2 0).toNat := by
    rw [a3]
    exact j_sum_eq _ (fun e e1 e2 => (q_en h e1 (by omega)).2.2.2.2.2.2.2.1)
  intro X hX
  refine bk_C_forget_0 (d := d1) hX M1 ⟨⟨by omega, fun e e1 e2 => ?_⟩, fun q => ?_, fun q => ?_⟩
  · rw [(q_en h e1 (by omega)).2.2.2.2.2.2.2.1]; exact hu e e1 (by omega)
  · refine sp_C_beginEdit d1 M1 (by omega) (fun N1 ed => ⟨rfl, ?_⟩)
    refine sp_J_fill (d1 + 4) 10 20 0 N1 rfl (by omega) ⟨rfl, ?_⟩
    rw [hs] at q ⊢
    refine sp_F_forget d2 M2 (by omega) hu (fun z => absurd z q) (fun _ N2 M2' sv m1 m2 m3 => ?_)
    obtain ⟨hb, f1, f2⟩ := q_edit_base h ed sv
    have g20 : N2 2 0 = M2 2 0 := sv.1 2 0 (by decide) (by decide)
    have fi : ∀ (c : Nat) (x : Int), c ≠ 11 → jx_fi N1 11 20 0 c x = N1 c x := fun c x hc => by unfold jx_fi; rw [if_neg (fun y => hc y.1)]
    have m0 : M2' 2 0 = N2 2 0 := m3 0 (fun e e1 e2 => by omega)
    refine ⟨⟨_, rfl, rfl⟩, q_mod hb (q_txt_fr hb.1 (fun c x hc => fi c x (by omega)) (m1 1 4 (by decide)) (fun x => m1 4 x (by decide))) ?_ ?_ (fun c x c1 c2 => fi c x (by omega)) (fun x => m1 3 x (by decide)) (m1 1 2 (by decide)), Or.inl ((fi 1 5 (by decide)).trans f1), Or.inl (by rw [m1 1 5 (by decide)]; exact f2)⟩
    · obtain ⟨r1, r2, r3, r4, r5, r6, r7⟩ := hb.2.1
      obtain ⟨o1, o2, o3, o4, o5, o6⟩ := hb.2.2.1
      refine ⟨?_, fun e e1 e2 => ?_, fun j j1 j2 => ?_, ?_, ?_, fun i i1 i2 => ?_, fun g g1 g2 => ?_⟩
      · rw [m0]; exact (fi _ _ (by decide)).trans r1
      · rw [m0] at e2
        obtain ⟨y1, y2, y3, y4, y5, y6⟩ := r2 e e1 e2
        have ol := (o2 e e1 e2).1
        rw [m3 (1 + 11 * e) (fun j j1 j2 => by omega), m3 (1 + 11 * e + 7) (fun j j1 j2 => by omega), m3 (1 + 11 * e + 8) (fun j j1 j2 => by omega), m3 (1 + 11 * e + 9) (fun j j1 j2 => by omega), m2 e e1 (by omega)]
        refine ⟨(fi _ _ (by decide)).trans y1, fun i i1 i2 => ?_, (fi _ _ (by decide)).trans y3, (fi _ _ (by decide)).trans y4, (fi _ _ (by decide)).trans y5, ?_⟩
        · rw [m3 (1 + 11 * e + 1 + i) (fun j j1 j2 => by omega)]
          exact (fi _ _ (by decide)).trans (y2 i i1 i2)
        · show jx_fi N1 11 20 0 11 e = 0
          unfold jx_fi
          rw [if_pos ⟨rfl, e1, by omega⟩]
      · rw [m3 (221 + j) (fun i i1 i2 => by omega)]; exact (fi _ _ (by decide)).trans (r3 j j1 j2)
      · rw [m3 270 (fun i i1 i2 => by omega)]; exact (fi _ _ (by decide)).trans r4
      · rw [m3 271 (fun i i1 i2 => by omega)]; exact (fi _ _ (by decide)).trans r5
      · rw [m3 271 (fun i i1 i2 => by omega)] at i2
        rw [m3 (272 + i) (fun i i1 i2 => by omega)]; exact (fi _ _ (by decide)).trans (r6 i i1 i2)
      · rw [m3 (288 + g) (fun i i1 i2 => by omega)]; exact (fi _ _ (by decide)).trans (r7 g g1 g2)
    · obtain ⟨o1, o2, o3, o4, o5, o6⟩ := hb.2.2.1
      refine ⟨by rw [m0]; exact o1, fun e e1 e2 => ?_, fun j j1 j2 => ?_, ?_, ?_, fun g g1 g2 => ?_⟩
      · rw [m0] at e2
        have := o2 e e1 e2
        rw [m3 (1 + 11 * e) (fun j j1 j2 => by omega), m3 (1 + 11 * e + 8) (fun j j1 j2 => by omega), m3 (1 + 11 * e + 9) (fun j j1 j2 => by omega), m2 e e1 (by omega)]
        omega
      · rw [m3 (221 + j) (fun i i1 i2 => by omega)]; exact o3 j j1 j2
      · rw [m3 270 (fun i i1 i2 => by omega)]; exact o4
      · rw [m3 271 (fun i i1 i2 => by omega)]; exact o5
      · rw [m3 (288 + g) (fun i i1 i2 => by omega), m3 271 (fun i i1 i2 => by omega)]; exact o6 g g1 g2
  · rw [hs] at q
    exact sp_F_forget d2 M2 (by omega) hu (fun _ => q_same h _) (fun z => absurd q z)
end
section
set_option maxHeartbeats 4000000 in
theorem bk_R_leastBefore_0 {d : Nat} {K : jxK} {X : jxX} (hX : jx_clo jx_G1 (d + 1) (jx_call jx_G1 jx_T (d + 1)) kc_R_leastBefore K X) (v1 : Int) (v2 : Int) (M : jxM)
    (h : X 4 [.inr 90, .inl v1, .inl v2, .inl 1000000, .inl 0, .inr 0] [] M) :
    X 0 [.inr 90, .inl v1, .inl v2, .inr 0, .inr 0, .inr 0] [] M := by
  refine jk_const (pc := 0) hX 1000000 rfl (by decide) ?_
  refine jk_store (pc := 1) hX 3 rfl (Nat.le_of_ble_eq_true rfl) (ls' := [.inr 90, .inl v1, .inl v2, .inl 1000000, .inr 0, .inr 0]) rfl ?_
  refine jk_const (pc := 2) hX 0 rfl (by decide) ?_
  refine jk_store (pc := 3) hX 4 rfl (Nat.le_of_ble_eq_true rfl) (ls' := [.inr 90, .inl v1, .inl v2, .inl 1000000, .inl 0, .inr 0]) rfl ?_
  exact h
set_option maxHeartbeats 4000000 in
theorem bk_R_leastBefore_4 {d : Nat} {K : jxK} {X : jxX} (hX : jx_clo jx_G1 (d + 1) (jx_call jx_G1 jx_T (d + 1)) kc_R_leastBefore K X) (v1 : Int) (v2 : Int) (v3 : Int) (v4 : Int) (M : jxM)
    (h : ((7 ≤ v4 → K (some (.inl v3)) M) ∧ (v4 < 7 → (((-2147483648 : Int) ≤ v1 * 7 ∧ v1 * 7 ≤ 2147483647) ∧ ((-2147483648 : Int) ≤ (v1 * 7) + v4 ∧ (v1 * 7) + v4 ≤ 2147483647) ∧ (0 ≤ ((v1 * 7) + v4) ∧ ((v1 * 7) + v4) < 119) ∧ ((0 : Int) ≤ v4 ∧ v4 ≤ 6 ∧ (0 : Int) ≤ v2 ∧ v2 ≤ 6) ∧ ((-2147483648 : Int) ≤ (M 91 ((v1 * 7) + v4)) + ((M 12 (v4 * 7 + v2))) ∧ (M 91 ((v1 * 7) + v4)) + ((M 12 (v4 * 7 + v2))) ≤ 2147483647) ∧ ((-2147483648 : Int) ≤ v4 + 1 ∧ v4 + 1 ≤ 2147483647)) ∧ X 4 [.inr 90, .inl v1, .inl v2, .inl (min v3 ((M 91 ((v1 * 7) + v4)) + ((M 12 (v4 * 7 + v2))))), .inl (v4 + 1), .inr 0] [] M))) :
    X 4 [.inr 90, .inl v1, .inl v2, .inl v3, .inl v4, .inr 0] [] M := by
  refine jk_load (pc := 4) hX 4 rfl rfl ?_
  refine jk_const (pc := 5) hX 7 rfl (by decide) ?_
  refine jk_cge (pc := 6) hX 28 rfl (fun q10 => ?_) (fun q11 => ?_)
  · have h1 := h.1 q10
    refine jk_load (pc := 28) hX 3 rfl rfl ?_
    exact jk_iret (pc := 29) hX rfl h1
  · have h2 := h.2 q11
    obtain ⟨⟨g3, g4, g5, g6, g7, g8⟩, h9⟩ := h2
    refine jk_aload (pc := 7) hX 0 rfl rfl ?_
    refine jk_getR (pc := 8) hX 4 2 rfl rfl (r := 90) rfl ?_
    refine jk_load (pc := 9) hX 1 rfl rfl ?_
    refine jk_const (pc := 10) hX 7 rfl (by decide) ?_
    refine jk_mul (pc := 11) hX rfl g3 ?_
    refine jk_load (pc := 12) hX 4 rfl rfl ?_
    refine jk_add (pc := 13) hX rfl g4 ?_
    refine jk_iald (pc := 14) hX 119 rfl rfl g5 ?_
    refine jk_aload (pc := 15) hX 0 rfl rfl ?_
    refine jk_getR (pc := 16) hX 4 0 rfl rfl (r := 3) rfl ?_
    refine jk_load (pc := 17) hX 4 rfl rfl ?_
    refine jk_load (pc := 18) hX 2 rfl rfl ?_
    refine jk_cv (pc := 19) hX 18 2 3 rfl 4 [.inl v4, .inl v2] [.inl (M 91 ((v1 * 7) + v4))] rfl rfl rfl (Nat.le_of_ble_eq_true rfl) (sp_M_connection d v4 v2 M g6 ?_)
    show X 20 [.inr 90, .inl v1, .inl v2, .inl v3, .inl v4, .inr 0] [.inl ((M 12 (v4 * 7 + v2))), .inl (M 91 ((v1 * 7) + v4))] M
    refine jk_add (pc := 20) hX rfl g7 ?_
    refine jk_store (pc := 21) hX 5 rfl (Nat.le_of_ble_eq_true rfl) (ls' := [.inr 90, .inl v1, .inl v2, .inl v3, .inl v4, .inl ((M 91 ((v1 * 7) + v4)) + ((M 12 (v4 * 7 + v2))))]) rfl ?_
    refine jk_load (pc := 22) hX 3 rfl rfl ?_
    refine jk_load (pc := 23) hX 5 rfl rfl ?_
    refine jk_min (pc := 24) hX rfl (by omega) (Nat.le_of_ble_eq_true rfl) ?_
    refine jk_store (pc := 25) hX 3 rfl (Nat.le_of_ble_eq_true rfl) (ls' := [.inr 90, .inl v1, .inl v2, .inl (min v3 ((M 91 ((v1 * 7) + v4)) + ((M 12 (v4 * 7 + v2))))), .inl v4, .inl ((M 91 ((v1 * 7) + v4)) + ((M 12 (v4 * 7 + v2))))]) rfl ?_
    refine jk_iinc (pc := 26) hX 4 1 rfl rfl g8 (ls' := [.inr 90, .inl v1, .inl v2, .inl (min v3 ((M 91 ((v1 * 7) + v4)) + ((M 12 (v4 * 7 + v2))))), .inl (v4 + 1), .inl ((M 91 ((v1 * 7) + v4)) + ((M 12 (v4 * 7 + v2))))]) rfl ?_
    refine jk_goto (pc := 27) hX 4 rfl ?_
    refine jk_forget (pc := 4) hX 5 (ls' := [.inr 90, .inl v1, .inl v2, .inl (min v3 ((M 91 ((v1 * 7) + v4)) + ((M 12 (v4 * 7 + v2))))), .inl (v4 + 1), .inr 0]) rfl ?_
    exact h9
set_option maxHeartbeats 4000000 in
theorem bk_L_sortByLength_0 {d : Nat} {K : jxK} {X : jxX} (hX : jx_clo jx_G1 (d + 0) (jx_call jx_G1 jx_T (d + 0)) kc_L_sortByLength K X) (M : jxM)
    (h : X 8 [.inr 83, .inr 5, .inl 0, .inl 6, .inr 0] [] M) :
    X 0 [.inr 83, .inr 0, .inr 0, .inr 0, .inr 0] [] M := by
  refine jk_aload (pc := 0) hX 0 rfl rfl ?_
  refine jk_getR (pc := 1) hX 2 0 rfl rfl (r := 3) rfl ?_
  refine jk_getR (pc := 2) hX 3 0 rfl rfl (r := 4) rfl ?_
  refine jk_astore (pc := 3) hX 1 rfl (Nat.le_of_ble_eq_true rfl) (ls' := [.inr 83, .inr 5, .inr 0, .inr 0, .inr 0]) rfl ?_
  refine jk_const (pc := 4) hX 0 rfl (by decide) ?_
  refine jk_store (pc := 5) hX 2 rfl (Nat.le_of_ble_eq_true rfl) (ls' := [.inr 83, .inr 5, .inl 0, .inr 0, .inr 0]) rfl ?_
  refine jk_const (pc := 6) hX 6 rfl (by decide) ?_
  refine jk_store (pc := 7) hX 3 rfl (Nat.le_of_ble_eq_true rfl) (ls' := [.inr 83, .inr 5, .inl 0, .inl 6, .inr 0]) rfl ?_
  exact h
set_option maxHeartbeats 4000000 in
theorem bk_L_sortByLength_8 {d : Nat} {K : jxK} {X : jxX} (hX : jx_clo jx_G1 (d + 0) (jx_call jx_G1 jx_T (d + 0)) kc_L_sortByLength K X) (v2 : Int) (v3 : Int) (M : jxM)
    (h : ((v3 ≤ 0 → K none M) ∧ (0 < v3 → X 12 [.inr 83, .inr 5, .inl v2, .inl v3, .inl 0] [] M))) :
    X 8 [.inr 83, .inr 5, .inl v2, .inl v3, .inr 0] [] M := by
  refine jk_load (pc := 8) hX 3 rfl rfl ?_
  refine jk_zle (pc := 9) hX 35 rfl (fun q3 => ?_) (fun q4 => ?_)
  · have h1 := h.1 q3
    exact jk_vret (pc := 35) hX rfl h1
  · have h2 := h.2 q4
    refine jk_const (pc := 10) hX 0 rfl (by decide) ?_
    refine jk_store (pc := 11) hX 4 rfl (Nat.le_of_ble_eq_true rfl) (ls' := [.inr 83, .inr 5, .inl v2, .inl v3, .inl 0]) rfl ?_
    exact h2
set_option maxHeartbeats 4000000 in
theorem bk_L_sortByLength_12 {d : Nat} {K : jxK} {X : jxX} (hX : jx_clo jx_G1 (d + 0) (jx_call jx_G1 jx_T (d + 0)) kc_L_sortByLength K X) (v2 : Int) (v3 : Int) (v4 : Int) (M : jxM)
    (h : (((M 5 6) ≤ v4 → (((-2147483648 : Int) ≤ v3 + (-1) ∧ v3 + (-1) ≤ 2147483647)) ∧ X 8 [.inr 83, .inr 5, .inl v2, .inl (v3 + (-1)), .inr 0] [] M) ∧ (v4 < (M 5 6) → ((0 ≤ v4 ∧ v4 < 20)) ∧ (((M 7 v4) ≠ v3 → (((-2147483648 : Int) ≤ v4 + 1 ∧ v4 + 1 ≤ 2147483647)) ∧ X 12 [.inr 83, .inr 5, .inl v2, .inl v3, .inl (v4 + 1)] [] M) ∧ ((M 7 v4) = v3 → ((20 ≤ v2 → (((-2147483648 : Int) ≤ v4 + 1 ∧ v4 + 1 ≤ 2147483647)) ∧ X 12 [.inr 83, .inr 5, .inl v2, .inl v3, .inl (v4 + 1)] [] M) ∧ (v2 < 20 → ((0 ≤ v2 ∧ v2 < 20) ∧ ((-2147483648 : Int) ≤ v2 + 1 ∧ v2 + 1 ≤ 2147483647) ∧ ((-2147483648 : Int) ≤ v4 + 1 ∧ v4 + 1 ≤ 2147483647)) ∧ X 12 [.inr 83, .inr 5, .inl (v2 + 1), .inl v3, .inl (v4 + 1)] [] (jx_up M 84 v2 v4)))))))) :
    X 12 [.inr 83, .inr 5, .inl v2, .inl v3, .inl v4] [] M := by
  refine jk_load (pc := 12) hX 4 rfl rfl ?_
  refine jk_aload (pc := 13) hX 1 rfl rfl ?_
  refine jk_getI (pc := 14) hX 0 6 rfl rfl rfl ?_
  refine jk_cge (pc := 15) hX 33 rfl (fun q23 => ?_) (fun q24 => ?_)
  · have h1 := h.1 q23
    obtain ⟨g3, h4⟩ := h1
    refine jk_iinc (pc := 33) hX 3 (-1) rfl rfl g3 (ls' := [.inr 83, .inr 5, .inl v2, .inl (v3 + (-1)), .inl v4]) rfl ?_
    refine jk_goto (pc := 34) hX 8 rfl ?_
    refine jk_forget (pc := 8) hX 4 (ls' := [.inr 83, .inr 5, .inl v2, .inl (v3 + (-1)), .inr 0]) rfl ?_
    exact h4
  · have h2 := h.2 q24
    obtain ⟨g5, h22⟩ := h2
    refine jk_aload (pc := 16) hX 1 rfl rfl ?_
    refine jk_getR (pc := 17) hX 0 1 rfl rfl (r := 6) rfl ?_
    refine jk_load (pc := 18) hX 4 rfl rfl ?_
    refine jk_iald (pc := 19) hX 20 rfl rfl g5 ?_
    refine jk_load (pc := 20) hX 3 rfl rfl ?_
    refine jk_cne (pc := 21) hX 31 rfl (fun q20 => ?_) (fun q21 => ?_)
    · have h6 := h22.1 q20
      obtain ⟨g8, h9⟩ := h6
      refine jk_iinc (pc := 31) hX 4 1 rfl rfl g8 (ls' := [.inr 83, .inr 5, .inl v2, .inl v3, .inl (v4 + 1)]) rfl ?_
      refine jk_goto (pc := 32) hX 12 rfl ?_
      exact h9
    · have h7 := h22.2 q21
      refine jk_load (pc := 22) hX 2 rfl rfl ?_
      refine jk_const (pc := 23) hX 20 rfl (by decide) ?_
      refine jk_cge (pc := 24) hX 31 rfl (fun q18 => ?_) (fun q19 => ?_)
      · have h10 := h7.1 q18
        obtain ⟨g12, h13⟩ := h10
        refine jk_iinc (pc := 31) hX 4 1 rfl rfl g12 (ls' := [.inr 83, .inr 5, .inl v2, .inl v3, .inl (v4 + 1)]) rfl ?_
        refine jk_goto (pc := 32) hX 12 rfl ?_
        exact h13
      · have h11 := h7.2 q19
        obtain ⟨⟨g14, g15, g16⟩, h17⟩ := h11
        refine jk_aload (pc := 25) hX 0 rfl rfl ?_
        refine jk_getR (pc := 26) hX 2 1 rfl rfl (r := 83) rfl ?_
        refine jk_load (pc := 27) hX 2 rfl rfl ?_
        refine jk_load (pc := 28) hX 4 rfl rfl ?_
        refine jk_iast (pc := 29) hX 20 rfl rfl g14 ?_
        refine jk_iinc (pc := 30) hX 2 1 rfl rfl g15 (ls' := [.inr 83, .inr 5, .inl (v2 + 1), .inl v3, .inl v4]) rfl ?_
        refine jk_iinc (pc := 31) hX 4 1 rfl rfl g16 (ls' := [.inr 83, .inr 5, .inl (v2 + 1), .inl v3, .inl (v4 + 1)]) rfl ?_
        refine jk_goto (pc := 32) hX 12 rfl ?_
        exact h17
set_option maxHeartbeats 4000000 in
theorem bk_L_addSlot_0 {d : Nat} {K : jxK} {X : jxX} (hX : jx_clo jx_G1 (d + 1) (jx_call jx_G1 jx_T (d + 1)) kc_L_addSlot K X) (v1 : Int) (v2 : Int) (v3 : Int) (v4 : Int) (v5 : Int) (M : jxM)
    (h : ((0 ≤ v1 ∧ v1 < 17)) ∧ ((21 ≤ (M 85 v1) → K none M) ∧ ((M 85 v1) < 21 → (((0 : Int) ≤ v1 ∧ v1 ≤ 16 ∧ (0 : Int) ≤ v2 ∧ v2 ≤ 16)) ∧ ((m_may M v1 v2 → (((-2147483648 : Int) ≤ v1 * 21 ∧ v1 * 21 ≤ 2147483647) ∧ (0 ≤ v1 ∧ v1 < 17) ∧ ((-2147483648 : Int) ≤ (v1 * 21) + (M 85 v1) ∧ (v1 * 21) + (M 85 v1) ≤ 2147483647) ∧ (0 ≤ ((v1 * 21) + (M 85 v1)) ∧ ((v1 * 21) + (M 85 v1)) < 357) ∧ (0 ≤ ((v1 * 21) + (M 85 v1)) ∧ ((v1 * 21) + (M 85 v1)) < 357) ∧ (0 ≤ ((v1 * 21) + (M 85 v1)) ∧ ((v1 * 21) + (M 85 v1)) < 357) ∧ (0 ≤ ((v1 * 21) + (M 85 v1)) ∧ ((v1 * 21) + (M 85 v1)) < 357) ∧ (0 ≤ v1 ∧ v1 < 17) ∧ ((-2147483648 : Int) ≤ (M 85 v1) + 1 ∧ (M 85 v1) + 1 ≤ 2147483647) ∧ (0 ≤ v1 ∧ v1 < 17)) ∧ K none (jx_up (jx_up (jx_up (jx_up (jx_up M 86 ((v1 * 21) + (M 85 v1)) v3) 87 ((v1 * 21) + (M 85 v1)) v2) 88 ((v1 * 21) + (M 85 v1)) v4) 89 ((v1 * 21) + (M 85 v1)) v5) 85 v1 ((M 85 v1) + 1))) ∧ (¬ (m_may M v1 v2) → K none M))))) :
    X 0 [.inr 83, .inl v1, .inl v2, .inl v3, .inl v4, .inl v5, .inr 0] [] M := by
  obtain ⟨g1, h23⟩ := h
  refine jk_aload (pc := 0) hX 0 rfl rfl ?_
  refine jk_getR (pc := 1) hX 2 2 rfl rfl (r := 84) rfl ?_
  refine jk_load (pc := 2) hX 1 rfl rfl ?_
  refine jk_iald (pc := 3) hX 17 rfl rfl g1 ?_
  refine jk_const (pc := 4) hX 21 rfl (by decide) ?_
  refine jk_cge (pc := 5) hX 12 rfl (fun q21 => ?_) (fun q22 => ?_)
  · have h2 := h23.1 q21
    exact jk_vret (pc := 12) hX rfl h2
  · have h3 := h23.2 q22
    obtain ⟨g4, h20⟩ := h3
    refine jk_aload (pc := 6) hX 0 rfl rfl ?_
    refine jk_getR (pc := 7) hX 2 0 rfl rfl (r := 3) rfl ?_
    refine jk_load (pc := 8) hX 1 rfl rfl ?_
    refine jk_load (pc := 9) hX 2 rfl rfl ?_
    refine jk_cv (pc := 10) hX 20 2 3 rfl 4 [.inl v1, .inl v2] [] rfl rfl rfl (Nat.le_of_ble_eq_true rfl) (sp_M_allowsSegment d v1 v2 M g4 ?_)
    show X 11 [.inr 83, .inl v1, .inl v2, .inl v3, .inl v4, .inl v5, .inr 0] [.inl (jx_b (m_may M v1 v2))] M
    refine jk_zneB (pc := 11) hX 13 rfl (fun q18 => ?_) (fun q19 => ?_)
    · have h5 := h20.1 q18
      obtain ⟨⟨g7, g8, g9, g10, g11, g12, g13, g14, g15, g16⟩, h17⟩ := h5
      refine jk_load (pc := 13) hX 1 rfl rfl ?_
      refine jk_const (pc := 14) hX 21 rfl (by decide) ?_
      refine jk_mul (pc := 15) hX rfl g7 ?_
      refine jk_aload (pc := 16) hX 0 rfl rfl ?_
      refine jk_getR (pc := 17) hX 2 2 rfl rfl (r := 84) rfl ?_
      refine jk_load (pc := 18) hX 1 rfl rfl ?_
      refine jk_iald (pc := 19) hX 17 rfl rfl g8 ?_
      refine jk_add (pc := 20) hX rfl g9 ?_
      refine jk_store (pc := 21) hX 6 rfl (Nat.le_of_ble_eq_true rfl) (ls' := [.inr 83, .inl v1, .inl v2, .inl v3, .inl v4, .inl v5, .inl ((v1 * 21) + (M 85 v1))]) rfl ?_
      refine jk_aload (pc := 22) hX 0 rfl rfl ?_
      refine jk_getR (pc := 23) hX 2 3 rfl rfl (r := 85) rfl ?_
      refine jk_load (pc := 24) hX 6 rfl rfl ?_
      refine jk_load (pc := 25) hX 3 rfl rfl ?_
      refine jk_iast (pc := 26) hX 357 rfl rfl g10 ?_
      refine jk_aload (pc := 27) hX 0 rfl rfl ?_
      refine jk_getR (pc := 28) hX 2 4 rfl rfl (r := 86) rfl ?_
      refine jk_load (pc := 29) hX 6 rfl rfl ?_
      refine jk_load (pc := 30) hX 2 rfl rfl ?_
      refine jk_iast (pc := 31) hX 357 rfl rfl g11 ?_
      refine jk_aload (pc := 32) hX 0 rfl rfl ?_
      refine jk_getR (pc := 33) hX 2 5 rfl rfl (r := 87) rfl ?_
      refine jk_load (pc := 34) hX 6 rfl rfl ?_
      refine jk_load (pc := 35) hX 4 rfl rfl ?_
      refine jk_iast (pc := 36) hX 357 rfl rfl g12 ?_
      refine jk_aload (pc := 37) hX 0 rfl rfl ?_
      refine jk_getR (pc := 38) hX 2 6 rfl rfl (r := 88) rfl ?_
      refine jk_load (pc := 39) hX 6 rfl rfl ?_
      refine jk_load (pc := 40) hX 5 rfl rfl ?_
      refine jk_iast (pc := 41) hX 357 rfl rfl g13 ?_
      refine jk_aload (pc := 42) hX 0 rfl rfl ?_
      refine jk_getR (pc := 43) hX 2 2 rfl rfl (r := 84) rfl ?_
      refine jk_load (pc := 44) hX 1 rfl rfl ?_
      refine jk_dup2 (pc := 45) hX rfl ?_
      refine jk_iald (pc := 46) hX 17 rfl rfl g14 (jx_vX ((jx_upc (by decide)).trans ((jx_upc (by decide)).trans ((jx_upc (by decide)).trans (jx_upc (by decide))))) ?_)
      refine jk_const (pc := 47) hX 1 rfl (by decide) ?_
      refine jk_add (pc := 48) hX rfl g15 ?_
      refine jk_iast (pc := 49) hX 17 rfl rfl g16 ?_
      exact jk_vret (pc := 50) hX rfl h17
    · have h6 := h20.2 q19
      exact jk_vret (pc := 12) hX rfl h6
set_option maxHeartbeats 4000000 in
theorem bk_L_addEntriesAt_0 {d : Nat} {K : jxK} {X : jxX} (hX : jx_clo jx_G1 (d + 2) (jx_call jx_G1 jx_T (d + 2)) kc_L_addEntriesAt K X) (v1 : Int) (M : jxM)
    (h : X 6 [.inr 83, .inl v1, .inr 5, .inl 0, .inr 0] [] M) :
    X 0 [.inr 83, .inl v1, .inr 0, .inr 0, .inr 0] [] M := by
  refine jk_aload (pc := 0) hX 0 rfl rfl ?_
  refine jk_getR (pc := 1) hX 2 0 rfl rfl (r := 3) rfl ?_
  refine jk_getR (pc := 2) hX 3 0 rfl rfl (r := 4) rfl ?_
  refine jk_astore (pc := 3) hX 2 rfl (Nat.le_of_ble_eq_true rfl) (ls' := [.inr 83, .inl v1, .inr 5, .inr 0, .inr 0]) rfl ?_
  refine jk_const (pc := 4) hX 0 rfl (by decide) ?_
  refine jk_store (pc := 5) hX 3 rfl (Nat.le_of_ble_eq_true rfl) (ls' := [.inr 83, .inl v1, .inr 5, .inl 0, .inr 0]) rfl ?_
  exact h
set_option maxHeartbeats 4000000 in
theorem bk_L_addEntriesAt_6 {d : Nat} {K : jxK} {X : jxX} (hX : jx_clo jx_G1 (d + 2) (jx_call jx_G1 jx_T (d + 2)) kc_L_addEntriesAt K X) (v1 : Int) (v3 : Int) (M : jxM)
    (h : (((M 5 6) ≤ v3 → K none M) ∧ (v3 < (M 5 6) → ((0 ≤ v3 ∧ v3 < 20) ∧ (((0 : Int) ≤ (M 84 v3) ∧ (M 84 v3) < 20) ∧ ((0 : Int) ≤ (M 7 (M 84 v3)) ∧ (M 7 (M 84 v3)) ≤ 6) ∧ (M 4 5) ≤ 16 ∧ (0 : Int) ≤ v1 ∧ v1 ≤ 16)) ∧ ((¬ (m_stands M (M 84 v3) v1) → (((-2147483648 : Int) ≤ v3 + 1 ∧ v3 + 1 ≤ 2147483647)) ∧ X 6 [.inr 83, .inl v1, .inr 5, .inl (v3 + 1), .inr 0] [] M) ∧ (m_stands M (M 84 v3) v1 → ((0 ≤ (M 84 v3) ∧ (M 84 v3) < 20) ∧ ((-2147483648 : Int) ≤ v1 + (M 7 (M 84 v3)) ∧ v1 + (M 7 (M 84 v3)) ≤ 2147483647) ∧ (0 ≤ (M 84 v3) ∧ (M 84 v3) < 20) ∧ (((0 : Int) ≤ (M 84 v3) ∧ (M 84 v3) < 20) ∧ ((0 : Int) ≤ (M 10 (M 84 v3)) ∧ (M 10 (M 84 v3)) ≤ 99) ∧ ((0 : Int) ≤ (M 11 (M 84 v3)) ∧ (M 11 (M 84 v3)) ≤ 9))) ∧ jx_call jx_G1 jx_T (d + 2) 14 [.inr 83, .inl v1, .inl (v1 + (M 7 (M 84 v3))), .inl (M 84 v3), .inl (M 9 (M 84 v3)), .inl (max 0 ((M 10 (M 84 v3)) - 3 * (M 11 (M 84 v3))))] M (fun r M14 => r = none ∧ (((-2147483648 : Int) ≤ v3 + 1 ∧ v3 + 1 ≤ 2147483647)) ∧ X 6 [.inr 83, .inl v1, .inr 5, .inl (v3 + 1), .inr 0] [] M14)))))) :
    X 6 [.inr 83, .inl v1, .inr 5, .inl v3, .inr 0] [] M := by
  refine jk_load (pc := 6) hX 3 rfl rfl ?_
  refine jk_aload (pc := 7) hX 2 rfl rfl ?_
  refine jk_getI (pc := 8) hX 0 6 rfl rfl rfl ?_
  refine jk_cge (pc := 9) hX 40 rfl (fun q22 => ?_) (fun q23 => ?_)
  · have h1 := h.1 q22
    exact jk_vret (pc := 40) hX rfl h1
  · have h2 := h.2 q23
    obtain ⟨⟨g3, g4⟩, h21⟩ := h2
    refine jk_aload (pc := 10) hX 0 rfl rfl ?_
    refine jk_getR (pc := 11) hX 2 1 rfl rfl (r := 83) rfl ?_
    refine jk_load (pc := 12) hX 3 rfl rfl ?_
    refine jk_iald (pc := 13) hX 20 rfl rfl g3 ?_
    refine jk_store (pc := 14) hX 4 rfl (Nat.le_of_ble_eq_true rfl) (ls' := [.inr 83, .inl v1, .inr 5, .inl v3, .inl (M 84 v3)]) rfl ?_
    refine jk_aload (pc := 15) hX 0 rfl rfl ?_
    refine jk_getR (pc := 16) hX 2 0 rfl rfl (r := 3) rfl ?_
    refine jk_load (pc := 17) hX 4 rfl rfl ?_
    refine jk_load (pc := 18) hX 1 rfl rfl ?_
    refine jk_cv (pc := 19) hX 19 2 3 rfl 4 [.inl (M 84 v3), .inl v1] [] rfl rfl rfl (Nat.le_of_ble_eq_true rfl) (sp_M_standsAt (d + 1) (M 84 v3) v1 M g4 ?_)
    show X 20 [.inr 83, .inl v1, .inr 5, .inl v3, .inl (M 84 v3)] [.inl (jx_b (m_stands M (M 84 v3) v1))] M
    refine jk_zeqB (pc := 20) hX 38 rfl (fun q19 => ?_) (fun q20 => ?_)
    · have h5 := h21.1 q19
      obtain ⟨g7, h8⟩ := h5
      refine jk_iinc (pc := 38) hX 3 1 rfl rfl g7 (ls' := [.inr 83, .inl v1, .inr 5, .inl (v3 + 1), .inl (M 84 v3)]) rfl ?_
      refine jk_goto (pc := 39) hX 6 rfl ?_
      refine jk_forget (pc := 6) hX 4 (ls' := [.inr 83, .inl v1, .inr 5, .inl (v3 + 1), .inr 0]) rfl ?_
      exact h8
    · have h6 := h21.2 q20
      obtain ⟨⟨g9, g10, g11, g12⟩, h18⟩ := h6
      refine jk_aload (pc := 21) hX 0 rfl rfl ?_
      refine jk_load (pc := 22) hX 1 rfl rfl ?_
      refine jk_load (pc := 23) hX 1 rfl rfl ?_
      refine jk_aload (pc := 24) hX 2 rfl rfl ?_
      refine jk_getR (pc := 25) hX 0 1 rfl rfl (r := 6) rfl ?_
      refine jk_load (pc := 26) hX 4 rfl rfl ?_
      refine jk_iald (pc := 27) hX 20 rfl rfl g9 ?_
      refine jk_add (pc := 28) hX rfl g10 ?_
      refine jk_load (pc := 29) hX 4 rfl rfl ?_
      refine jk_aload (pc := 30) hX 2 rfl rfl ?_
      refine jk_getR (pc := 31) hX 0 3 rfl rfl (r := 8) rfl ?_
      refine jk_load (pc := 32) hX 4 rfl rfl ?_
      refine jk_iald (pc := 33) hX 20 rfl rfl g11 ?_
      refine jk_aload (pc := 34) hX 2 rfl rfl ?_
      refine jk_load (pc := 35) hX 4 rfl rfl ?_
      refine jk_cv (pc := 36) hX 6 1 0 rfl 5 [.inl (M 84 v3)] [.inl (M 9 (M 84 v3)), .inl (M 84 v3), .inl (v1 + (M 7 (M 84 v3))), .inl v1, .inr 83] rfl rfl rfl (Nat.le_of_ble_eq_true rfl) (sp_D_presentCost d (M 84 v3) M g12 ?_)
      show X 37 [.inr 83, .inl v1, .inr 5, .inl v3, .inl (M 84 v3)] [.inl (max 0 ((M 10 (M 84 v3)) - 3 * (M 11 (M 84 v3)))), .inl (M 9 (M 84 v3)), .inl (M 84 v3), .inl (v1 + (M 7 (M 84 v3))), .inl v1, .inr 83] M
      refine jk_cv (pc := 37) hX 14 5 2 rfl 83 [.inl v1, .inl (v1 + (M 7 (M 84 v3))), .inl (M 84 v3), .inl (M 9 (M 84 v3)), .inl (max 0 ((M 10 (M 84 v3)) - 3 * (M 11 (M 84 v3))))] [] rfl rfl rfl (Nat.le_of_ble_eq_true rfl) (jx_mono (fun r M14 hr => ?_) h18)
      obtain ⟨rfl, h15⟩ := hr
      show X 38 [.inr 83, .inl v1, .inr 5, .inl v3, .inl (M 84 v3)] [] M14
      obtain ⟨g16, h17⟩ := h15
      refine jk_iinc (pc := 38) hX 3 1 rfl rfl g16 (ls' := [.inr 83, .inl v1, .inr 5, .inl (v3 + 1), .inl (M 84 v3)]) rfl ?_
      refine jk_goto (pc := 39) hX 6 rfl ?_
      refine jk_forget (pc := 6) hX 4 (ls' := [.inr 83, .inl v1, .inr 5, .inl (v3 + 1), .inr 0]) rfl ?_
      exact h17
set_option maxHeartbeats 4000000 in
theorem bk_L_build_0 {d : Nat} {K : jxK} {X : jxX} (hX : jx_clo jx_G1 (d + 3) (jx_call jx_G1 jx_T (d + 3)) kc_L_build K X) (M : jxM)
    (h : jx_call jx_G1 jx_T (d + 3) 12 [.inr 83] M (fun r M2 => r = none ∧ jx_call jx_G1 jx_T (d + 3) 127 [.inr 85, .inl 0] M2 (fun r M5 => r = none ∧ X 8 [.inr 83, .inl 0] [] M5))) :
    X 0 [.inr 83, .inr 0] [] M := by
  refine jk_aload (pc := 0) hX 0 rfl rfl ?_
  refine jk_cv (pc := 1) hX 12 0 2 rfl 83 [] [] rfl rfl rfl (Nat.le_of_ble_eq_true rfl) (jx_mono (fun r M2 hr => ?_) h)
  obtain ⟨rfl, h3⟩ := hr
  show X 2 [.inr 83, .inr 0] [] M2
  refine jk_aload (pc := 2) hX 0 rfl rfl ?_
  refine jk_getR (pc := 3) hX 2 2 rfl rfl (r := 84) rfl ?_
  refine jk_const (pc := 4) hX 0 rfl (by decide) ?_
  refine jk_cs (pc := 5) hX 127 2 rfl [.inr 85, .inl 0] [] rfl rfl (Nat.le_of_ble_eq_true rfl) (jx_mono (fun r M5 hr => ?_) h3)
  obtain ⟨rfl, h6⟩ := hr
  show X 6 [.inr 83, .inr 0] [] M5
  refine jk_const (pc := 6) hX 0 rfl (by decide) ?_
  refine jk_store (pc := 7) hX 1 rfl (Nat.le_of_ble_eq_true rfl) (ls' := [.inr 83, .inl 0]) rfl ?_
  exact h6
set_option maxHeartbeats 4000000 in
theorem bk_L_build_8 {d : Nat} {K : jxK} {X : jxX} (hX : jx_clo jx_G1 (d + 3) (jx_call jx_G1 jx_T (d + 3)) kc_L_build K X) (v1 : Int) (M : jxM)
    (h : (((M 4 5) ≤ v1 → K none M) ∧ (v1 < (M 4 5) → jx_call jx_G1 jx_T (d + 3) 13 [.inr 83, .inl v1] M (fun r M4 => r = none ∧ (((-2147483648 : Int) ≤ v1 + 1 ∧ v1 + 1 ≤ 2147483647)) ∧ jx_call jx_G1 jx_T (d + 3) 14 [.inr 83, .inl v1, .inl (v1 + 1), .inl (-5), .inl 5, .inl (M4 4 4)] M4 (fun r M8 => r = none ∧ (((-2147483648 : Int) ≤ v1 + 1 ∧ v1 + 1 ≤ 2147483647)) ∧ X 8 [.inr 83, .inl (v1 + 1)] [] M8))))) :
    X 8 [.inr 83, .inl v1] [] M := by
  refine jk_load (pc := 8) hX 1 rfl rfl ?_
  refine jk_aload (pc := 9) hX 0 rfl rfl ?_
  refine jk_getR (pc := 10) hX 2 0 rfl rfl (r := 3) rfl ?_
  refine jk_getI (pc := 11) hX 3 5 rfl rfl rfl ?_
  refine jk_cge (pc := 12) hX 29 rfl (fun q13 => ?_) (fun q14 => ?_)
  · have h1 := h.1 q13
    exact jk_vret (pc := 29) hX rfl h1
  · have h2 := h.2 q14
    refine jk_aload (pc := 13) hX 0 rfl rfl ?_
    refine jk_load (pc := 14) hX 1 rfl rfl ?_
    refine jk_cv (pc := 15) hX 13 1 2 rfl 83 [.inl v1] [] rfl rfl rfl (Nat.le_of_ble_eq_true rfl) (jx_mono (fun r M4 hr => ?_) h2)
    obtain ⟨rfl, h5⟩ := hr
    show X 16 [.inr 83, .inl v1] [] M4
    obtain ⟨g6, h12⟩ := h5
    refine jk_aload (pc := 16) hX 0 rfl rfl ?_
    refine jk_load (pc := 17) hX 1 rfl rfl ?_
    refine jk_load (pc := 18) hX 1 rfl rfl ?_
    refine jk_const (pc := 19) hX 1 rfl (by decide) ?_
    refine jk_add (pc := 20) hX rfl g6 ?_
    refine jk_const (pc := 21) hX (-5) rfl (by decide) ?_
    refine jk_const (pc := 22) hX 5 rfl (by decide) ?_
    refine jk_aload (pc := 23) hX 0 rfl rfl ?_
    refine jk_getR (pc := 24) hX 2 0 rfl rfl (r := 3) rfl ?_
    refine jk_getI (pc := 25) hX 3 4 rfl rfl rfl ?_
    refine jk_cv (pc := 26) hX 14 5 2 rfl 83 [.inl v1, .inl (v1 + 1), .inl (-5), .inl 5, .inl (M4 4 4)] [] rfl rfl rfl (Nat.le_of_ble_eq_true rfl) (jx_mono (fun r M8 hr => ?_) h12)
    obtain ⟨rfl, h9⟩ := hr
    show X 27 [.inr 83, .inl v1] [] M8
    obtain ⟨g10, h11⟩ := h9
    refine jk_iinc (pc := 27) hX 1 1 rfl rfl g10 (ls' := [.inr 83, .inl (v1 + 1)]) rfl ?_
    refine jk_goto (pc := 28) hX 8 rfl ?_
    exact h11
set_option maxHeartbeats 4000000 in
theorem bk_F_findSegments_0 {d : Nat} {K : jxK} {X : jxX} (hX : jx_clo jx_G2 (d + 2) (jx_call jx_G2 jx_T (d + 2)) kc_F_findSegments K X) (v1 : Int) (M : jxM)
    (h : X 5 [.inr 1, .inl v1, .inl 6, .inr 0] [] (jx_up M 1 6 0)) :
    X 0 [.inr 1, .inl v1, .inr 0, .inr 0] [] M := by
  refine jk_aload (pc := 0) hX 0 rfl rfl ?_
  refine jk_const (pc := 1) hX 0 rfl (by decide) ?_
  refine jk_put (pc := 2) hX 7 6 rfl rfl rfl ?_
  refine jk_const (pc := 3) hX 6 rfl (by decide) ?_
  refine jk_store (pc := 4) hX 2 rfl (Nat.le_of_ble_eq_true rfl) (ls' := [.inr 1, .inl v1, .inl 6, .inr 0]) rfl ?_
  exact h
set_option maxHeartbeats 4000000 in
theorem bk_F_findSegments_5 {d : Nat} {K : jxK} {X : jxX} (hX : jx_clo jx_G2 (d + 2) (jx_call jx_G2 jx_T (d + 2)) kc_F_findSegments K X) (v1 : Int) (v2 : Int) (M : jxM)
    (h : ((v2 ≤ 0 → (((-2147483648 : Int) ≤ v1 + 1 ∧ v1 + 1 ≤ 2147483647) ∧ ((0 : Int) ≤ v1 ∧ v1 ≤ 16 ∧ (0 : Int) ≤ (v1 + 1) ∧ (v1 + 1) ≤ 16)) ∧ ((¬ (f_may (M 2) v1 (v1 + 1)) → K none M) ∧ (f_may (M 2) v1 (v1 + 1) → ((0 ≤ (M 1 6) ∧ (M 1 6) < 21) ∧ ((-2147483648 : Int) ≤ (M 1 6) + 1 ∧ (M 1 6) + 1 ≤ 2147483647)) ∧ K none (jx_up (jx_up M 5 (M 1 6) (-5)) 1 6 ((M 1 6) + 1))))) ∧ (0 < v2 → X 9 [.inr 1, .inl v1, .inl v2, .inl 0] [] M))) :
    X 5 [.inr 1, .inl v1, .inl v2, .inr 0] [] M := by
  refine jk_load (pc := 5) hX 2 rfl rfl ?_
  refine jk_zle (pc := 6) hX 50 rfl (fun q13 => ?_) (fun q14 => ?_)
  · have h1 := h.1 q13
    obtain ⟨⟨g3, g4⟩, h12⟩ := h1
    refine jk_aload (pc := 50) hX 0 rfl rfl ?_
    refine jk_load (pc := 51) hX 1 rfl rfl ?_
    refine jk_load (pc := 52) hX 1 rfl rfl ?_
    refine jk_const (pc := 53) hX 1 rfl (by decide) ?_
    refine jk_add (pc := 54) hX rfl g3 ?_
    refine jk_cv (pc := 55) hX 105 2 7 rfl 1 [.inl v1, .inl (v1 + 1)] [] rfl rfl rfl (Nat.le_of_ble_eq_true rfl) (sp_F_mayCover (d + 1) v1 (v1 + 1) M g4 ?_)
    show X 56 [.inr 1, .inl v1, .inl v2, .inr 0] [.inl (jx_b (f_may (M 2) v1 (v1 + 1)))] M
    refine jk_zeqB (pc := 56) hX 69 rfl (fun q10 => ?_) (fun q11 => ?_)
    · have h5 := h12.1 q10
      exact jk_vret (pc := 69) hX rfl h5
    · have h6 := h12.2 q11
      obtain ⟨⟨g7, g8⟩, h9⟩ := h6
      refine jk_aload (pc := 57) hX 0 rfl rfl ?_
      refine jk_getR (pc := 58) hX 7 7 rfl rfl (r := 4) rfl ?_
      refine jk_aload (pc := 59) hX 0 rfl rfl ?_
      refine jk_getI (pc := 60) hX 7 6 rfl rfl rfl ?_
      refine jk_const (pc := 61) hX (-5) rfl (by decide) ?_
      refine jk_iast (pc := 62) hX 21 rfl rfl g7 ?_
      refine jk_aload (pc := 63) hX 0 rfl rfl ?_
      refine jk_dup (pc := 64) hX rfl ?_
      refine jk_getI (pc := 65) hX 7 6 rfl rfl rfl (jx_vX (jx_upc (by decide)) ?_)
      refine jk_const (pc := 66) hX 1 rfl (by decide) ?_
      refine jk_add (pc := 67) hX rfl g8 ?_
      refine jk_put (pc := 68) hX 7 6 rfl rfl rfl ?_
      exact jk_vret (pc := 69) hX rfl h9
  · have h2 := h.2 q14
    refine jk_const (pc := 7) hX 0 rfl (by decide) ?_
    refine jk_store (pc := 8) hX 3 rfl (Nat.le_of_ble_eq_true rfl) (ls' := [.inr 1, .inl v1, .inl v2, .inl 0]) rfl ?_
    exact h2
set_option maxHeartbeats 4000000 in
theorem bk_F_findSegments_9 {d : Nat} {K : jxK} {X : jxX} (hX : jx_clo jx_G2 (d + 2) (jx_call jx_G2 jx_T (d + 2)) kc_F_findSegments K X) (v1 : Int) (v2 : Int) (v3 : Int) (M : jxM)
    (h : (((M 2 0) ≤ v3 → (((-2147483648 : Int) ≤ v2 + (-1) ∧ v2 + (-1) ≤ 2147483647)) ∧ X 5 [.inr 1, .inl v1, .inl (v2 + (-1)), .inr 0] [] M) ∧ (v3 < (M 2 0) → (((0 : Int) ≤ v3 ∧ v3 ≤ 20) ∧ (0 ≤ (1 + 11 * v3) ∧ (1 + 11 * v3) < 305)) ∧ (((M 2 (1 + 11 * v3)) ≠ v2 → (((-2147483648 : Int) ≤ v3 + 1 ∧ v3 + 1 ≤ 2147483647)) ∧ X 9 [.inr 1, .inl v1, .inl v2, .inl (v3 + 1)] [] M) ∧ ((M 2 (1 + 11 * v3)) = v2 → ((((0 : Int) ≤ v3 ∧ v3 < 20) ∧ ((0 : Int) ≤ (M 2 (1 + 11 * v3)) ∧ (M 2 (1 + 11 * v3)) ≤ 6) ∧ (M 2 271) ≤ 16 ∧ (0 : Int) ≤ v1 ∧ v1 ≤ 16)) ∧ ((¬ (f_stands (M 2) v3 v1) → (((-2147483648 : Int) ≤ v3 + 1 ∧ v3 + 1 ≤ 2147483647)) ∧ X 9 [.inr 1, .inl v1, .inl v2, .inl (v3 + 1)] [] M) ∧ (f_stands (M 2) v3 v1 → (((-2147483648 : Int) ≤ v1 + v2 ∧ v1 + v2 ≤ 2147483647) ∧ ((0 : Int) ≤ v1 ∧ v1 ≤ 16 ∧ (0 : Int) ≤ (v1 + v2) ∧ (v1 + v2) ≤ 16)) ∧ ((¬ (f_may (M 2) v1 (v1 + v2)) → (((-2147483648 : Int) ≤ v3 + 1 ∧ v3 + 1 ≤ 2147483647)) ∧ X 9 [.inr 1, .inl v1, .inl v2, .inl (v3 + 1)] [] M) ∧ (f_may (M 2) v1 (v1 + v2) → ((0 ≤ (M 1 6) ∧ (M 1 6) < 21) ∧ ((-2147483648 : Int) ≤ (M 1 6) + 1 ∧ (M 1 6) + 1 ≤ 2147483647) ∧ ((-2147483648 : Int) ≤ v3 + 1 ∧ v3 + 1 ≤ 2147483647)) ∧ X 9 [.inr 1, .inl v1, .inl v2, .inl (v3 + 1)] [] (jx_up (jx_up M 5 (M 1 6) v3) 1 6 ((M 1 6) + 1))))))))))) :
    X 9 [.inr 1, .inl v1, .inl v2, .inl v3] [] M := by
  refine jk_load (pc := 9) hX 3 rfl rfl ?_
  refine jk_aload (pc := 10) hX 0 rfl rfl ?_
  refine jk_getR (pc := 11) hX 7 0 rfl rfl (r := 1) rfl ?_
  refine jk_const (pc := 12) hX 0 rfl (by decide) ?_
  refine jk_iald (pc := 13) hX 305 rfl rfl (by decide) ?_
  refine jk_cge (pc := 14) hX 48 rfl (fun q35 => ?_) (fun q36 => ?_)
  · have h1 := h.1 q35
    obtain ⟨g3, h4⟩ := h1
    refine jk_iinc (pc := 48) hX 2 (-1) rfl rfl g3 (ls' := [.inr 1, .inl v1, .inl (v2 + (-1)), .inl v3]) rfl ?_
    refine jk_goto (pc := 49) hX 5 rfl ?_
    refine jk_forget (pc := 5) hX 3 (ls' := [.inr 1, .inl v1, .inl (v2 + (-1)), .inr 0]) rfl ?_
    exact h4
  · have h2 := h.2 q36
    obtain ⟨⟨g5, g6⟩, h34⟩ := h2
    refine jk_aload (pc := 15) hX 0 rfl rfl ?_
    refine jk_getR (pc := 16) hX 7 0 rfl rfl (r := 1) rfl ?_
    refine jk_load (pc := 17) hX 3 rfl rfl ?_
    refine jk_cs (pc := 18) hX 86 1 rfl [.inl v3] [.inr 2] rfl rfl (Nat.le_of_ble_eq_true rfl) (sp_F_at (d + 1) v3 M g5 ?_)
    show X 19 [.inr 1, .inl v1, .inl v2, .inl v3] [.inl (1 + 11 * v3), .inr 2] M
    refine jk_iald (pc := 19) hX 305 rfl rfl g6 ?_
    refine jk_load (pc := 20) hX 2 rfl rfl ?_
    refine jk_cne (pc := 21) hX 46 rfl (fun q32 => ?_) (fun q33 => ?_)
    · have h7 := h34.1 q32
      obtain ⟨g9, h10⟩ := h7
      refine jk_iinc (pc := 46) hX 3 1 rfl rfl g9 (ls' := [.inr 1, .inl v1, .inl v2, .inl (v3 + 1)]) rfl ?_
      refine jk_goto (pc := 47) hX 9 rfl ?_
      exact h10
    · have h8 := h34.2 q33
      obtain ⟨g11, h31⟩ := h8
      refine jk_aload (pc := 22) hX 0 rfl rfl ?_
      refine jk_load (pc := 23) hX 3 rfl rfl ?_
      refine jk_load (pc := 24) hX 1 rfl rfl ?_
      refine jk_cv (pc := 25) hX 103 2 7 rfl 1 [.inl v3, .inl v1] [] rfl rfl rfl (Nat.le_of_ble_eq_true rfl) (sp_F_stands d v3 v1 M g11 ?_)
      show X 26 [.inr 1, .inl v1, .inl v2, .inl v3] [.inl (jx_b (f_stands (M 2) v3 v1))] M
      refine jk_zeqB (pc := 26) hX 46 rfl (fun q29 => ?_) (fun q30 => ?_)
      · have h12 := h31.1 q29
        obtain ⟨g14, h15⟩ := h12
        refine jk_iinc (pc := 46) hX 3 1 rfl rfl g14 (ls' := [.inr 1, .inl v1, .inl v2, .inl (v3 + 1)]) rfl ?_
        refine jk_goto (pc := 47) hX 9 rfl ?_
        exact h15
      · have h13 := h31.2 q30
        obtain ⟨⟨g16, g17⟩, h28⟩ := h13
        refine jk_aload (pc := 27) hX 0 rfl rfl ?_
        refine jk_load (pc := 28) hX 1 rfl rfl ?_
        refine jk_load (pc := 29) hX 1 rfl rfl ?_
        refine jk_load (pc := 30) hX 2 rfl rfl ?_
        refine jk_add (pc := 31) hX rfl g16 ?_
        refine jk_cv (pc := 32) hX 105 2 7 rfl 1 [.inl v1, .inl (v1 + v2)] [] rfl rfl rfl (Nat.le_of_ble_eq_true rfl) (sp_F_mayCover (d + 1) v1 (v1 + v2) M g17 ?_)
        show X 33 [.inr 1, .inl v1, .inl v2, .inl v3] [.inl (jx_b (f_may (M 2) v1 (v1 + v2)))] M
        refine jk_zeqB (pc := 33) hX 46 rfl (fun q26 => ?_) (fun q27 => ?_)
        · have h18 := h28.1 q26
          obtain ⟨g20, h21⟩ := h18
          refine jk_iinc (pc := 46) hX 3 1 rfl rfl g20 (ls' := [.inr 1, .inl v1, .inl v2, .inl (v3 + 1)]) rfl ?_
          refine jk_goto (pc := 47) hX 9 rfl ?_
          exact h21
        · have h19 := h28.2 q27
          obtain ⟨⟨g22, g23, g24⟩, h25⟩ := h19
          refine jk_aload (pc := 34) hX 0 rfl rfl ?_
          refine jk_getR (pc := 35) hX 7 7 rfl rfl (r := 4) rfl ?_
          refine jk_aload (pc := 36) hX 0 rfl rfl ?_
          refine jk_getI (pc := 37) hX 7 6 rfl rfl rfl ?_
          refine jk_load (pc := 38) hX 3 rfl rfl ?_
          refine jk_iast (pc := 39) hX 21 rfl rfl g22 ?_
          refine jk_aload (pc := 40) hX 0 rfl rfl ?_
          refine jk_dup (pc := 41) hX rfl ?_
          refine jk_getI (pc := 42) hX 7 6 rfl rfl rfl (jx_vX (jx_upc (by decide)) ?_)
          refine jk_const (pc := 43) hX 1 rfl (by decide) ?_
          refine jk_add (pc := 44) hX rfl g23 ?_
          refine jk_put (pc := 45) hX 7 6 rfl rfl rfl ?_
          refine jk_iinc (pc := 46) hX 3 1 rfl rfl g24 (ls' := [.inr 1, .inl v1, .inl v2, .inl (v3 + 1)]) rfl ?_
          refine jk_goto (pc := 47) hX 9 rfl ?_
          exact h25
end
section
theorem jx_loopM {σ : Type} (b : Int) (Inv : Int → σ → Prop) (P : Int → σ → Prop) (hs : ∀ i s, Inv i s → (∀ s', b < i → Inv (i + (-1)) s' → P (i + (-1)) s') → P i s) : ∀ i s, Inv i s → P i s := by
  have key : ∀ (n : Nat) (i : Int) (s : σ), (i - b).toNat < n → Inv i s → P i s := by
    intro n
    induction n with
    | zero => intro i s h; omega
    | succ n ih => exact fun i s h hi => hs i s hi (fun s' hb hi' => ih (i + (-1)) s' (by omega) hi')
  exact fun i s hi => key _ i s (Nat.lt_succ_self _) hi
/-- the numbers below k with P, in order -/
noncomputable def j_fl (P : Int → Prop) : Nat → List Int
  | 0 => []
  | k + 1 => j_fl P k ++ @ite (List Int) (P k) (Classical.propDecidable _) [(k : Int)] []
theorem j_fl_t {P : Int → Prop} {k : Nat} (h : P k) : j_fl P (k + 1) = j_fl P k ++ [(k : Int)] := by simp only [j_fl]; rw [if_pos h]
theorem j_fl_f {P : Int → Prop} {k : Nat} (h : ¬ P k) : j_fl P (k + 1) = j_fl P k := by simp only [j_fl]; rw [if_neg h, List.append_nil]
theorem j_fl_mem {P : Int → Prop} (k : Nat) {x : Int} : x ∈ j_fl P k ↔ 0 ≤ x ∧ x < k ∧ P x := by
  induction k with
  | zero => constructor
            · intro h; cases h
            · intro h; omega
  | succ k ih =>
    by_cases hp : P k
    · rw [j_fl_t hp, List.mem_append, ih, List.mem_singleton]
      constructor
      · rintro (⟨a, b, c⟩ | rfl)
        · exact ⟨a, by omega, c⟩
        · exact ⟨by omega, by omega, hp⟩
      · rintro ⟨a, b, c⟩
        rcases Int.lt_or_le x k with y | y
        · exact Or.inl ⟨a, y, c⟩
        · exact Or.inr (by omega)
    · rw [j_fl_f hp, ih]
      constructor
      · rintro ⟨a, b, c⟩; exact ⟨a, by omega, c⟩
      · rintro ⟨a, b, c⟩
        refine ⟨a, ?_, c⟩
        rcases Int.lt_or_le x k with y | y
        · exact y
        · obtain rfl : x = k := by omega
          exact absurd c hp
noncomputable def j_lf (P : Int → Prop) (l : List Int) : List Int := l.filter (fun e => @decide (P e) (Classical.propDecidable _))
theorem j_lf_app {P : Int → Prop} (a b : List Int) : j_lf P (a ++ b) = j_lf P a ++ j_lf P b := by unfold j_lf; exact List.filter_append _ _
theorem j_lf_1t {P : Int → Prop} {x : Int} (h : P x) : j_lf P [x] = [x] := by unfold j_lf; simp [h]
theorem j_lf_1f {P : Int → Prop} {x : Int} (h : ¬ P x) : j_lf P [x] = [] := by unfold j_lf; simp [h]
theorem j_lf_le {P : Int → Prop} (l : List Int) : (j_lf P l).length ≤ l.length := by unfold j_lf; exact List.length_filter_le _ _
theorem j_lf_fl {P Q R : Int → Prop} (k : Nat) (h : ∀ e, 0 ≤ e → e < (k : Int) → (R e ↔ Q e ∧ P e)) : j_lf P (j_fl Q k) = j_fl R k := by
  induction k with
  | zero => rfl
  | succ k ih =>
    have ih := ih (fun e e1 e2 => h e e1 (by omega))
    have hk := h k (by omega) (by omega)
    by_cases hq : Q k
    · rw [j_fl_t hq, j_lf_app, ih]
      by_cases hp : P k
      · rw [j_lf_1t hp, j_fl_t (hk.mpr ⟨hq, hp⟩)]
      · rw [j_lf_1f hp, j_fl_f (fun z => hp (hk.mp z).2), List.append_nil]
    · rw [j_fl_f hq, ih, j_fl_f (fun z => hq (hk.mp z).1)]
/-- the entries by length, the longest first: so many sizes -/
noncomputable def a_byl (A : Int → Int) : Nat → List Int
  | 0 => []
  | s + 1 => a_byl A s ++ j_fl (fun e => A (1 + 11 * e) = 6 - (s : Int)) (A 0).toNat
noncomputable def a_fsg (A : Int → Int) (g : Int) : Nat → List Int
  | 0 => []
  | s + 1 => a_fsg A g s ++ j_fl (fun e => A (1 + 11 * e) = 6 - (s : Int) ∧ f_stands A e g ∧ f_may A g (g + (6 - (s : Int)))) (A 0).toNat
/-- the segments that start at a gap, in the order of comparison -/
noncomputable def a_seg (A : Int → Int) (g : Int) : List Int := a_fsg A g 6 ++ @ite (List Int) (f_may A g (g + 1)) (Classical.propDecidable _) [-5] []
theorem a_lf_byl (A : Int → Int) (g : Int) (s : Nat) : j_lf (fun e => f_stands A e g ∧ f_may A g (g + A (1 + 11 * e))) (a_byl A s) = a_fsg A g s := by
  induction s with
  | zero => rfl
  | succ s ih =>
    simp only [a_byl, a_fsg]
    rw [j_lf_app, ih]
    congr 1
    refine j_lf_fl _ (fun e _ _ => ?_)
    constructor
    · rintro ⟨a, b, c⟩; exact ⟨a, b, by rw [a]; exact c⟩
    · rintro ⟨a, b, c⟩; exact ⟨a, b, by rw [a] at c; exact c⟩
theorem a_six (f : Int → Int) (k : Nat) (h : ∀ e, 0 ≤ e → e < (k : Int) → 1 ≤ f e ∧ f e ≤ 6) : (j_fl (fun e => f e = 6) k).length + (j_fl (fun e => f e = 5) k).length + (j_fl (fun e => f e = 4) k).length + (j_fl (fun e => f e = 3) k).length + (j_fl (fun e => f e = 2) k).length + (j_fl (fun e => f e = 1) k).length = k := by
  induction k with
  | zero => rfl
  | succ k ih =>
    have ih := ih (fun e e1 e2 => h e e1 (by omega))
    have hk := h k (by omega) (by omega)
    have step : ∀ s : Int, (j_fl (fun e => f e = s) (k + 1)).length = (j_fl (fun e => f e = s) k).length + (if f k = s then 1 else 0) := by
      intro s
      by_cases z : f k = s
      · rw [j_fl_t (P := fun e => f e = s) z, if_pos z, List.length_append]; rfl
      · rw [j_fl_f (P := fun e => f e = s) z, if_neg z]; omega
    rw [step 6, step 5, step 4, step 3, step 2, step 1]
    rcases (show f k = 1 ∨ f k = 2 ∨ f k = 3 ∨ f k = 4 ∨ f k = 5 ∨ f k = 6 by omega) with z | z | z | z | z | z <;> simp [z] <;> omega
theorem a_byl_len {A : Int → Int} (h : q_ok A) : (a_byl A 6).length = (A 0).toNat := by
  have := a_six (fun e => A (1 + 11 * e)) (A 0).toNat (fun e e1 e2 => (h.2.1 e e1 (by omega)).1)
  have e : ∀ (s : Nat) (t : Int), 6 - (s : Int) = t → j_fl (fun e => A (1 + 11 * e) = 6 - (s : Int)) (A 0).toNat = j_fl (fun e => A (1 + 11 * e) = t) (A 0).toNat := by
    rintro s t rfl
    rfl
  simp only [a_byl, List.length_append, List.length_nil]
  rw [e 0 6 (by decide), e 1 5 (by decide), e 2 4 (by decide), e 3 3 (by decide), e 4 2 (by decide), e 5 1 (by decide)]
  omega
theorem a_byl_mono (A : Int → Int) {s : Nat} (h : s ≤ 6) : (a_byl A s).length ≤ (a_byl A 6).length := by
  have step : ∀ t, (a_byl A t).length ≤ (a_byl A (t + 1)).length := fun t => by simp only [a_byl, List.length_append]; omega
  have all : ∀ k, (a_byl A s).length ≤ (a_byl A (s + k)).length := by
    intro k
    induction k with
    | zero => exact Nat.le_refl _
    | succ k ih => exact Nat.le_trans ih (step _)
  have := all (6 - s)
  rwa [show s + (6 - s) = 6 by omega] at this
theorem a_byl_mem (A : Int → Int) (s : Nat) {e : Int} (h : e ∈ a_byl A s) : 0 ≤ e ∧ e < A 0 := by
  induction s with
  | zero => cases h
  | succ s ih =>
    simp only [a_byl] at h
    rcases List.mem_append.mp h with h | h
    · exact ih h
    · have := (j_fl_mem _).mp h
      omega
theorem a_fsg_mem (A : Int → Int) (g : Int) (s : Nat) {e : Int} (h : e ∈ a_fsg A g s) : 0 ≤ e ∧ e < A 0 ∧ f_stands A e g ∧ f_may A g (g + A (1 + 11 * e)) := by
  induction s with
  | zero => cases h
  | succ s ih =>
    simp only [a_fsg] at h
    rcases List.mem_append.mp h with h | h
    · exact ih h
    · obtain ⟨h1, h2, h3, h4, h5⟩ := (j_fl_mem _).mp h
      exact ⟨h1, by omega, h4, by rw [h3]; exact h5⟩
theorem a_fsg_len {A : Int → Int} (h : q_ok A) (g : Int) : (a_fsg A g 6).length ≤ 20 := by
  rw [← a_lf_byl]
  refine Nat.le_trans (j_lf_le _) ?_
  rw [a_byl_len h]
  have := h.1
  omega
theorem a_seg_len {A : Int → Int} (h : q_ok A) (g : Int) : (a_seg A g).length ≤ 21 := by
  have := a_fsg_len h g
  unfold a_seg
  rw [List.length_append]
  by_cases z : f_may A g (g + 1)
  · rw [if_pos z]; simp; omega
  · rw [if_neg z]; simp; omega
/-- what is known of a segment at a gap -/
theorem a_seg_mem {A : Int → Int} (h : q_ok A) {g s : Int} (hg : 0 ≤ g ∧ g < A 271) (hs : s ∈ a_seg A g) : (s = -5 ∨ 0 ≤ s ∧ s < A 0 ∧ f_stands A s g) ∧ (g < f_end A s g ∧ f_end A s g ≤ A 271) ∧ (0 ≤ f_cls A s ∧ f_cls A s ≤ 5) ∧ (0 ≤ f_cost A s ∧ f_cost A s ≤ 200) ∧ f_may A g (f_end A s g) := by
  obtain ⟨o1, o2, o3, o4, o5, o6⟩ := h
  unfold a_seg at hs
  rcases List.mem_append.mp hs with hs | hs
  · obtain ⟨e1, e2, e3, e4⟩ := a_fsg_mem A g 6 hs
    obtain ⟨y1, y2, y3, y4⟩ := o2 s e1 e2
    have ns : s ≠ -5 := by omega
    unfold f_end f_cls f_cost f_price
    rw [if_neg ns, if_neg ns, if_neg ns]
    have := e3.1
    exact ⟨Or.inr ⟨e1, e2, e3⟩, by omega, by omega, by omega, e4⟩
  · by_cases z : f_may A g (g + 1)
    · rw [if_pos z, List.mem_singleton] at hs
      subst hs
      unfold f_end f_cls f_cost
      rw [if_pos rfl, if_pos rfl, if_pos rfl]
      exact ⟨Or.inl rfl, by omega, by omega, by omega, z⟩
    · rw [if_neg z] at hs
      cases hs
/-- a row of the memory holds a list -/
def j_l (f : Int → Int) (o : Int) (l : List Int) : Prop := ∀ k : Nat, k < l.length → f (o + k) = l.getD k 0
theorem j_l_snoc {f f' : Int → Int} {o x : Int} {l : List Int} (h : j_l f o l) (hf : ∀ k, o ≤ k → k < o + l.length → f' k = f k) (hx : f' (o + l.length) = x) : j_l f' o (l ++ [x]) := by
  intro k hk
  rw [List.length_append, List.length_singleton] at hk
  by_cases z : k < l.length
  · rw [hf _ (by omega) (by omega), h k z]
    simp [List.getD_eq_getElem?_getD, List.getElem?_append_left z]
  · obtain rfl : k = l.length := by omega
    rw [hx]
    simp [List.getD_eq_getElem?_getD]
theorem j_l_fr {f f' : Int → Int} {o : Int} {l : List Int} (h : j_l f o l) (hf : ∀ k, o ≤ k → k < o + l.length → f' k = f k) : j_l f' o l := fun k hk => by rw [hf _ (by omega) (by omega)]; exact h k hk
theorem j_getD_mem {l : List Int} {k : Nat} (h : k < l.length) : l.getD k 0 ∈ l := by
  rw [List.getD_eq_getElem?_getD, List.getElem?_eq_getElem h]
  exact List.getElem_mem h
-- ===== the reference's findSegments =====
theorem j_fl_mono (P : Int → Prop) {a b : Nat} (h : a ≤ b) : (j_fl P a).length ≤ (j_fl P b).length := by
  induction b with
  | zero => obtain rfl : a = 0 := by omega
            exact Nat.le_refl _
  | succ b ih =>
    rcases Nat.lt_or_ge a (b + 1) with z | z
    · refine Nat.le_trans (ih (by omega)) ?_
      simp only [j_fl, List.length_append]
      omega
    · obtain rfl : a = b + 1 := by omega
      exact Nat.le_refl _
theorem a_fsg_mono (A : Int → Int) (g : Int) {s : Nat} (h : s ≤ 6) : (a_fsg A g s).length ≤ (a_fsg A g 6).length := by
  have step : ∀ t, (a_fsg A g t).length ≤ (a_fsg A g (t + 1)).length := fun t => by simp only [a_fsg, List.length_append]; omega
  have all : ∀ k, (a_fsg A g s).length ≤ (a_fsg A g (s + k)).length := by
    intro k
    induction k with
    | zero => exact Nat.le_refl _
    | succ k ih => exact Nat.le_trans ih (step _)
  have := all (6 - s)
  rwa [show s + (6 - s) = 6 by omega] at this
/-- so many sizes, and of the next one the entries below e -/
noncomputable def a_pre (A : Int → Int) (g sz e : Int) : List Int := a_fsg A g (6 - sz).toNat ++ j_fl (fun e => A (1 + 11 * e) = sz ∧ f_stands A e g ∧ f_may A g (g + sz)) e.toNat
theorem a_pre_end (A : Int → Int) (g : Int) {sz : Int} (h : 1 ≤ sz ∧ sz ≤ 6) : a_pre A g sz (A 0) = a_fsg A g (6 - (sz + (-1))).toNat := by
  rw [show (6 - (sz + (-1))).toNat = (6 - sz).toNat + 1 by omega]
  unfold a_pre
  simp only [a_fsg]
  rw [show (6 : Int) - ((6 - sz).toNat : Int) = sz by omega]
theorem a_pre_f {A : Int → Int} {g sz e : Int} (he : 0 ≤ e) (h : ¬ (A (1 + 11 * e) = sz ∧ f_stands A e g ∧ f_may A g (g + sz))) : a_pre A g sz (e + 1) = a_pre A g sz e := by
  unfold a_pre
  rw [show (e + 1).toNat = e.toNat + 1 by omega, j_fl_f (by rw [show ((e.toNat : Nat) : Int) = e by omega]; exact h)]
theorem a_pre_t {A : Int → Int} {g sz e : Int} (he : 0 ≤ e) (h : A (1 + 11 * e) = sz ∧ f_stands A e g ∧ f_may A g (g + sz)) : a_pre A g sz (e + 1) = a_pre A g sz e ++ [e] := by
  unfold a_pre
  rw [show (e + 1).toNat = e.toNat + 1 by omega, j_fl_t (by rw [show ((e.toNat : Nat) : Int) = e by omega]; exact h), List.append_assoc, show ((e.toNat : Nat) : Int) = e by omega]
theorem a_pre_len {A : Int → Int} (ho : q_ok A) (g : Int) {sz e : Int} (h : 1 ≤ sz ∧ sz ≤ 6) (he : e ≤ A 0) : (a_pre A g sz e).length ≤ 20 := by
  have h1 : (a_pre A g sz e).length ≤ (a_pre A g sz (A 0)).length := by
    unfold a_pre
    rw [List.length_append, List.length_append]
    have := j_fl_mono (fun e => A (1 + 11 * e) = sz ∧ f_stands A e g ∧ f_may A g (g + sz)) (a := e.toNat) (b := (A 0).toNat) (by omega)
    omega
  rw [a_pre_end A g h] at h1
  exact Nat.le_trans h1 (Nat.le_trans (a_fsg_mono A g (by omega)) (a_fsg_len ho g))
theorem f_stands_eq {A B : Int → Int} (ho : q_ok A) (h : ∀ k, 0 ≤ k → k < 305 → B k = A k) {e g : Int} (he : 0 ≤ e ∧ e < A 0) (hg : 0 ≤ g ∧ g ≤ 16) : f_stands B e g ↔ f_stands A e g := by
  obtain ⟨o1, o2, o3, o4, o5, o6⟩ := ho
  have ol := (o2 e he.1 he.2).1
  unfold f_stands
  rw [h (1 + 11 * e) (by omega) (by omega), h 271 (by omega) (by omega)]
  constructor
  · rintro ⟨a, b⟩
    exact ⟨a, fun i i1 i2 => by rw [← h (1 + 11 * e + 1 + i) (by omega) (by omega), ← h (272 + g + i) (by omega) (by omega)]; exact b i i1 i2⟩
  · rintro ⟨a, b⟩
    exact ⟨a, fun i i1 i2 => by rw [h (1 + 11 * e + 1 + i) (by omega) (by omega), h (272 + g + i) (by omega) (by omega)]; exact b i i1 i2⟩
theorem f_may_eq {A B : Int → Int} (h : ∀ k, 0 ≤ k → k < 305 → B k = A k) {a b : Int} (ha : 0 ≤ a) (hb : 0 ≤ b ∧ b ≤ 16) : f_may B a b ↔ f_may A a b := by
  unfold f_may
  rw [h 271 (by omega) (by omega), h (288 + b) (by omega) (by omega)]
  constructor
  · rintro ⟨x, y⟩; exact ⟨x, fun g g1 g2 => by rw [← h (288 + g) (by omega) (by omega)]; exact y g g1 g2⟩
  · rintro ⟨x, y⟩; exact ⟨x, fun g g1 g2 => by rw [h (288 + g) (by omega) (by omega)]; exact y g g1 g2⟩
set_option maxHeartbeats 4000000 in
theorem sp_F_findSegments (d : Nat) (g : Int) (M : jxM) {A : Int → Int} (hA : ∀ k, 0 ≤ k → k < 305 → M 2 k = A k) (ho : q_ok A) (hg : 0 ≤ g ∧ g < A 271) {K : jxK} (h : ∀ M', (∀ c x, c ≠ 5 → ¬ (c = 1 ∧ x = 6) → M' c x = M c x) → M' 1 6 = ((a_seg A g).length : Int) → j_l (M' 5) 0 (a_seg A g) → K none M') : jx_call jx_G2 jx_T (d + 3) 106 [.inr 1, .inl g] M K := by
  have ho2 := ho
  obtain ⟨o1, o2, o3, o4, o5, o6⟩ := ho
  intro X hX
  refine bk_F_findSegments_0 (d := d) hX g M ?_
  have add : ∀ (N : jxM) (l : List Int) (x : Int), (∀ c x, c ≠ 5 → ¬ (c = 1 ∧ x = 6) → N c x = M c x) → N 1 6 = (l.length : Int) → j_l (N 5) 0 l → (∀ c y, c ≠ 5 → ¬ (c = 1 ∧ y = 6) → jx_up (jx_up N 5 (N 1 6) x) 1 6 (N 1 6 + 1) c y = M c y) ∧ jx_up (jx_up N 5 (N 1 6) x) 1 6 (N 1 6 + 1) 1 6 = ((l ++ [x]).length : Int) ∧ j_l (jx_up (jx_up N 5 (N 1 6) x) 1 6 (N 1 6 + 1) 5) 0 (l ++ [x]) := by
    intro N l x n1 n2 n3
    refine ⟨fun c y c1 c2 => ?_, ?_, j_l_snoc n3 (fun k k1 k2 => ?_) ?_⟩
    · by_cases z : c = 1
      · subst z; rw [jx_upx (fun w => c2 ⟨rfl, w⟩), jx_upc c1]; exact n1 1 y c1 c2
      · rw [jx_upc z, jx_upc c1]; exact n1 c y c1 c2
    · rw [jx_ups, n2, List.length_append, List.length_singleton]; omega
    · rw [jx_upc (by decide), jx_upx (by omega)]
    · rw [jx_upc (by decide), n2, Int.zero_add, jx_ups]
  refine jx_loopM (σ := jxM) 0 (fun sz N => 0 ≤ sz ∧ sz ≤ 6 ∧ (∀ c x, c ≠ 5 → ¬ (c = 1 ∧ x = 6) → N c x = M c x) ∧ N 1 6 = ((a_fsg A g (6 - sz).toNat).length : Int) ∧ j_l (N 5) 0 (a_fsg A g (6 - sz).toNat)) (fun sz N => X 5 [.inr 1, .inl g, .inl sz, .inr 0] [] N) ?_ 6 _ ⟨by omega, by omega, fun c x c1 c2 => ?_, ?_, fun k hk => absurd hk (Nat.not_lt_zero _)⟩
  · intro sz N ⟨s1, s2, s3, s4, s5⟩ ih
    have nA : ∀ k, 0 ≤ k → k < 305 → N 2 k = A k := fun k k1 k2 => (s3 2 k (by decide) (by omega)).trans (hA k k1 k2)
    have mq := f_may_eq nA (a := g) (b := g + 1) hg.1 (by omega)
    refine bk_F_findSegments_5 (d := d) hX g sz N ⟨fun q => ⟨by omega, fun q2 => ?_, fun q2 => ⟨?_, ?_⟩⟩, fun q => ?_⟩
    · obtain rfl : sz = 0 := by omega
      have e : a_seg A g = a_fsg A g 6 := by unfold a_seg; rw [if_neg (fun z => q2 (mq.mpr z)), List.append_nil]
      refine h N s3 ?_ ?_
      · rw [e]; exact s4
      · rw [e]; exact s5
    · obtain rfl : sz = 0 := by omega
      have := a_fsg_len ho2 g
      have s4 : N 1 6 = ((a_fsg A g 6).length : Int) := s4
      omega
    · obtain rfl : sz = 0 := by omega
      have e : a_seg A g = a_fsg A g 6 ++ [-5] := by unfold a_seg; rw [if_pos (mq.mp q2)]
      obtain ⟨z1, z2, z3⟩ := add N _ (-5) s3 s4 s5
      refine h _ z1 ?_ ?_
      · rw [e]; exact z2
      · rw [e]; exact z3
    · refine jx_loop (σ := jxM) (A 0) (fun e N => 0 ≤ e ∧ e ≤ A 0 ∧ (∀ c x, c ≠ 5 → ¬ (c = 1 ∧ x = 6) → N c x = M c x) ∧ N 1 6 = ((a_pre A g sz e).length : Int) ∧ j_l (N 5) 0 (a_pre A g sz e)) (fun e N => X 9 [.inr 1, .inl g, .inl sz, .inl e] [] N) ?_ 0 N ⟨by omega, by omega, s3, ?_, ?_⟩
      · intro e N ⟨e1, e2, e3, e4, e5⟩ jh
        have nA : ∀ k, 0 ≤ k → k < 305 → N 2 k = A k := fun k k1 k2 => (e3 2 k (by decide) (by omega)).trans (hA k k1 k2)
        have n0 := nA 0 (by omega) (by omega)
        have n271 := nA 271 (by omega) (by omega)
        have hl := a_pre_len ho2 g (e := e) ⟨by omega, s2⟩ e2
        refine bk_F_findSegments_9 (d := d) hX g sz e N ⟨fun q2 => ⟨by omega, ?_⟩, fun q2 => ?_⟩
        · obtain rfl : e = A 0 := by omega
          rw [a_pre_end A g ⟨by omega, s2⟩] at e4 e5
          exact ih N q ⟨by omega, by omega, e3, e4, e5⟩
        · have ne := nA (1 + 11 * e) (by omega) (by omega)
          have ol := (o2 e e1 (by omega)).1
          have sq := f_stands_eq ho2 nA (e := e) (g := g) ⟨e1, by omega⟩ (by omega)
          have no : ¬ (A (1 + 11 * e) = sz ∧ f_stands A e g ∧ f_may A g (g + sz)) → X 9 [.inr 1, .inl g, .inl sz, .inl (e + 1)] [] N := fun z => by
            refine jh N (by omega) ⟨by omega, by omega, e3, ?_, ?_⟩
            · rw [a_pre_f e1 z]; exact e4
            · rw [a_pre_f e1 z]; exact e5
          refine ⟨by omega, fun q3 => ⟨by omega, no (fun z => q3 (by omega))⟩, fun q3 => ⟨by omega, fun q4 => ⟨by omega, no (fun z => q4 (sq.mpr z.2.1))⟩, fun q4 => ?_⟩⟩
          have hst := sq.mp q4
          have hle := hst.1
          have mq := f_may_eq nA (a := g) (b := g + sz) hg.1 (by omega)
          refine ⟨by omega, fun q5 => ⟨by omega, no (fun z => q5 (mq.mpr z.2.2))⟩, fun q5 => ⟨by omega, ?_⟩⟩
          have yes : A (1 + 11 * e) = sz ∧ f_stands A e g ∧ f_may A g (g + sz) := ⟨by omega, hst, mq.mp q5⟩
          obtain ⟨z1, z2, z3⟩ := add N _ e e3 e4 e5
          rw [← a_pre_t e1 yes] at z2 z3
          exact jh _ (by omega) ⟨by omega, by omega, z1, z2, z3⟩
      · unfold a_pre; rw [show (0 : Int).toNat = 0 from rfl]; simp only [j_fl, List.append_nil]; exact s4
      · unfold a_pre; rw [show (0 : Int).toNat = 0 from rfl]; simp only [j_fl, List.append_nil]; exact s5
  · by_cases z : c = 1
    · subst z; exact jx_upx (fun w => c2 ⟨rfl, w⟩)
    · exact jx_upc z
  · exact jx_ups
end
section
/-- the slots of a gap hold the segments l -/
def q_sl (M : jxM) (A : Int → Int) (g : Int) (l : List Int) : Prop := M 85 g = (l.length : Int) ∧ ∀ k : Nat, k < l.length → M 86 (g * 21 + k) = l.getD k 0 ∧ M 87 (g * 21 + k) = f_end A (l.getD k 0) g ∧ M 88 (g * 21 + k) = f_cls A (l.getD k 0) ∧ M 89 (g * 21 + k) = f_cost A (l.getD k 0)
/-- the lattice is built -/
def q_lat (M : jxM) (A : Int → Int) : Prop := (∀ g, 0 ≤ g → g < A 271 → q_sl M A g (a_seg A g)) ∧ M 85 (A 271) = 0
theorem q_sl_fr {M M' : jxM} {A : Int → Int} {g : Int} {l : List Int} (h : q_sl M A g l) (h5 : M' 85 g = M 85 g) (hf : ∀ c x, 86 ≤ c → c ≤ 89 → g * 21 ≤ x → x < g * 21 + l.length → M' c x = M c x) : q_sl M' A g l :=
  ⟨by rw [h5]; exact h.1, fun k hk => by
    obtain ⟨a, b, c, d⟩ := h.2 k hk
    rw [hf 86 _ (by omega) (by omega) (by omega) (by omega), hf 87 _ (by omega) (by omega) (by omega) (by omega), hf 88 _ (by omega) (by omega) (by omega) (by omega), hf 89 _ (by omega) (by omega) (by omega) (by omega)]
    exact ⟨a, b, c, d⟩⟩
theorem getD_app {l : List Int} {x : Int} {k : Nat} (h : k < l.length) : (l ++ [x]).getD k 0 = l.getD k 0 := by simp [List.getD_eq_getElem?_getD, List.getElem?_append_left h]
theorem getD_last {l : List Int} {x : Int} : (l ++ [x]).getD l.length 0 = x := by simp [List.getD_eq_getElem?_getD]
theorem q_sl_add {M : jxM} {A : Int → Int} {g s : Int} {l : List Int} (h : q_sl M A g l) : q_sl (jx_up (jx_up (jx_up (jx_up (jx_up M 86 (g * 21 + M 85 g) s) 87 (g * 21 + M 85 g) (f_end A s g)) 88 (g * 21 + M 85 g) (f_cls A s)) 89 (g * 21 + M 85 g) (f_cost A s)) 85 g (M 85 g + 1)) A g (l ++ [s]) := by
  obtain ⟨h1, h2⟩ := h
  refine ⟨by rw [jx_ups, h1, List.length_append, List.length_singleton]; omega, fun k hk => ?_⟩
  rw [List.length_append, List.length_singleton] at hk
  rw [jx_upc (c := 85) (by decide), jx_upc (c := 89) (by decide), jx_upc (c := 88) (by decide), jx_upc (c := 87) (by decide), jx_upc (c := 85) (by decide), jx_upc (c := 89) (by decide), jx_upc (c := 88) (by decide), jx_upc (c := 85) (by decide), jx_upc (c := 89) (by decide), jx_upc (c := 85) (by decide)]
  by_cases z : k < l.length
  · rw [getD_app z]
    obtain ⟨a, b, c, d⟩ := h2 k z
    rw [jx_upx (by omega), jx_upx (by omega), jx_upc (by decide), jx_upx (by omega), jx_upc (by decide), jx_upc (by decide), jx_upx (by omega), jx_upc (by decide), jx_upc (by decide), jx_upc (by decide)]
    exact ⟨a, b, c, d⟩
  · obtain rfl : k = l.length := by omega
    rw [getD_last, ← h1]
    exact ⟨jx_ups, jx_ups, jx_ups, jx_ups⟩
theorem sp_L_addSlot (d : Nat) (g t e c k : Int) (M : jxM) (h1 : (0 ≤ g ∧ g ≤ 16) ∧ (0 ≤ t ∧ t ≤ 16) ∧ (0 ≤ M 85 g ∧ M 85 g < 21)) {K : jxK} (h0 : ¬ m_may M g t → K none M) (h : m_may M g t → K none (jx_up (jx_up (jx_up (jx_up (jx_up M 86 (g * 21 + M 85 g) e) 87 (g * 21 + M 85 g) t) 88 (g * 21 + M 85 g) c) 89 (g * 21 + M 85 g) k) 85 g (M 85 g + 1))) : jx_call jx_G1 jx_T (d + 2) 14 [.inr 83, .inl g, .inl t, .inl e, .inl c, .inl k] M K := by
  intro X hX
  exact bk_L_addSlot_0 (d := d) hX g t e c k M ⟨by omega, fun q => by omega, fun q => ⟨by omega, fun q2 => ⟨by omega, h q2⟩, h0⟩⟩
/-- what the class's present model says, by the state -/
theorem q_mst {M : jxM} {A : Int → Int} (h : q_rs M 4 A) {e g : Int} (he : 0 ≤ e ∧ e < A 0) (hg : 0 ≤ g) : m_stands M e g ↔ f_stands A e g := by
  obtain ⟨r1, r2, r3, r4, r5, r6, r7⟩ := h
  obtain ⟨y1, y2, -⟩ := r2 e he.1 he.2
  have y1 : M 7 e = A (1 + 11 * e) := y1
  have r5 : M 4 5 = A 271 := r5
  unfold m_stands f_stands
  rw [y1, r5]
  constructor
  · rintro ⟨a, b⟩
    refine ⟨a, fun i i1 i2 => ?_⟩
    rw [← y2 i i1 i2, Int.add_assoc, ← r6 (g + i) (by omega) (by omega)]
    exact b i i1 i2
  · rintro ⟨a, b⟩
    refine ⟨a, fun i i1 i2 => ?_⟩
    have := b i i1 i2
    rw [← y2 i i1 i2, Int.add_assoc, ← r6 (g + i) (by omega) (by omega)] at this
    exact this
theorem q_mmay {M : jxM} {A : Int → Int} (h : q_rs M 4 A) (ho : q_ok A) {a b : Int} (ha : 0 ≤ a) (hb : 0 ≤ b ∧ b ≤ 16) : m_may M a b ↔ f_may A a b := by
  obtain ⟨r1, r2, r3, r4, r5, r6, r7⟩ := h
  obtain ⟨o1, o2, o3, o4, o5, o6⟩ := ho
  have e := r7 b hb.1 hb.2
  have e : M 14 b = A (288 + b) := e
  unfold m_may f_may
  rw [e]
  constructor
  · rintro ⟨x, y⟩
    refine ⟨Or.inr x, fun g g1 g2 => ?_⟩
    rw [← r7 g (by omega) (by omega)]
    exact y g g1 g2
  · rintro ⟨x, y⟩
    refine ⟨?_, fun g g1 g2 => ?_⟩
    · rcases x with x | x
      · have := (o6 b hb.1 hb.2).2 (by omega)
        omega
      · exact x
    · have := y g g1 g2
      rw [← r7 g (by omega) (by omega)] at this
      exact this
theorem sp_L_sortByLength (d : Nat) (M : jxM) {A : Int → Int} (hr : q_rs M 4 A) (ho : q_ok A) {K : jxK} (h : ∀ M', (∀ c x, c ≠ 84 → M' c x = M c x) → j_l (M' 84) 0 (a_byl A 6) → K none M') : jx_call jx_G1 jx_T (d + 1) 12 [.inr 83] M K := by
  have ho2 := ho
  obtain ⟨o1, o2, o3, o4, o5, o6⟩ := ho
  have hn : M 5 6 = A 0 := hr.1
  have hl : ∀ e, 0 ≤ e → e < A 0 → M 7 e = A (1 + 11 * e) := fun e e1 e2 => (hr.2.1 e e1 e2).1
  intro X hX
  refine bk_L_sortByLength_0 (d := d) hX M ?_
  have lp : ∀ (sz : Int) (q : jxM × Int), (0 ≤ sz ∧ sz ≤ 6 ∧ (∀ c x, c ≠ 84 → q.1 c x = M c x) ∧ q.2 = ((a_byl A (6 - sz).toNat).length : Int) ∧ j_l (q.1 84) 0 (a_byl A (6 - sz).toNat)) → X 8 [.inr 83, .inr 5, .inl q.2, .inl sz, .inr 0] [] q.1 := by
    refine jx_loopM (σ := jxM × Int) 0 _ _ ?_
    intro sz ⟨N, pl⟩ ⟨s1, s2, s3, s4, s5⟩ ih
    simp only at s3 s4 s5
    refine bk_L_sortByLength_8 (d := d) hX pl sz N ⟨fun q => ?_, fun q => ?_⟩
    · obtain rfl : sz = 0 := by omega
      exact h N s3 s5
    · have blen : ∀ e : Int, e ≤ A 0 → (a_byl A (6 - sz).toNat ++ j_fl (fun e => A (1 + 11 * e) = sz) e.toNat).length ≤ 20 := by
        intro e he
        have z1 := j_fl_mono (fun e => A (1 + 11 * e) = sz) (a := e.toNat) (b := (A 0).toNat) (by omega)
        have z2 : (a_byl A ((6 - sz).toNat + 1)).length = (a_byl A (6 - sz).toNat).length + (j_fl (fun e => A (1 + 11 * e) = sz) (A 0).toNat).length := by
          simp only [a_byl, List.length_append]
          rw [show (6 : Int) - ((6 - sz).toNat : Int) = sz by omega]
        have z3 := a_byl_mono A (s := (6 - sz).toNat + 1) (by omega)
        rw [a_byl_len ho2] at z3
        rw [List.length_append]
        omega
      have inner : ∀ (e : Int) (q : jxM × Int), (0 ≤ e ∧ e ≤ A 0 ∧ (∀ c x, c ≠ 84 → q.1 c x = M c x) ∧ q.2 = ((a_byl A (6 - sz).toNat ++ j_fl (fun e => A (1 + 11 * e) = sz) e.toNat).length : Int) ∧ j_l (q.1 84) 0 (a_byl A (6 - sz).toNat ++ j_fl (fun e => A (1 + 11 * e) = sz) e.toNat)) → X 12 [.inr 83, .inr 5, .inl q.2, .inl sz, .inl e] [] q.1 := by
        refine jx_loop (σ := jxM × Int) (A 0) _ _ ?_
        intro e ⟨L, pl⟩ ⟨e1, e2, e3, e4, e5⟩ jh
        simp only at e3 e4 e5
        have n0 : L 5 6 = A 0 := (e3 5 6 (by decide)).trans hn
        have bl := blen e e2
        refine bk_L_sortByLength_12 (d := d) hX pl sz e L ⟨fun z => ⟨by omega, ?_⟩, fun z => ?_⟩
        · obtain rfl : e = A 0 := by omega
          have e9 : a_byl A (6 - sz).toNat ++ j_fl (fun e => A (1 + 11 * e) = sz) (A 0).toNat = a_byl A (6 - (sz + (-1))).toNat := by
            rw [show (6 - (sz + (-1))).toNat = (6 - sz).toNat + 1 by omega]
            simp only [a_byl]
            rw [show (6 : Int) - ((6 - sz).toNat : Int) = sz by omega]
          rw [e9] at e4 e5
          exact ih (L, pl) q ⟨by omega, by omega, e3, e4, e5⟩
        · have ne : L 7 e = A (1 + 11 * e) := (e3 7 e (by decide)).trans (hl e e1 (by omega))
          have et : (e + 1).toNat = e.toNat + 1 := by omega
          refine ⟨by omega, fun z2 => ⟨by omega, ?_⟩, fun z2 => ?_⟩
          · refine jh (L, pl) (by omega) ⟨by omega, by omega, e3, ?_, ?_⟩
            · rw [et, j_fl_f (by rw [show ((e.toNat : Nat) : Int) = e by omega]; omega)]; exact e4
            · rw [et, j_fl_f (by rw [show ((e.toNat : Nat) : Int) = e by omega]; omega)]; exact e5
          · have yes : A (1 + 11 * ((e.toNat : Nat) : Int)) = sz := by rw [show ((e.toNat : Nat) : Int) = e by omega]; omega
            have b2 := blen (e + 1) (by omega)
            rw [et, j_fl_t yes, ← List.append_assoc, List.length_append, List.length_singleton] at b2
            refine ⟨fun z3 => by omega, fun z3 => ⟨by omega, jh (jx_up L 84 pl e, pl + 1) (by omega) ⟨by omega, by omega, fun c x hc => ?_, ?_, ?_⟩⟩⟩
            · show jx_up L 84 pl e c x = M c x
              rw [jx_upc hc]; exact e3 c x hc
            · show pl + 1 = _
              rw [et, j_fl_t yes, ← List.append_assoc, List.length_append, List.length_singleton]
              omega
            · show j_l (jx_up L 84 pl e 84) 0 _
              rw [et, j_fl_t yes, ← List.append_assoc, show ((e.toNat : Nat) : Int) = e by omega]
              refine j_l_snoc e5 (fun k k1 k2 => jx_upx (by omega)) ?_
              rw [← e4, Int.zero_add, jx_ups]
      refine inner 0 (N, pl) ⟨by omega, by omega, s3, ?_, ?_⟩
      · rw [show (0 : Int).toNat = 0 from rfl]; simp only [j_fl, List.append_nil]; exact s4
      · rw [show (0 : Int).toNat = 0 from rfl]; simp only [j_fl, List.append_nil]; exact s5
  exact lp 6 (M, 0) ⟨by omega, by omega, fun _ _ _ => rfl, rfl, fun k hk => absurd hk (Nat.not_lt_zero _)⟩
theorem take_s {l : List Int} {k : Nat} (h : k < l.length) : l.take (k + 1) = l.take k ++ [l.getD k 0] := by
  rw [List.take_succ_eq_append_getElem h]
  simp [List.getD_eq_getElem?_getD, List.getElem?_eq_getElem h]
theorem q_rs_fr {M M' : jxM} {A : Int → Int} (ho : q_ok A) (h : q_rs M 4 A) (hf : ∀ c x, 4 ≤ c → c ≤ 14 → M' c x = M c x) : q_rs M' 4 A := q_rs_blk ho h (q_blk_rfl (fun c x c1 c2 => hf c x c1 (by omega)))
set_option maxHeartbeats 4000000 in
theorem sp_L_addEntriesAt (d : Nat) (g : Int) (M : jxM) {A : Int → Int} (hr : q_rs M 4 A) (ho : q_ok A) (hb : j_l (M 84) 0 (a_byl A 6)) (hg : 0 ≤ g ∧ g < A 271) (h0 : M 85 g = 0) {K : jxK} (h : ∀ M', (∀ c x, (c < 85 ∨ 89 < c) → M' c x = M c x) → (∀ x, x ≠ g → M' 85 x = M 85 x) → (∀ c x, 86 ≤ c → c ≤ 89 → (x < g * 21 ∨ g * 21 + 21 ≤ x) → M' c x = M c x) → q_sl M' A g (a_fsg A g 6) → K none M') : jx_call jx_G1 jx_T (d + 3) 13 [.inr 83, .inl g] M K := by
  have ho2 := ho
  obtain ⟨o1, o2, o3, o4, o5, o6⟩ := ho
  have blen := a_byl_len ho2
  intro X hX
  refine bk_L_addEntriesAt_0 (d := d) hX g M ?_
  refine jx_loop (σ := jxM) (A 0) (fun i N => 0 ≤ i ∧ i ≤ A 0 ∧ (∀ c x, (c < 85 ∨ 89 < c) → N c x = M c x) ∧ (∀ x, x ≠ g → N 85 x = M 85 x) ∧ (∀ c x, 86 ≤ c → c ≤ 89 → (x < g * 21 ∨ g * 21 + 21 ≤ x) → N c x = M c x) ∧ q_sl N A g (j_lf (fun e => f_stands A e g ∧ f_may A g (g + A (1 + 11 * e))) ((a_byl A 6).take i.toNat))) (fun i N => X 6 [.inr 83, .inl g, .inr 5, .inl i, .inr 0] [] N) ?_ 0 M ⟨by omega, by omega, fun _ _ _ => rfl, fun _ _ => rfl, fun _ _ _ _ _ => rfl, ?_⟩
  · intro i N ⟨i1, i2, i3, i4, i5, i6⟩ ih
    have nr : q_rs N 4 A := q_rs_fr ho2 hr (fun c x c1 c2 => i3 c x (by omega))
    have n0 : N 5 6 = A 0 := nr.1
    have n45 : N 4 5 = A 271 := nr.2.2.2.2.1
    refine bk_L_addEntriesAt_6 (d := d) hX g i N ⟨fun q => ?_, fun q => ?_⟩
    · obtain rfl : i = A 0 := by omega
      rw [show (A 0).toNat = (a_byl A 6).length from blen.symm, List.take_length, a_lf_byl] at i6
      exact h N i3 i4 i5 i6
    · have hi : i.toNat < (a_byl A 6).length := by omega
      have e84 : N 84 i = (a_byl A 6).getD i.toNat 0 := by
        have := hb i.toNat hi
        rw [show (0 : Int) + (i.toNat : Int) = i by omega] at this
        rw [i3 84 i (by omega)]; exact this
      have hm := a_byl_mem A 6 (j_getD_mem hi)
      rw [← e84] at hm
      obtain ⟨y1, -, y3, y4, y5, y6⟩ := nr.2.1 _ hm.1 hm.2
      have y1 : N 7 (N 84 i) = A (1 + 11 * N 84 i) := y1
      have y4 : N 9 (N 84 i) = A (1 + 11 * N 84 i + 8) := y4
      have y5 : N 10 (N 84 i) = A (1 + 11 * N 84 i + 9) := y5
      have y6 : N 11 (N 84 i) = A (1 + 11 * N 84 i + 10) := y6
      obtain ⟨p1, p2, p3, p4⟩ := o2 _ hm.1 hm.2
      have mst := q_mst nr (e := N 84 i) (g := g) hm hg.1
      have tk := take_s hi
      rw [← e84] at tk
      have it : (i + 1).toNat = i.toNat + 1 := by omega
      have next0 : ∀ N', (∀ c x, (c < 85 ∨ 89 < c) → N' c x = M c x) → (∀ x, x ≠ g → N' 85 x = M 85 x) → (∀ c x, 86 ≤ c → c ≤ 89 → (x < g * 21 ∨ g * 21 + 21 ≤ x) → N' c x = M c x) → q_sl N' A g (j_lf (fun e => f_stands A e g ∧ f_may A g (g + A (1 + 11 * e))) ((a_byl A 6).take i.toNat) ++ j_lf (fun e => f_stands A e g ∧ f_may A g (g + A (1 + 11 * e))) [N 84 i]) → X 6 [.inr 83, .inl g, .inr 5, .inl (i + 1), .inr 0] [] N' := fun N' a b c e => ih N' (by omega) ⟨by omega, by omega, a, b, c, by rw [it, tk, j_lf_app]; exact e⟩
      refine ⟨by omega, fun q2 => ⟨by omega, next0 N i3 i4 i5 ?_⟩, fun q2 => ⟨by omega, ?_⟩⟩
      · rw [j_lf_1f (fun z => q2 (mst.mpr z.1)), List.append_nil]; exact i6
      · have hst := mst.mp q2
        have hle := hst.1
        have hlen : (j_lf (fun e => f_stands A e g ∧ f_may A g (g + A (1 + 11 * e))) ((a_byl A 6).take i.toNat)).length ≤ i.toNat := Nat.le_trans (j_lf_le _) (by rw [List.length_take]; omega)
        have hsl := i6.1
        have may := q_mmay nr ho2 (a := g) (b := g + N 7 (N 84 i)) hg.1 (by omega)
        rw [y1] at may
        refine sp_L_addSlot d g _ _ _ _ N (by omega) (fun q3 => ⟨rfl, by omega, next0 N i3 i4 i5 ?_⟩) (fun q3 => ⟨rfl, by omega, next0 _ (fun c x hc => ?_) (fun x hx => ?_) (fun c x c1 c2 hx => ?_) ?_⟩)
        · rw [j_lf_1f (fun z => q3 (by rw [y1]; exact may.mpr z.2)), List.append_nil]; exact i6
        · rw [jx_upc (by omega), jx_upc (by omega), jx_upc (by omega), jx_upc (by omega), jx_upc (by omega)]; exact i3 c x hc
        · rw [jx_upx hx, jx_upc (by decide), jx_upc (by decide), jx_upc (by decide), jx_upc (by decide)]; exact i4 x hx
        · have gen : ∀ (L : jxM) (c' : Nat) (v : Int), jx_up L c' (g * 21 + N 85 g) v c x = L c x := fun L c' v => by
            by_cases z : c = c'
            · subst z; exact jx_upx (by omega)
            · exact jx_upc z
          rw [jx_upc (by omega), gen, gen, gen, gen]; exact i5 c x c1 c2 hx
        · rw [y1] at q3
          rw [j_lf_1t ⟨hst, may.mp q3⟩]
          have ns : N 84 i ≠ -5 := by omega
          have z1 : f_end A (N 84 i) g = g + N 7 (N 84 i) := by unfold f_end; rw [if_neg ns, y1]
          have z2 : f_cls A (N 84 i) = N 9 (N 84 i) := by unfold f_cls; rw [if_neg ns, y4]
          have z3 : f_cost A (N 84 i) = max 0 (N 10 (N 84 i) - 3 * N 11 (N 84 i)) := by unfold f_cost f_price; rw [if_neg ns, y5, y6]
          rw [← z1, ← z2, ← z3]
          exact q_sl_add i6
  · exact ⟨by rw [h0]; rfl, fun k hk => absurd hk (Nat.not_lt_zero _)⟩
set_option maxHeartbeats 4000000 in
theorem sp_L_build (d : Nat) (M : jxM) {A : Int → Int} (hr : q_rs M 4 A) (ho : q_ok A) {K : jxK} (h : ∀ M', (∀ c x, (c < 84 ∨ 89 < c) → M' c x = M c x) → q_lat M' A → K none M') : jx_call jx_G1 jx_T (d + 4) 11 [.inr 83] M K := by
  have ho2 := ho
  obtain ⟨o1, o2, o3, o4, o5, o6⟩ := ho
  intro X hX
  refine bk_L_build_0 (d := d) hX M ?_
  refine sp_L_sortByLength (d + 2) M hr ho2 (fun N1 n1 n2 => ⟨rfl, ?_⟩)
  refine sp_J_fill (d + 2) 84 17 0 N1 rfl (by omega) ⟨rfl, ?_⟩
  have f0 : ∀ x, 0 ≤ x → x < 17 → jx_fi N1 85 17 0 85 x = 0 := fun x x1 x2 => by unfold jx_fi; rw [if_pos ⟨rfl, x1, x2⟩]
  have fo : ∀ c x, c ≠ 85 → jx_fi N1 85 17 0 c x = N1 c x := fun c x hc => by unfold jx_fi; rw [if_neg (fun z => hc z.1)]
  refine jx_loop (σ := jxM) (A 271) (fun g N => 0 ≤ g ∧ g ≤ A 271 ∧ (∀ c x, (c < 84 ∨ 89 < c) → N c x = M c x) ∧ j_l (N 84) 0 (a_byl A 6) ∧ (∀ g', 0 ≤ g' → g' < g → q_sl N A g' (a_seg A g')) ∧ (∀ g', g ≤ g' → g' ≤ 16 → N 85 g' = 0)) (fun g N => X 8 [.inr 83, .inl g] [] N) ?_ 0 _ ⟨by omega, by omega, fun c x hc => (fo c x (by omega)).trans (n1 c x (by omega)), j_l_fr n2 (fun k _ _ => fo 84 k (by decide)), fun g' a b => by omega, fun g' a b => f0 g' a (by omega)⟩
  intro g N ⟨i1, i2, i3, i4, i5, i6⟩ ih
  have nr : q_rs N 4 A := q_rs_fr ho2 hr (fun c x c1 c2 => i3 c x (by omega))
  have n45 : N 4 5 = A 271 := nr.2.2.2.2.1
  refine bk_L_build_8 (d := d) hX g N ⟨fun q => ?_, fun q => ?_⟩
  · obtain rfl : g = A 271 := by omega
    exact h N i3 ⟨fun g' a b => i5 g' a b, i6 _ (by omega) (by omega)⟩
  · refine sp_L_addEntriesAt d g N nr ho2 i4 ⟨i1, by omega⟩ (i6 g (by omega) (by omega)) (fun L l1 l2 l3 l4 => ⟨rfl, by omega, ?_⟩)
    have lr : q_rs L 4 A := q_rs_fr ho2 nr (fun c x c1 c2 => l1 c x (by omega))
    have hlen := a_fsg_len ho2 g
    have hsl := l4.1
    have may := q_mmay lr ho2 (a := g) (b := g + 1) i1 (by omega)
    have keep : ∀ (L' : jxM), (∀ c x, (c < 85 ∨ 89 < c) → L' c x = L c x) → (∀ x, x ≠ g → L' 85 x = L 85 x) → (∀ c x, 86 ≤ c → c ≤ 89 → (x < g * 21 ∨ g * 21 + 21 ≤ x) → L' c x = L c x) → q_sl L' A g (a_seg A g) → X 8 [.inr 83, .inl (g + 1)] [] L' := by
      intro L' a b c e
      refine ih L' (by omega) ⟨by omega, by omega, fun c' x hc => ?_, ?_, fun g' g1 g2 => ?_, fun g' g1 g2 => ?_⟩
      · rw [a c' x (by omega), l1 c' x (by omega)]; exact i3 c' x hc
      · exact j_l_fr i4 (fun k _ _ => by rw [a 84 k (by omega), l1 84 k (by omega)])
      · rcases Int.lt_or_le g' g with y | y
        · have hl2 := a_seg_len ho2 g'
          refine q_sl_fr (i5 g' g1 y) (by rw [b g' (by omega), l2 g' (by omega)]) (fun c' x c1 c2 x1 x2 => ?_)
          rw [c c' x c1 c2 (by omega), l3 c' x c1 c2 (by omega)]
        · obtain rfl : g' = g := by omega
          exact e
      · rw [b g' (by omega), l2 g' (by omega)]; exact i6 g' (by omega) g2
    refine sp_L_addSlot (d + 1) g _ _ _ _ L (by omega) (fun q2 => ⟨rfl, by omega, keep L (fun _ _ _ => rfl) (fun _ _ => rfl) (fun _ _ _ _ _ => rfl) ?_⟩) (fun q2 => ⟨rfl, by omega, keep _ (fun c x hc => ?_) (fun x hx => ?_) (fun c x c1 c2 hx => ?_) ?_⟩)
    · have e : a_seg A g = a_fsg A g 6 := by unfold a_seg; rw [if_neg (fun z => q2 (may.mpr z)), List.append_nil]
      rw [e]; exact l4
    · rw [jx_upc (by omega), jx_upc (by omega), jx_upc (by omega), jx_upc (by omega), jx_upc (by omega)]
    · rw [jx_upx hx, jx_upc (by decide), jx_upc (by decide), jx_upc (by decide), jx_upc (by decide)]
    · have gen : ∀ (L2 : jxM) (c' : Nat) (v : Int), jx_up L2 c' (g * 21 + L 85 g) v c x = L2 c x := fun L2 c' v => by
        by_cases z : c = c'
        · subst z; exact jx_upx (by omega)
        · exact jx_upc z
      rw [jx_upc (by omega), gen, gen, gen, gen]
    · have e : a_seg A g = a_fsg A g 6 ++ [-5] := by unfold a_seg; rw [if_pos (may.mp q2)]
      have z1 : f_end A (-5) g = g + 1 := by unfold f_end; rw [if_pos rfl]
      have z2 : f_cls A (-5) = 5 := by unfold f_cls; rw [if_pos rfl]
      have z3 : f_cost A (-5) = L 4 4 := by unfold f_cost; rw [if_pos rfl]; exact lr.2.2.2.1.symm
      rw [e, ← z3]
      have := q_sl_add (s := -5) l4
      rw [z1, z2] at this
      exact this
end
section
/-! WAYS, without a memory: a way is (cost, segment, place of the rest) -/
abbrev wX : Type := Int × Int × Int
def w_ins (x : wX) : List wX → List wX
  | [] => [x]
  | a :: l => if x.1 < a.1 then x :: a :: l else a :: w_ins x l
def w_srt : List wX → List wX → List wX
  | l, [] => l
  | l, x :: r => w_srt (w_ins x l) r
def w_sd (l : List wX) : Prop := l.Pairwise (fun a b => a.1 ≤ b.1)
theorem w_ins_mem {x p : wX} {l : List wX} : p ∈ w_ins x l ↔ p = x ∨ p ∈ l := by
  induction l with
  | nil => simp [w_ins]
  | cons a l ih =>
    simp only [w_ins]
    split
    · simp
    · simp only [List.mem_cons, ih]
      constructor
      · rintro (h | h | h)
        · exact Or.inr (Or.inl h)
        · exact Or.inl h
        · exact Or.inr (Or.inr h)
      · rintro (h | h | h)
        · exact Or.inr (Or.inl h)
        · exact Or.inl h
        · exact Or.inr (Or.inr h)
theorem w_ins_len (x : wX) (l : List wX) : (w_ins x l).length = l.length + 1 := by
  induction l with
  | nil => rfl
  | cons a l ih =>
    simp only [w_ins]
    split
    · rfl
    · simp [ih]
theorem w_ins_sd {x : wX} {l : List wX} (h : w_sd l) : w_sd (w_ins x l) := by
  induction l with
  | nil => simp [w_ins, w_sd]
  | cons a l ih =>
    obtain ⟨h1, h2⟩ := List.pairwise_cons.mp h
    simp only [w_ins]
    split
    · rename_i hx
      refine List.pairwise_cons.mpr ⟨fun b hb => ?_, h⟩
      rcases List.mem_cons.mp hb with rfl | hb
      · omega
      · have := h1 b hb
        omega
    · rename_i hx
      refine List.pairwise_cons.mpr ⟨fun b hb => ?_, ih h2⟩
      rcases w_ins_mem.mp hb with rfl | hb
      · omega
      · exact h1 b hb
theorem w_ins_at {x : wX} {l : List wX} {k : Nat} (h1 : ∀ p ∈ l.take k, p.1 ≤ x.1) (h2 : ∀ p, (l.drop k).head? = some p → x.1 < p.1) : w_ins x l = l.take k ++ x :: l.drop k := by
  induction l generalizing k with
  | nil => simp [w_ins]
  | cons a l ih =>
    cases k with
    | zero =>
      have := h2 a rfl
      simp only [w_ins]
      rw [if_pos this]
      rfl
    | succ k =>
      have ha := h1 a (by simp)
      simp only [w_ins]
      rw [if_neg (by omega), ih (k := k) (fun p hp => h1 p (by simp; exact Or.inr hp)) (fun p hp => h2 p (by simpa using hp))]
      rfl
theorem w_ins_lt {x : wX} {l : List wX} (h : ∀ p ∈ l, x.1 < p.1) : w_ins x l = x :: l := by
  cases l with
  | nil => rfl
  | cons a l => simp only [w_ins]; rw [if_pos (h a List.mem_cons_self)]
theorem w_ins_cons {x q : wX} {l : List wX} (h : x.1 ≤ q.1) : w_ins q (x :: l) = x :: w_ins q l := by simp only [w_ins]; rw [if_neg (by omega)]
theorem w_srt_app (l a b : List wX) : w_srt l (a ++ b) = w_srt (w_srt l a) b := by
  induction a generalizing l with
  | nil => rfl
  | cons x a ih => exact ih _
theorem w_srt_mem {l r : List wX} {p : wX} : p ∈ w_srt l r ↔ p ∈ l ∨ p ∈ r := by
  induction r generalizing l with
  | nil => simp [w_srt]
  | cons x r ih =>
    simp only [w_srt, ih, w_ins_mem, List.mem_cons]
    constructor
    · rintro ((h | h) | h)
      · exact Or.inr (Or.inl h)
      · exact Or.inl h
      · exact Or.inr (Or.inr h)
    · rintro (h | h | h)
      · exact Or.inl (Or.inr h)
      · exact Or.inl (Or.inl h)
      · exact Or.inr h
theorem w_srt_sd {l r : List wX} (h : w_sd l) : w_sd (w_srt l r) := by
  induction r generalizing l with
  | nil => exact h
  | cons x r ih => exact ih (w_ins_sd h)
theorem w_srt_cons {x : wX} {l q : List wX} (h : ∀ p ∈ q, x.1 ≤ p.1) : w_srt (x :: l) q = x :: w_srt l q := by
  induction q generalizing l with
  | nil => rfl
  | cons a q ih =>
    simp only [w_srt]
    rw [w_ins_cons (h a List.mem_cons_self)]
    exact ih (fun p hp => h p (List.mem_cons_of_mem _ hp))
theorem w_srt_pick {x : wX} {a b : List wX} (ha : ∀ p ∈ a, x.1 < p.1) (hb : ∀ p ∈ b, x.1 ≤ p.1) : w_srt [] (a ++ x :: b) = x :: w_srt [] (a ++ b) := by
  rw [w_srt_app, w_srt_app]
  simp only [w_srt]
  rw [w_ins_lt (fun p hp => by
    rcases w_srt_mem.mp hp with h | h
    · cases h
    · exact ha p h), w_srt_cons hb]
theorem w_ins_take (x : wX) (l : List wX) (m : Nat) : (w_ins x (l.take m)).take m = (w_ins x l).take m := by
  induction l generalizing m with
  | nil => simp
  | cons a l ih =>
    cases m with
    | zero => simp
    | succ m =>
      simp only [List.take_succ_cons, w_ins]
      split
      · cases m with
        | zero => simp
        | succ m => simp [List.take_take]
      · rw [List.take_succ_cons, List.take_succ_cons, ih]
/-- inserting, and never more than twenty -/
def w_st : List wX → List wX → List wX
  | l, [] => l
  | l, x :: r => w_st ((w_ins x l).take 20) r
theorem w_st_eq (l r : List wX) : w_st (l.take 20) r = (w_srt l r).take 20 := by
  induction r generalizing l with
  | nil => rfl
  | cons x r ih =>
    simp only [w_st, w_srt]
    rw [w_ins_take]
    exact ih _
theorem w_st_app (l a b : List wX) : w_st l (a ++ b) = w_st (w_st l a) b := by
  induction a generalizing l with
  | nil => rfl
  | cons x a ih => exact ih _
/-- a list of ways behind a segment, with its cost: the candidates -/
def w_cnd (b s : Int) : Int → List wX → List wX
  | _, [] => []
  | k, a :: l => (b + a.1, s, k) :: w_cnd b s (k + 1) l
theorem w_cnd_len (b s k : Int) (l : List wX) : (w_cnd b s k l).length = l.length := by
  induction l generalizing k with
  | nil => rfl
  | cons a l ih => simp [w_cnd, ih]
theorem w_cnd_mem {b s k : Int} {l : List wX} {p : wX} (h : p ∈ w_cnd b s k l) : ∃ j : Nat, ∃ a, l[j]? = some a ∧ p = (b + a.1, s, k + j) := by
  induction l generalizing k with
  | nil => cases h
  | cons a l ih =>
    simp only [w_cnd] at h
    rcases List.mem_cons.mp h with rfl | h
    · exact ⟨0, a, rfl, by simp⟩
    · obtain ⟨j, a', h1, h2⟩ := ih h
      exact ⟨j + 1, a', by simpa using h1, by rw [h2]; congr 2; omega⟩
theorem w_cnd_sd {b s k : Int} {l : List wX} (h : w_sd l) : w_sd (w_cnd b s k l) := by
  induction l generalizing k with
  | nil => exact List.Pairwise.nil
  | cons a l ih =>
    obtain ⟨h1, h2⟩ := List.pairwise_cons.mp h
    simp only [w_cnd]
    refine List.pairwise_cons.mpr ⟨fun p hp => ?_, ih h2⟩
    obtain ⟨j, a', g1, g2⟩ := w_cnd_mem hp
    have := h1 a' (List.mem_of_getElem? g1)
    rw [g2]
    show b + a.1 ≤ b + a'.1
    omega
/-- lists one behind another -/
def w_cc (F : Nat → List wX) : Nat → List wX
  | 0 => []
  | k + 1 => w_cc F k ++ F k
theorem w_cc_mem {F : Nat → List wX} {m : Nat} {p : wX} (h : p ∈ w_cc F m) : ∃ j, j < m ∧ p ∈ F j := by
  induction m with
  | zero => cases h
  | succ m ih =>
    rcases List.mem_append.mp h with h | h
    · obtain ⟨j, h1, h2⟩ := ih h
      exact ⟨j, by omega, h2⟩
    · exact ⟨m, by omega, h⟩
theorem w_cc_eq {F F' : Nat → List wX} {m : Nat} (h : ∀ j, j < m → F' j = F j) : w_cc F' m = w_cc F m := by
  induction m with
  | zero => rfl
  | succ m ih => simp only [w_cc]; rw [ih (fun j hj => h j (by omega)), h m (by omega)]
theorem w_cc_split (F : Nat → List wX) {i m : Nat} (hi : i < m) : ∃ q, (∀ p ∈ q, ∃ j, i < j ∧ j < m ∧ p ∈ F j) ∧ ∀ F' : Nat → List wX, (∀ j, j < m → j ≠ i → F' j = F j) → w_cc F' m = w_cc F i ++ (F' i ++ q) := by
  induction m with
  | zero => omega
  | succ m ih =>
    by_cases z : i = m
    · subst z
      refine ⟨[], fun p hp => (by cases hp), fun F' h => ?_⟩
      simp only [w_cc]
      rw [w_cc_eq (fun j hj => h j (by omega) (by omega)), List.append_nil]
    · obtain ⟨q, h1, h2⟩ := ih (by omega)
      refine ⟨q ++ F m, fun p hp => ?_, fun F' h => ?_⟩
      · rcases List.mem_append.mp hp with hp | hp
        · obtain ⟨j, j1, j2, j3⟩ := h1 p hp
          exact ⟨j, j1, by omega, j3⟩
        · exact ⟨m, by omega, by omega, hp⟩
      · simp only [w_cc]
        rw [h2 F' (fun j hj hn => h j (by omega) hn), h m (by omega) (by omega)]
        simp [List.append_assoc]
/-- the cheapest head, the first of its cost, comes first -/
theorem w_pick {F F' : Nat → List wX} {m i : Nat} {x : wX} {t : List wX} (hi : i < m) (hF : F i = x :: t) (h1 : ∀ j, j < i → ∀ p ∈ F j, x.1 < p.1) (h2 : ∀ j, i < j → j < m → ∀ p ∈ F j, x.1 ≤ p.1) (h3 : ∀ p ∈ t, x.1 ≤ p.1) (hF' : ∀ j, j < m → j ≠ i → F' j = F j) (ht : F' i = t) : w_srt [] (w_cc F m) = x :: w_srt [] (w_cc F' m) := by
  obtain ⟨q, q1, q2⟩ := w_cc_split F hi
  rw [q2 F (fun _ _ _ => rfl), q2 F' hF', hF, ht]
  refine w_srt_pick (fun p hp => ?_) (fun p hp => ?_)
  · obtain ⟨j, j1, j2⟩ := w_cc_mem hp
    exact h1 j j1 p j2
  · rcases List.mem_append.mp hp with hp | hp
    · exact h3 p hp
    · obtain ⟨j, j1, j2, j3⟩ := q1 p hp
      exact h2 j j1 j2 p j3
theorem w_cc_nil {F : Nat → List wX} {m : Nat} (h : ∀ j, j < m → F j = []) : w_cc F m = [] := by
  induction m with
  | zero => rfl
  | succ m ih => simp only [w_cc]; rw [ih (fun j hj => h j (by omega)), h m (by omega)]; rfl
theorem w_cc_flat (G : Int → List wX) (l : List Int) : ∀ k, k ≤ l.length → w_cc (fun i => G (l.getD i 0)) k = (l.take k).flatMap G := by
  intro k
  induction k with
  | zero => intro _; rfl
  | succ k ih =>
    intro hk
    simp only [w_cc]
    rw [ih (by omega), take_s (by omega), List.flatMap_append]
    simp
/-! tables that are laid from the last gap backwards -/
def j_tb {α : Type} (n : Int) (base : Int → α) (step : (Int → Int → α) → Int → Int → α) : Nat → Int → Int → α
  | 0, _, c => base c
  | k + 1, g, c => if g = n - (k + 1) then step (j_tb n base step k) g c else j_tb n base step k g c
theorem j_tb_keep {α : Type} (n : Int) (base : Int → α) (step : (Int → Int → α) → Int → Int → α) {k : Nat} {g c : Int} (hg : n - k ≤ g) : ∀ m, k ≤ m → j_tb n base step m g c = j_tb n base step k g c := by
  intro m
  induction m with
  | zero => intro hm; obtain rfl : k = 0 := by omega
            rfl
  | succ m ih =>
    intro hm
    by_cases z : k = m + 1
    · subst z; rfl
    · simp only [j_tb]
      rw [if_neg (by omega)]
      exact ih (by omega)
theorem j_tb_end {α : Type} (n : Int) (base : Int → α) (step : (Int → Int → α) → Int → Int → α) (c : Int) : j_tb n base step n.toNat n c = base c := by
  have := j_tb_keep n base step (k := 0) (g := n) (c := c) (by omega) n.toNat (by omega)
  rw [this]
  rfl
theorem j_tb_step {α : Type} (n : Int) (base : Int → α) (step : (Int → Int → α) → Int → Int → α) (hs : ∀ f f' g c, 0 ≤ g → g < n → (∀ g' c', g < g' → g' ≤ n → f g' c' = f' g' c') → step f g c = step f' g c) {g c : Int} (h0 : 0 ≤ g) (h1 : g < n) : j_tb n base step n.toNat g c = step (j_tb n base step n.toNat) g c := by
  have e := j_tb_keep n base step (k := (n - g).toNat) (g := g) (c := c) (by omega) n.toNat (by omega)
  rw [e]
  have hk : (n - g).toNat = ((n - g).toNat - 1) + 1 := by omega
  rw [hk]
  simp only [j_tb]
  rw [if_pos (by omega)]
  refine hs _ _ g c h0 h1 (fun g' c' a b => ?_)
  exact (j_tb_keep n base step (k := (n - g).toNat - 1) (g := g') (c := c') (by omega) n.toNat (by omega)).symm
/-- a connection's cost -/
def a_con (A : Int → Int) (l r : Int) : Int := A (221 + 7 * l + r)
/-- a segment's cost behind class c -/
def a_edge (A : Int → Int) (c s : Int) : Int := a_con A c (f_cls A s) + f_cost A s
noncomputable def a_cands (A : Int → Int) (W : Int → Int → List wX) (g c : Int) : List wX := (a_seg A g).flatMap (fun s => w_cnd (a_edge A c s) s 0 (W (f_end A s g) (f_cls A s)))
noncomputable def a_wstep (A : Int → Int) (W : Int → Int → List wX) (g c : Int) : List wX := (w_srt [] (a_cands A W g c)).take 20
/-- the first twenty ways on from a gap, behind a class -/
noncomputable def a_W (A : Int → Int) : Int → Int → List wX := j_tb (A 271) (fun c => [(a_con A c 6, -9, 0)]) (a_wstep A) (A 271).toNat
theorem a_cands_eq {A : Int → Int} (ho : q_ok A) {W W' : Int → Int → List wX} {g c : Int} (h0 : 0 ≤ g) (h1 : g < A 271) (h : ∀ g' c', g < g' → g' ≤ A 271 → W g' c' = W' g' c') : a_cands A W g c = a_cands A W' g c := by
  unfold a_cands
  have : ∀ s ∈ a_seg A g, w_cnd (a_edge A c s) s 0 (W (f_end A s g) (f_cls A s)) = w_cnd (a_edge A c s) s 0 (W' (f_end A s g) (f_cls A s)) := fun s hs => by
    have := (a_seg_mem ho ⟨h0, h1⟩ hs).2.1
    rw [h _ _ this.1 this.2]
  generalize a_seg A g = sl at this ⊢
  induction sl with
  | nil => rfl
  | cons s l ih =>
    simp only [List.flatMap_cons]
    rw [this s List.mem_cons_self, ih (fun s hs => this s (List.mem_cons_of_mem _ hs))]
theorem a_W_end (A : Int → Int) (c : Int) : a_W A (A 271) c = [(a_con A c 6, -9, 0)] := j_tb_end _ _ _ c
theorem a_W_step {A : Int → Int} (ho : q_ok A) {g c : Int} (h0 : 0 ≤ g) (h1 : g < A 271) : a_W A g c = a_wstep A (a_W A) g c :=
  j_tb_step _ _ _ (fun f f' g c a b h => by unfold a_wstep; rw [a_cands_eq ho a b h]) h0 h1
theorem a_W_sd {A : Int → Int} (ho : q_ok A) {g c : Int} (h0 : 0 ≤ g) (h1 : g ≤ A 271) : w_sd (a_W A g c) := by
  rcases Int.lt_or_le g (A 271) with z | z
  · rw [a_W_step ho h0 z]
    exact List.Pairwise.sublist (List.take_sublist _ _) (w_srt_sd List.Pairwise.nil)
  · obtain rfl : g = A 271 := by omega
    rw [a_W_end]
    exact List.pairwise_singleton _ _
theorem a_W_len {A : Int → Int} (ho : q_ok A) {g c : Int} (h0 : 0 ≤ g) (h1 : g ≤ A 271) : (a_W A g c).length ≤ 20 := by
  rcases Int.lt_or_le g (A 271) with z | z
  · rw [a_W_step ho h0 z]
    unfold a_wstep
    rw [List.length_take]
    omega
  · obtain rfl : g = A 271 := by omega
    rw [a_W_end]
    exact Nat.le_of_ble_eq_true rfl
/-- a way's segment is one of the gap's, and its rest stands in the list behind -/
theorem a_W_mem {A : Int → Int} (ho : q_ok A) {g c : Int} (h0 : 0 ≤ g) (h1 : g < A 271) {p : wX} (hp : p ∈ a_W A g c) : p.2.1 ∈ a_seg A g ∧ ∃ j : Nat, ∃ a, (a_W A (f_end A p.2.1 g) (f_cls A p.2.1))[j]? = some a ∧ p.2.2 = j ∧ p.1 = a_edge A c p.2.1 + a.1 := by
  rw [a_W_step ho h0 h1] at hp
  have hp := List.mem_of_mem_take hp
  rcases w_srt_mem.mp hp with hp | hp
  · cases hp
  · unfold a_cands at hp
    obtain ⟨s, hs, hp⟩ := List.mem_flatMap.mp hp
    obtain ⟨j, a, e1, e2⟩ := w_cnd_mem hp
    subst e2
    exact ⟨hs, j, a, e1, by simp, rfl⟩
/-- what ways cost -/
theorem a_W_bnd {A : Int → Int} (ho : q_ok A) : ∀ (k : Nat) {g c : Int}, 0 ≤ g → g ≤ A 271 → A 271 - g ≤ k → (0 ≤ c ∧ c ≤ 6) → ∀ p ∈ a_W A g c, 0 ≤ p.1 ∧ p.1 ≤ 99 + 299 * (A 271 - g) := by
  have con : ∀ l r, 0 ≤ l → l ≤ 6 → 0 ≤ r → r ≤ 6 → 0 ≤ a_con A l r ∧ a_con A l r ≤ 99 := fun l r l1 l2 r1 r2 => by
    unfold a_con
    have := ho.2.2.1 (7 * l + r) (by omega) (by omega)
    rw [← Int.add_assoc] at this
    exact this
  intro k
  induction k with
  | zero =>
    intro g c g0 g1 hk hc p hp
    obtain rfl : g = A 271 := by omega
    rw [a_W_end, List.mem_singleton] at hp
    subst hp
    have := con c 6 hc.1 hc.2 (by omega) (by omega)
    show 0 ≤ a_con A c 6 ∧ a_con A c 6 ≤ _
    omega
  | succ k ih =>
    intro g c g0 g1 hk hc p hp
    rcases Int.lt_or_le g (A 271) with z | z
    · obtain ⟨hs, j, a, e1, e2, e3⟩ := a_W_mem ho g0 z hp
      obtain ⟨-, m2, m3, m4, -⟩ := a_seg_mem ho ⟨g0, z⟩ hs
      have := ih (g := f_end A p.2.1 g) (c := f_cls A p.2.1) (by omega) m2.2 (by omega) (by omega) a (List.mem_of_getElem? e1)
      have c2 := con c (f_cls A p.2.1) hc.1 hc.2 m3.1 (by omega)
      unfold a_edge at e3
      omega
    · obtain rfl : g = A 271 := by omega
      rw [a_W_end, List.mem_singleton] at hp
      subst hp
      have := con c 6 hc.1 hc.2 (by omega) (by omega)
      show 0 ≤ a_con A c 6 ∧ a_con A c 6 ≤ _
      omega
theorem sp_F_segmentCost (d : Nat) (s : Int) (M : jxM) (h1 : s = -5 ∨ (0 ≤ s ∧ s < 20) ∧ (0 ≤ M 2 (1 + 11 * s + 9) ∧ M 2 (1 + 11 * s + 9) ≤ 99) ∧ (0 ≤ M 2 (1 + 11 * s + 10) ∧ M 2 (1 + 11 * s + 10) ≤ 9)) {K : jxK} (h : K (some (.inl (f_cost (M 2) s))) M) : jx_call jx_G2 jx_T (d + 3) 109 [.inr 1, .inl s] M K := by
  intro X hX
  unfold f_cost at h
  refine bk_F_segmentCost_0 (d := d) hX s M ⟨fun q => ⟨by omega, ?_⟩, fun q => ?_⟩
  · rw [if_neg q] at h; exact h
  · rw [if_pos q] at h; exact h
end
section
set_option maxHeartbeats 4000000 in
theorem bk_F_insert_0 {d : Nat} {K : jxK} {X : jxX} (hX : jx_clo jx_G2 (d + 0) (jx_call jx_G2 jx_T (d + 0)) kc_F_insert K X) (v1 : Int) (v2 : Int) (v3 : Int) (v4 : Int) (M : jxM)
    (h : ((0 ≤ v1 ∧ v1 < 119)) ∧ (((M 6 v1) ≠ 20 → ((20 ≤ (M 6 v1) → X 28 [.inr 1, .inl v1, .inl v2, .inl v3, .inl v4, .inl (M 6 v1), .inl 19] [] M) ∧ ((M 6 v1) < 20 → X 28 [.inr 1, .inl v1, .inl v2, .inl v3, .inl v4, .inl (M 6 v1), .inl (M 6 v1)] [] M))) ∧ ((M 6 v1) = 20 → (((-2147483648 : Int) ≤ 20 * v1 ∧ 20 * v1 ≤ 2147483647) ∧ ((-2147483648 : Int) ≤ (20 * v1) + (M 6 v1) ∧ (20 * v1) + (M 6 v1) ≤ 2147483647) ∧ ((-2147483648 : Int) ≤ ((20 * v1) + (M 6 v1)) - 1 ∧ ((20 * v1) + (M 6 v1)) - 1 ≤ 2147483647) ∧ (0 ≤ (((20 * v1) + (M 6 v1)) - 1) ∧ (((20 * v1) + (M 6 v1)) - 1) < 2380)) ∧ ((v2 < (M 7 (((20 * v1) + (M 6 v1)) - 1)) → ((20 ≤ (M 6 v1) → X 28 [.inr 1, .inl v1, .inl v2, .inl v3, .inl v4, .inl (M 6 v1), .inl 19] [] M) ∧ ((M 6 v1) < 20 → X 28 [.inr 1, .inl v1, .inl v2, .inl v3, .inl v4, .inl (M 6 v1), .inl (M 6 v1)] [] M))) ∧ ((M 7 (((20 * v1) + (M 6 v1)) - 1)) ≤ v2 → K none M))))) :
    X 0 [.inr 1, .inl v1, .inl v2, .inl v3, .inl v4, .inr 0, .inr 0] [] M := by
  obtain ⟨g1, h23⟩ := h
  refine jk_aload (pc := 0) hX 0 rfl rfl ?_
  refine jk_getR (pc := 1) hX 7 8 rfl rfl (r := 5) rfl ?_
  refine jk_load (pc := 2) hX 1 rfl rfl ?_
  refine jk_iald (pc := 3) hX 119 rfl rfl g1 ?_
  refine jk_store (pc := 4) hX 5 rfl (Nat.le_of_ble_eq_true rfl) (ls' := [.inr 1, .inl v1, .inl v2, .inl v3, .inl v4, .inl (M 6 v1), .inr 0]) rfl ?_
  refine jk_load (pc := 5) hX 5 rfl rfl ?_
  refine jk_const (pc := 6) hX 20 rfl (by decide) ?_
  refine jk_cne (pc := 7) hX 21 rfl (fun q21 => ?_) (fun q22 => ?_)
  · have h2 := h23.1 q21
    refine jk_load (pc := 21) hX 5 rfl rfl ?_
    refine jk_const (pc := 22) hX 20 rfl (by decide) ?_
    refine jk_cge (pc := 23) hX 26 rfl (fun q6 => ?_) (fun q7 => ?_)
    · have h4 := h2.1 q6
      refine jk_const (pc := 26) hX 19 rfl (by decide) ?_
      refine jk_store (pc := 27) hX 6 rfl (Nat.le_of_ble_eq_true rfl) (ls' := [.inr 1, .inl v1, .inl v2, .inl v3, .inl v4, .inl (M 6 v1), .inl 19]) rfl ?_
      exact h4
    · have h5 := h2.2 q7
      refine jk_load (pc := 24) hX 5 rfl rfl ?_
      refine jk_goto (pc := 25) hX 27 rfl ?_
      refine jk_store (pc := 27) hX 6 rfl (Nat.le_of_ble_eq_true rfl) (ls' := [.inr 1, .inl v1, .inl v2, .inl v3, .inl v4, .inl (M 6 v1), .inl (M 6 v1)]) rfl ?_
      exact h5
  · have h3 := h23.2 q22
    obtain ⟨⟨g8, g9, g10, g11⟩, h20⟩ := h3
    refine jk_load (pc := 8) hX 2 rfl rfl ?_
    refine jk_aload (pc := 9) hX 0 rfl rfl ?_
    refine jk_getR (pc := 10) hX 7 9 rfl rfl (r := 6) rfl ?_
    refine jk_const (pc := 11) hX 20 rfl (by decide) ?_
    refine jk_load (pc := 12) hX 1 rfl rfl ?_
    refine jk_mul (pc := 13) hX rfl g8 ?_
    refine jk_load (pc := 14) hX 5 rfl rfl ?_
    refine jk_add (pc := 15) hX rfl g9 ?_
    refine jk_const (pc := 16) hX 1 rfl (by decide) ?_
    refine jk_sub (pc := 17) hX rfl g10 ?_
    refine jk_iald (pc := 18) hX 2380 rfl rfl g11 ?_
    refine jk_clt (pc := 19) hX 21 rfl (fun q18 => ?_) (fun q19 => ?_)
    · have h12 := h20.1 q18
      refine jk_load (pc := 21) hX 5 rfl rfl ?_
      refine jk_const (pc := 22) hX 20 rfl (by decide) ?_
      refine jk_cge (pc := 23) hX 26 rfl (fun q16 => ?_) (fun q17 => ?_)
      · have h14 := h12.1 q16
        refine jk_const (pc := 26) hX 19 rfl (by decide) ?_
        refine jk_store (pc := 27) hX 6 rfl (Nat.le_of_ble_eq_true rfl) (ls' := [.inr 1, .inl v1, .inl v2, .inl v3, .inl v4, .inl (M 6 v1), .inl 19]) rfl ?_
        exact h14
      · have h15 := h12.2 q17
        refine jk_load (pc := 24) hX 5 rfl rfl ?_
        refine jk_goto (pc := 25) hX 27 rfl ?_
        refine jk_store (pc := 27) hX 6 rfl (Nat.le_of_ble_eq_true rfl) (ls' := [.inr 1, .inl v1, .inl v2, .inl v3, .inl v4, .inl (M 6 v1), .inl (M 6 v1)]) rfl ?_
        exact h15
    · have h13 := h20.2 q19
      exact jk_vret (pc := 20) hX rfl h13
set_option maxHeartbeats 4000000 in
theorem bk_F_insert_28 {d : Nat} {K : jxK} {X : jxX} (hX : jx_clo jx_G2 (d + 0) (jx_call jx_G2 jx_T (d + 0)) kc_F_insert K X) (v1 : Int) (v2 : Int) (v3 : Int) (v4 : Int) (v5 : Int) (v6 : Int) (M : jxM)
    (h : ((v6 ≤ 0 → (((-2147483648 : Int) ≤ 20 * v1 ∧ 20 * v1 ≤ 2147483647) ∧ ((-2147483648 : Int) ≤ (20 * v1) + v6 ∧ (20 * v1) + v6 ≤ 2147483647) ∧ (0 ≤ ((20 * v1) + v6) ∧ ((20 * v1) + v6) < 2380) ∧ ((-2147483648 : Int) ≤ 20 * v1 ∧ 20 * v1 ≤ 2147483647) ∧ ((-2147483648 : Int) ≤ (20 * v1) + v6 ∧ (20 * v1) + v6 ≤ 2147483647) ∧ (0 ≤ ((20 * v1) + v6) ∧ ((20 * v1) + v6) < 2380) ∧ ((-2147483648 : Int) ≤ 20 * v1 ∧ 20 * v1 ≤ 2147483647) ∧ ((-2147483648 : Int) ≤ (20 * v1) + v6 ∧ (20 * v1) + v6 ≤ 2147483647) ∧ (0 ≤ ((20 * v1) + v6) ∧ ((20 * v1) + v6) < 2380)) ∧ ((20 ≤ v5 → ((0 ≤ v1 ∧ v1 < 119)) ∧ K none (jx_up (jx_up (jx_up (jx_up M 7 ((20 * v1) + v6) v2) 8 ((20 * v1) + v6) v3) 9 ((20 * v1) + v6) v4) 6 v1 20)) ∧ (v5 < 20 → (((-2147483648 : Int) ≤ v5 + 1 ∧ v5 + 1 ≤ 2147483647) ∧ (0 ≤ v1 ∧ v1 < 119)) ∧ K none (jx_up (jx_up (jx_up (jx_up M 7 ((20 * v1) + v6) v2) 8 ((20 * v1) + v6) v3) 9 ((20 * v1) + v6) v4) 6 v1 (v5 + 1))))) ∧ (0 < v6 → (((-2147483648 : Int) ≤ 20 * v1 ∧ 20 * v1 ≤ 2147483647) ∧ ((-2147483648 : Int) ≤ (20 * v1) + v6 ∧ (20 * v1) + v6 ≤ 2147483647) ∧ ((-2147483648 : Int) ≤ ((20 * v1) + v6) - 1 ∧ ((20 * v1) + v6) - 1 ≤ 2147483647) ∧ (0 ≤ (((20 * v1) + v6) - 1) ∧ (((20 * v1) + v6) - 1) < 2380)) ∧ (((M 7 (((20 * v1) + v6) - 1)) ≤ v2 → (((-2147483648 : Int) ≤ 20 * v1 ∧ 20 * v1 ≤ 2147483647) ∧ ((-2147483648 : Int) ≤ (20 * v1) + v6 ∧ (20 * v1) + v6 ≤ 2147483647) ∧ (0 ≤ ((20 * v1) + v6) ∧ ((20 * v1) + v6) < 2380) ∧ ((-2147483648 : Int) ≤ 20 * v1 ∧ 20 * v1 ≤ 2147483647) ∧ ((-2147483648 : Int) ≤ (20 * v1) + v6 ∧ (20 * v1) + v6 ≤ 2147483647) ∧ (0 ≤ ((20 * v1) + v6) ∧ ((20 * v1) + v6) < 2380) ∧ ((-2147483648 : Int) ≤ 20 * v1 ∧ 20 * v1 ≤ 2147483647) ∧ ((-2147483648 : Int) ≤ (20 * v1) + v6 ∧ (20 * v1) + v6 ≤ 2147483647) ∧ (0 ≤ ((20 * v1) + v6) ∧ ((20 * v1) + v6) < 2380)) ∧ ((20 ≤ v5 → ((0 ≤ v1 ∧ v1 < 119)) ∧ K none (jx_up (jx_up (jx_up (jx_up M 7 ((20 * v1) + v6) v2) 8 ((20 * v1) + v6) v3) 9 ((20 * v1) + v6) v4) 6 v1 20)) ∧ (v5 < 20 → (((-2147483648 : Int) ≤ v5 + 1 ∧ v5 + 1 ≤ 2147483647) ∧ (0 ≤ v1 ∧ v1 < 119)) ∧ K none (jx_up (jx_up (jx_up (jx_up M 7 ((20 * v1) + v6) v2) 8 ((20 * v1) + v6) v3) 9 ((20 * v1) + v6) v4) 6 v1 (v5 + 1))))) ∧ (v2 < (M 7 (((20 * v1) + v6) - 1)) → (((-2147483648 : Int) ≤ 20 * v1 ∧ 20 * v1 ≤ 2147483647) ∧ ((-2147483648 : Int) ≤ (20 * v1) + v6 ∧ (20 * v1) + v6 ≤ 2147483647) ∧ ((-2147483648 : Int) ≤ 20 * v1 ∧ 20 * v1 ≤ 2147483647) ∧ ((-2147483648 : Int) ≤ (20 * v1) + v6 ∧ (20 * v1) + v6 ≤ 2147483647) ∧ ((-2147483648 : Int) ≤ ((20 * v1) + v6) - 1 ∧ ((20 * v1) + v6) - 1 ≤ 2147483647) ∧ (0 ≤ (((20 * v1) + v6) - 1) ∧ (((20 * v1) + v6) - 1) < 2380) ∧ (0 ≤ ((20 * v1) + v6) ∧ ((20 * v1) + v6) < 2380) ∧ ((-2147483648 : Int) ≤ 20 * v1 ∧ 20 * v1 ≤ 2147483647) ∧ ((-2147483648 : Int) ≤ (20 * v1) + v6 ∧ (20 * v1) + v6 ≤ 2147483647) ∧ ((-2147483648 : Int) ≤ 20 * v1 ∧ 20 * v1 ≤ 2147483647) ∧ ((-2147483648 : Int) ≤ (20 * v1) + v6 ∧ (20 * v1) + v6 ≤ 2147483647) ∧ ((-2147483648 : Int) ≤ ((20 * v1) + v6) - 1 ∧ ((20 * v1) + v6) - 1 ≤ 2147483647) ∧ (0 ≤ (((20 * v1) + v6) - 1) ∧ (((20 * v1) + v6) - 1) < 2380) ∧ (0 ≤ ((20 * v1) + v6) ∧ ((20 * v1) + v6) < 2380) ∧ ((-2147483648 : Int) ≤ 20 * v1 ∧ 20 * v1 ≤ 2147483647) ∧ ((-2147483648 : Int) ≤ (20 * v1) + v6 ∧ (20 * v1) + v6 ≤ 2147483647) ∧ ((-2147483648 : Int) ≤ 20 * v1 ∧ 20 * v1 ≤ 2147483647) ∧ ((-2147483648 : Int) ≤ (20 * v1) + v6 ∧ (20 * v1) + v6 ≤ 2147483647) ∧ ((-2147483648 : Int) ≤ ((20 * v1) + v6) - 1 ∧ ((20 * v1) + v6) - 1 ≤ 2147483647) ∧ (0 ≤ (((20 * v1) + v6) - 1) ∧ (((20 * v1) + v6) - 1) < 2380) ∧ (0 ≤ ((20 * v1) + v6) ∧ ((20 * v1) + v6) < 2380) ∧ ((-2147483648 : Int) ≤ v6 + (-1) ∧ v6 + (-1) ≤ 2147483647)) ∧ X 28 [.inr 1, .inl v1, .inl v2, .inl v3, .inl v4, .inl v5, .inl (v6 + (-1))] [] (jx_up (jx_up (jx_up M 7 ((20 * v1) + v6) (M 7 (((20 * v1) + v6) - 1))) 8 ((20 * v1) + v6) (M 8 (((20 * v1) + v6) - 1))) 9 ((20 * v1) + v6) (M 9 (((20 * v1) + v6) - 1)))))))) :
    X 28 [.inr 1, .inl v1, .inl v2, .inl v3, .inl v4, .inl v5, .inl v6] [] M := by
  refine jk_load (pc := 28) hX 6 rfl rfl ?_
  refine jk_zle (pc := 29) hX 98 rfl (fun q73 => ?_) (fun q74 => ?_)
  · have h1 := h.1 q73
    obtain ⟨⟨g3, g4, g5, g6, g7, g8, g9, g10, g11⟩, h21⟩ := h1
    refine jk_aload (pc := 98) hX 0 rfl rfl ?_
    refine jk_getR (pc := 99) hX 7 9 rfl rfl (r := 6) rfl ?_
    refine jk_const (pc := 100) hX 20 rfl (by decide) ?_
    refine jk_load (pc := 101) hX 1 rfl rfl ?_
    refine jk_mul (pc := 102) hX rfl g3 ?_
    refine jk_load (pc := 103) hX 6 rfl rfl ?_
    refine jk_add (pc := 104) hX rfl g4 ?_
    refine jk_load (pc := 105) hX 2 rfl rfl ?_
    refine jk_iast (pc := 106) hX 2380 rfl rfl g5 ?_
    refine jk_aload (pc := 107) hX 0 rfl rfl ?_
    refine jk_getR (pc := 108) hX 7 10 rfl rfl (r := 7) rfl ?_
    refine jk_const (pc := 109) hX 20 rfl (by decide) ?_
    refine jk_load (pc := 110) hX 1 rfl rfl ?_
    refine jk_mul (pc := 111) hX rfl g6 ?_
    refine jk_load (pc := 112) hX 6 rfl rfl ?_
    refine jk_add (pc := 113) hX rfl g7 ?_
    refine jk_load (pc := 114) hX 3 rfl rfl ?_
    refine jk_iast (pc := 115) hX 2380 rfl rfl g8 ?_
    refine jk_aload (pc := 116) hX 0 rfl rfl ?_
    refine jk_getR (pc := 117) hX 7 11 rfl rfl (r := 8) rfl ?_
    refine jk_const (pc := 118) hX 20 rfl (by decide) ?_
    refine jk_load (pc := 119) hX 1 rfl rfl ?_
    refine jk_mul (pc := 120) hX rfl g9 ?_
    refine jk_load (pc := 121) hX 6 rfl rfl ?_
    refine jk_add (pc := 122) hX rfl g10 ?_
    refine jk_load (pc := 123) hX 4 rfl rfl ?_
    refine jk_iast (pc := 124) hX 2380 rfl rfl g11 ?_
    refine jk_aload (pc := 125) hX 0 rfl rfl ?_
    refine jk_getR (pc := 126) hX 7 8 rfl rfl (r := 5) rfl ?_
    refine jk_load (pc := 127) hX 1 rfl rfl ?_
    refine jk_load (pc := 128) hX 5 rfl rfl ?_
    refine jk_const (pc := 129) hX 20 rfl (by decide) ?_
    refine jk_cge (pc := 130) hX 135 rfl (fun q19 => ?_) (fun q20 => ?_)
    · have h12 := h21.1 q19
      obtain ⟨g14, h15⟩ := h12
      refine jk_const (pc := 135) hX 20 rfl (by decide) ?_
      refine jk_iast (pc := 136) hX 119 rfl rfl g14 ?_
      exact jk_vret (pc := 137) hX rfl h15
    · have h13 := h21.2 q20
      obtain ⟨⟨g16, g17⟩, h18⟩ := h13
      refine jk_load (pc := 131) hX 5 rfl rfl ?_
      refine jk_const (pc := 132) hX 1 rfl (by decide) ?_
      refine jk_add (pc := 133) hX rfl g16 ?_
      refine jk_goto (pc := 134) hX 136 rfl ?_
      refine jk_iast (pc := 136) hX 119 rfl rfl g17 ?_
      exact jk_vret (pc := 137) hX rfl h18
  · have h2 := h.2 q74
    obtain ⟨⟨g22, g23, g24, g25⟩, h72⟩ := h2
    refine jk_aload (pc := 30) hX 0 rfl rfl ?_
    refine jk_getR (pc := 31) hX 7 9 rfl rfl (r := 6) rfl ?_
    refine jk_const (pc := 32) hX 20 rfl (by decide) ?_
    refine jk_load (pc := 33) hX 1 rfl rfl ?_
    refine jk_mul (pc := 34) hX rfl g22 ?_
    refine jk_load (pc := 35) hX 6 rfl rfl ?_
    refine jk_add (pc := 36) hX rfl g23 ?_
    refine jk_const (pc := 37) hX 1 rfl (by decide) ?_
    refine jk_sub (pc := 38) hX rfl g24 ?_
    refine jk_iald (pc := 39) hX 2380 rfl rfl g25 ?_
    refine jk_load (pc := 40) hX 2 rfl rfl ?_
    refine jk_cle (pc := 41) hX 98 rfl (fun q70 => ?_) (fun q71 => ?_)
    · have h26 := h72.1 q70
      obtain ⟨⟨g28, g29, g30, g31, g32, g33, g34, g35, g36⟩, h46⟩ := h26
      refine jk_aload (pc := 98) hX 0 rfl rfl ?_
      refine jk_getR (pc := 99) hX 7 9 rfl rfl (r := 6) rfl ?_
      refine jk_const (pc := 100) hX 20 rfl (by decide) ?_
      refine jk_load (pc := 101) hX 1 rfl rfl ?_
      refine jk_mul (pc := 102) hX rfl g28 ?_
      refine jk_load (pc := 103) hX 6 rfl rfl ?_
      refine jk_add (pc := 104) hX rfl g29 ?_
      refine jk_load (pc := 105) hX 2 rfl rfl ?_
      refine jk_iast (pc := 106) hX 2380 rfl rfl g30 ?_
      refine jk_aload (pc := 107) hX 0 rfl rfl ?_
      refine jk_getR (pc := 108) hX 7 10 rfl rfl (r := 7) rfl ?_
      refine jk_const (pc := 109) hX 20 rfl (by decide) ?_
      refine jk_load (pc := 110) hX 1 rfl rfl ?_
      refine jk_mul (pc := 111) hX rfl g31 ?_
      refine jk_load (pc := 112) hX 6 rfl rfl ?_
      refine jk_add (pc := 113) hX rfl g32 ?_
      refine jk_load (pc := 114) hX 3 rfl rfl ?_
      refine jk_iast (pc := 115) hX 2380 rfl rfl g33 ?_
      refine jk_aload (pc := 116) hX 0 rfl rfl ?_
      refine jk_getR (pc := 117) hX 7 11 rfl rfl (r := 8) rfl ?_
      refine jk_const (pc := 118) hX 20 rfl (by decide) ?_
      refine jk_load (pc := 119) hX 1 rfl rfl ?_
      refine jk_mul (pc := 120) hX rfl g34 ?_
      refine jk_load (pc := 121) hX 6 rfl rfl ?_
      refine jk_add (pc := 122) hX rfl g35 ?_
      refine jk_load (pc := 123) hX 4 rfl rfl ?_
      refine jk_iast (pc := 124) hX 2380 rfl rfl g36 ?_
      refine jk_aload (pc := 125) hX 0 rfl rfl ?_
      refine jk_getR (pc := 126) hX 7 8 rfl rfl (r := 5) rfl ?_
      refine jk_load (pc := 127) hX 1 rfl rfl ?_
      refine jk_load (pc := 128) hX 5 rfl rfl ?_
      refine jk_const (pc := 129) hX 20 rfl (by decide) ?_
      refine jk_cge (pc := 130) hX 135 rfl (fun q44 => ?_) (fun q45 => ?_)
      · have h37 := h46.1 q44
        obtain ⟨g39, h40⟩ := h37
        refine jk_const (pc := 135) hX 20 rfl (by decide) ?_
        refine jk_iast (pc := 136) hX 119 rfl rfl g39 ?_
        exact jk_vret (pc := 137) hX rfl h40
      · have h38 := h46.2 q45
        obtain ⟨⟨g41, g42⟩, h43⟩ := h38
        refine jk_load (pc := 131) hX 5 rfl rfl ?_
        refine jk_const (pc := 132) hX 1 rfl (by decide) ?_
        refine jk_add (pc := 133) hX rfl g41 ?_
        refine jk_goto (pc := 134) hX 136 rfl ?_
        refine jk_iast (pc := 136) hX 119 rfl rfl g42 ?_
        exact jk_vret (pc := 137) hX rfl h43
    · have h27 := h72.2 q71
      obtain ⟨⟨g47, g48, g49, g50, g51, g52, g53, g54, g55, g56, g57, g58, g59, g60, g61, g62, g63, g64, g65, g66, g67, g68⟩, h69⟩ := h27
      refine jk_aload (pc := 42) hX 0 rfl rfl ?_
      refine jk_getR (pc := 43) hX 7 9 rfl rfl (r := 6) rfl ?_
      refine jk_const (pc := 44) hX 20 rfl (by decide) ?_
      refine jk_load (pc := 45) hX 1 rfl rfl ?_
      refine jk_mul (pc := 46) hX rfl g47 ?_
      refine jk_load (pc := 47) hX 6 rfl rfl ?_
      refine jk_add (pc := 48) hX rfl g48 ?_
      refine jk_aload (pc := 49) hX 0 rfl rfl ?_
      refine jk_getR (pc := 50) hX 7 9 rfl rfl (r := 6) rfl ?_
      refine jk_const (pc := 51) hX 20 rfl (by decide) ?_
      refine jk_load (pc := 52) hX 1 rfl rfl ?_
      refine jk_mul (pc := 53) hX rfl g49 ?_
      refine jk_load (pc := 54) hX 6 rfl rfl ?_
      refine jk_add (pc := 55) hX rfl g50 ?_
      refine jk_const (pc := 56) hX 1 rfl (by decide) ?_
      refine jk_sub (pc := 57) hX rfl g51 ?_
      refine jk_iald (pc := 58) hX 2380 rfl rfl g52 ?_
      refine jk_iast (pc := 59) hX 2380 rfl rfl g53 ?_
      refine jk_aload (pc := 60) hX 0 rfl rfl ?_
      refine jk_getR (pc := 61) hX 7 10 rfl rfl (r := 7) rfl ?_
      refine jk_const (pc := 62) hX 20 rfl (by decide) ?_
      refine jk_load (pc := 63) hX 1 rfl rfl ?_
      refine jk_mul (pc := 64) hX rfl g54 ?_
      refine jk_load (pc := 65) hX 6 rfl rfl ?_
      refine jk_add (pc := 66) hX rfl g55 ?_
      refine jk_aload (pc := 67) hX 0 rfl rfl ?_
      refine jk_getR (pc := 68) hX 7 10 rfl rfl (r := 7) rfl ?_
      refine jk_const (pc := 69) hX 20 rfl (by decide) ?_
      refine jk_load (pc := 70) hX 1 rfl rfl ?_
      refine jk_mul (pc := 71) hX rfl g56 ?_
      refine jk_load (pc := 72) hX 6 rfl rfl ?_
      refine jk_add (pc := 73) hX rfl g57 ?_
      refine jk_const (pc := 74) hX 1 rfl (by decide) ?_
      refine jk_sub (pc := 75) hX rfl g58 ?_
      refine jk_iald (pc := 76) hX 2380 rfl rfl g59 (jx_vX (jx_upc (by decide)) ?_)
      refine jk_iast (pc := 77) hX 2380 rfl rfl g60 ?_
      refine jk_aload (pc := 78) hX 0 rfl rfl ?_
      refine jk_getR (pc := 79) hX 7 11 rfl rfl (r := 8) rfl ?_
      refine jk_const (pc := 80) hX 20 rfl (by decide) ?_
      refine jk_load (pc := 81) hX 1 rfl rfl ?_
      refine jk_mul (pc := 82) hX rfl g61 ?_
      refine jk_load (pc := 83) hX 6 rfl rfl ?_
      refine jk_add (pc := 84) hX rfl g62 ?_
      refine jk_aload (pc := 85) hX 0 rfl rfl ?_
      refine jk_getR (pc := 86) hX 7 11 rfl rfl (r := 8) rfl ?_
      refine jk_const (pc := 87) hX 20 rfl (by decide) ?_
      refine jk_load (pc := 88) hX 1 rfl rfl ?_
      refine jk_mul (pc := 89) hX rfl g63 ?_
      refine jk_load (pc := 90) hX 6 rfl rfl ?_
      refine jk_add (pc := 91) hX rfl g64 ?_
      refine jk_const (pc := 92) hX 1 rfl (by decide) ?_
      refine jk_sub (pc := 93) hX rfl g65 ?_
      refine jk_iald (pc := 94) hX 2380 rfl rfl g66 (jx_vX ((jx_upc (by decide)).trans (jx_upc (by decide))) ?_)
      refine jk_iast (pc := 95) hX 2380 rfl rfl g67 ?_
      refine jk_iinc (pc := 96) hX 6 (-1) rfl rfl g68 (ls' := [.inr 1, .inl v1, .inl v2, .inl v3, .inl v4, .inl v5, .inl (v6 + (-1))]) rfl ?_
      refine jk_goto (pc := 97) hX 28 rfl ?_
      exact h69
set_option maxHeartbeats 4000000 in
theorem bk_F_layPlace_0 {d : Nat} {K : jxK} {X : jxX} (hX : jx_clo jx_G2 (d + 3) (jx_call jx_G2 jx_T (d + 3)) kc_F_layPlace K X) (v1 : Int) (v2 : Int) (M : jxM)
    (h : (((-2147483648 : Int) ≤ 7 * v1 ∧ 7 * v1 ≤ 2147483647) ∧ ((-2147483648 : Int) ≤ (7 * v1) + v2 ∧ (7 * v1) + v2 ≤ 2147483647) ∧ (0 ≤ ((7 * v1) + v2) ∧ ((7 * v1) + v2) < 119) ∧ (0 ≤ ((7 * v1) + v2) ∧ ((7 * v1) + v2) < 119)) ∧ X 18 [.inr 1, .inl v1, .inl v2, .inl ((7 * v1) + v2), .inl 0, .inr 0, .inr 0, .inr 0, .inr 0] [] (jx_up (jx_up M 6 ((7 * v1) + v2) 0) 10 ((7 * v1) + v2) 0)) :
    X 0 [.inr 1, .inl v1, .inl v2, .inr 0, .inr 0, .inr 0, .inr 0, .inr 0, .inr 0] [] M := by
  obtain ⟨⟨g1, g2, g3, g4⟩, h5⟩ := h
  refine jk_const (pc := 0) hX 7 rfl (by decide) ?_
  refine jk_load (pc := 1) hX 1 rfl rfl ?_
  refine jk_mul (pc := 2) hX rfl g1 ?_
  refine jk_load (pc := 3) hX 2 rfl rfl ?_
  refine jk_add (pc := 4) hX rfl g2 ?_
  refine jk_store (pc := 5) hX 3 rfl (Nat.le_of_ble_eq_true rfl) (ls' := [.inr 1, .inl v1, .inl v2, .inl ((7 * v1) + v2), .inr 0, .inr 0, .inr 0, .inr 0, .inr 0]) rfl ?_
  refine jk_aload (pc := 6) hX 0 rfl rfl ?_
  refine jk_getR (pc := 7) hX 7 8 rfl rfl (r := 5) rfl ?_
  refine jk_load (pc := 8) hX 3 rfl rfl ?_
  refine jk_const (pc := 9) hX 0 rfl (by decide) ?_
  refine jk_iast (pc := 10) hX 119 rfl rfl g3 ?_
  refine jk_aload (pc := 11) hX 0 rfl rfl ?_
  refine jk_getR (pc := 12) hX 7 12 rfl rfl (r := 9) rfl ?_
  refine jk_load (pc := 13) hX 3 rfl rfl ?_
  refine jk_const (pc := 14) hX 0 rfl (by decide) ?_
  refine jk_iast (pc := 15) hX 119 rfl rfl g4 ?_
  refine jk_const (pc := 16) hX 0 rfl (by decide) ?_
  refine jk_store (pc := 17) hX 4 rfl (Nat.le_of_ble_eq_true rfl) (ls' := [.inr 1, .inl v1, .inl v2, .inl ((7 * v1) + v2), .inl 0, .inr 0, .inr 0, .inr 0, .inr 0]) rfl ?_
  exact h5
set_option maxHeartbeats 4000000 in
theorem bk_F_layPlace_18 {d : Nat} {K : jxK} {X : jxX} (hX : jx_clo jx_G2 (d + 3) (jx_call jx_G2 jx_T (d + 3)) kc_F_layPlace K X) (v1 : Int) (v2 : Int) (v3 : Int) (v4 : Int) (M : jxM)
    (h : (((M 1 6) ≤ v4 → X 78 [.inr 1, .inl v1, .inl v2, .inl v3, .inl 0, .inr 0, .inr 0, .inr 0, .inr 0] [] M) ∧ (v4 < (M 1 6) → ((0 ≤ v4 ∧ v4 < 21) ∧ (((M 5 v4) = -5 ∨ (0 : Int) ≤ (M 5 v4) ∧ (M 5 v4) < 20 ∧ (0 : Int) ≤ (M 2 (1 + 11 * (M 5 v4))) ∧ (M 2 (1 + 11 * (M 5 v4))) ≤ 6) ∧ (0 : Int) ≤ v1 ∧ v1 ≤ 16) ∧ ((-2147483648 : Int) ≤ 7 * (f_end (M 2) (M 5 v4) v1) ∧ 7 * (f_end (M 2) (M 5 v4) v1) ≤ 2147483647) ∧ ((M 5 v4) = -5 ∨ (0 : Int) ≤ (M 5 v4) ∧ (M 5 v4) < 20) ∧ ((-2147483648 : Int) ≤ (7 * (f_end (M 2) (M 5 v4) v1)) + (f_cls (M 2) (M 5 v4)) ∧ (7 * (f_end (M 2) (M 5 v4) v1)) + (f_cls (M 2) (M 5 v4)) ≤ 2147483647) ∧ ((M 5 v4) = -5 ∨ (0 : Int) ≤ (M 5 v4) ∧ (M 5 v4) < 20) ∧ ((0 : Int) ≤ v2 ∧ v2 ≤ 6 ∧ (0 : Int) ≤ (f_cls (M 2) (M 5 v4)) ∧ (f_cls (M 2) (M 5 v4)) ≤ 6) ∧ ((M 5 v4) = -5 ∨ ((0 : Int) ≤ (M 5 v4) ∧ (M 5 v4) < 20) ∧ ((0 : Int) ≤ (M 2 (1 + 11 * (M 5 v4) + 9)) ∧ (M 2 (1 + 11 * (M 5 v4) + 9)) ≤ 99) ∧ ((0 : Int) ≤ (M 2 (1 + 11 * (M 5 v4) + 10)) ∧ (M 2 (1 + 11 * (M 5 v4) + 10)) ≤ 9)) ∧ ((-2147483648 : Int) ≤ ((M 2 (221 + 7 * v2 + (f_cls (M 2) (M 5 v4))))) + (f_cost (M 2) (M 5 v4)) ∧ ((M 2 (221 + 7 * v2 + (f_cls (M 2) (M 5 v4))))) + (f_cost (M 2) (M 5 v4)) ≤ 2147483647)) ∧ X 51 [.inr 1, .inl v1, .inl v2, .inl v3, .inl v4, .inl (M 5 v4), .inl ((7 * (f_end (M 2) (M 5 v4) v1)) + (f_cls (M 2) (M 5 v4))), .inl (((M 2 (221 + 7 * v2 + (f_cls (M 2) (M 5 v4))))) + (f_cost (M 2) (M 5 v4))), .inl 0] [] M))) :
    X 18 [.inr 1, .inl v1, .inl v2, .inl v3, .inl v4, .inr 0, .inr 0, .inr 0, .inr 0] [] M := by
  refine jk_load (pc := 18) hX 4 rfl rfl ?_
  refine jk_aload (pc := 19) hX 0 rfl rfl ?_
  refine jk_getI (pc := 20) hX 7 6 rfl rfl rfl ?_
  refine jk_cge (pc := 21) hX 76 rfl (fun q13 => ?_) (fun q14 => ?_)
  · have h1 := h.1 q13
    refine jk_const (pc := 76) hX 0 rfl (by decide) ?_
    refine jk_store (pc := 77) hX 4 rfl (Nat.le_of_ble_eq_true rfl) (ls' := [.inr 1, .inl v1, .inl v2, .inl v3, .inl 0, .inr 0, .inr 0, .inr 0, .inr 0]) rfl ?_
    exact h1
  · have h2 := h.2 q14
    obtain ⟨⟨g3, g4, g5, g6, g7, g8, g9, g10, g11⟩, h12⟩ := h2
    refine jk_aload (pc := 22) hX 0 rfl rfl ?_
    refine jk_getR (pc := 23) hX 7 7 rfl rfl (r := 4) rfl ?_
    refine jk_load (pc := 24) hX 4 rfl rfl ?_
    refine jk_iald (pc := 25) hX 21 rfl rfl g3 ?_
    refine jk_store (pc := 26) hX 5 rfl (Nat.le_of_ble_eq_true rfl) (ls' := [.inr 1, .inl v1, .inl v2, .inl v3, .inl v4, .inl (M 5 v4), .inr 0, .inr 0, .inr 0]) rfl ?_
    refine jk_const (pc := 27) hX 7 rfl (by decide) ?_
    refine jk_aload (pc := 28) hX 0 rfl rfl ?_
    refine jk_load (pc := 29) hX 5 rfl rfl ?_
    refine jk_load (pc := 30) hX 1 rfl rfl ?_
    refine jk_cv (pc := 31) hX 107 2 7 rfl 1 [.inl (M 5 v4), .inl v1] [.inl 7] rfl rfl rfl (Nat.le_of_ble_eq_true rfl) (sp_F_endOf (d + 1) (M 5 v4) v1 M g4 ?_)
    show X 32 [.inr 1, .inl v1, .inl v2, .inl v3, .inl v4, .inl (M 5 v4), .inr 0, .inr 0, .inr 0] [.inl (f_end (M 2) (M 5 v4) v1), .inl 7] M
    refine jk_mul (pc := 32) hX rfl g5 ?_
    refine jk_aload (pc := 33) hX 0 rfl rfl ?_
    refine jk_load (pc := 34) hX 5 rfl rfl ?_
    refine jk_cv (pc := 35) hX 108 1 7 rfl 1 [.inl (M 5 v4)] [.inl (7 * (f_end (M 2) (M 5 v4) v1))] rfl rfl rfl (Nat.le_of_ble_eq_true rfl) (sp_F_classOf (d + 1) (M 5 v4) M g6 ?_)
    show X 36 [.inr 1, .inl v1, .inl v2, .inl v3, .inl v4, .inl (M 5 v4), .inr 0, .inr 0, .inr 0] [.inl (f_cls (M 2) (M 5 v4)), .inl (7 * (f_end (M 2) (M 5 v4) v1))] M
    refine jk_add (pc := 36) hX rfl g7 ?_
    refine jk_store (pc := 37) hX 6 rfl (Nat.le_of_ble_eq_true rfl) (ls' := [.inr 1, .inl v1, .inl v2, .inl v3, .inl v4, .inl (M 5 v4), .inl ((7 * (f_end (M 2) (M 5 v4) v1)) + (f_cls (M 2) (M 5 v4))), .inr 0, .inr 0]) rfl ?_
    refine jk_aload (pc := 38) hX 0 rfl rfl ?_
    refine jk_load (pc := 39) hX 2 rfl rfl ?_
    refine jk_aload (pc := 40) hX 0 rfl rfl ?_
    refine jk_load (pc := 41) hX 5 rfl rfl ?_
    refine jk_cv (pc := 42) hX 108 1 7 rfl 1 [.inl (M 5 v4)] [.inl v2, .inr 1] rfl rfl rfl (Nat.le_of_ble_eq_true rfl) (sp_F_classOf (d + 1) (M 5 v4) M g8 ?_)
    show X 43 [.inr 1, .inl v1, .inl v2, .inl v3, .inl v4, .inl (M 5 v4), .inl ((7 * (f_end (M 2) (M 5 v4) v1)) + (f_cls (M 2) (M 5 v4))), .inr 0, .inr 0] [.inl (f_cls (M 2) (M 5 v4)), .inl v2, .inr 1] M
    refine jk_cv (pc := 43) hX 110 2 7 rfl 1 [.inl v2, .inl (f_cls (M 2) (M 5 v4))] [] rfl rfl rfl (Nat.le_of_ble_eq_true rfl) (sp_F_between (d + 2) v2 (f_cls (M 2) (M 5 v4)) M g9 ?_)
    show X 44 [.inr 1, .inl v1, .inl v2, .inl v3, .inl v4, .inl (M 5 v4), .inl ((7 * (f_end (M 2) (M 5 v4) v1)) + (f_cls (M 2) (M 5 v4))), .inr 0, .inr 0] [.inl ((M 2 (221 + 7 * v2 + (f_cls (M 2) (M 5 v4)))))] M
    refine jk_aload (pc := 44) hX 0 rfl rfl ?_
    refine jk_load (pc := 45) hX 5 rfl rfl ?_
    refine jk_cv (pc := 46) hX 109 1 7 rfl 1 [.inl (M 5 v4)] [.inl ((M 2 (221 + 7 * v2 + (f_cls (M 2) (M 5 v4)))))] rfl rfl rfl (Nat.le_of_ble_eq_true rfl) (sp_F_segmentCost d (M 5 v4) M g10 ?_)
    show X 47 [.inr 1, .inl v1, .inl v2, .inl v3, .inl v4, .inl (M 5 v4), .inl ((7 * (f_end (M 2) (M 5 v4) v1)) + (f_cls (M 2) (M 5 v4))), .inr 0, .inr 0] [.inl (f_cost (M 2) (M 5 v4)), .inl ((M 2 (221 + 7 * v2 + (f_cls (M 2) (M 5 v4)))))] M
    refine jk_add (pc := 47) hX rfl g11 ?_
    refine jk_store (pc := 48) hX 7 rfl (Nat.le_of_ble_eq_true rfl) (ls' := [.inr 1, .inl v1, .inl v2, .inl v3, .inl v4, .inl (M 5 v4), .inl ((7 * (f_end (M 2) (M 5 v4) v1)) + (f_cls (M 2) (M 5 v4))), .inl (((M 2 (221 + 7 * v2 + (f_cls (M 2) (M 5 v4))))) + (f_cost (M 2) (M 5 v4))), .inr 0]) rfl ?_
    refine jk_const (pc := 49) hX 0 rfl (by decide) ?_
    refine jk_store (pc := 50) hX 8 rfl (Nat.le_of_ble_eq_true rfl) (ls' := [.inr 1, .inl v1, .inl v2, .inl v3, .inl v4, .inl (M 5 v4), .inl ((7 * (f_end (M 2) (M 5 v4) v1)) + (f_cls (M 2) (M 5 v4))), .inl (((M 2 (221 + 7 * v2 + (f_cls (M 2) (M 5 v4))))) + (f_cost (M 2) (M 5 v4))), .inl 0]) rfl ?_
    exact h12
set_option maxHeartbeats 4000000 in
theorem bk_F_layPlace_51 {d : Nat} {K : jxK} {X : jxX} (hX : jx_clo jx_G2 (d + 3) (jx_call jx_G2 jx_T (d + 3)) kc_F_layPlace K X) (v1 : Int) (v2 : Int) (v3 : Int) (v4 : Int) (v5 : Int) (v6 : Int) (v7 : Int) (v8 : Int) (M : jxM)
    (h : ((0 ≤ v6 ∧ v6 < 119)) ∧ (((M 6 v6) ≤ v8 → (((-2147483648 : Int) ≤ v4 + 1 ∧ v4 + 1 ≤ 2147483647)) ∧ X 18 [.inr 1, .inl v1, .inl v2, .inl v3, .inl (v4 + 1), .inr 0, .inr 0, .inr 0, .inr 0] [] M) ∧ (v8 < (M 6 v6) → (((-2147483648 : Int) ≤ 20 * v6 ∧ 20 * v6 ≤ 2147483647) ∧ ((-2147483648 : Int) ≤ (20 * v6) + v8 ∧ (20 * v6) + v8 ≤ 2147483647) ∧ (0 ≤ ((20 * v6) + v8) ∧ ((20 * v6) + v8) < 2380) ∧ ((-2147483648 : Int) ≤ v7 + (M 7 ((20 * v6) + v8)) ∧ v7 + (M 7 ((20 * v6) + v8)) ≤ 2147483647)) ∧ jx_call jx_G2 jx_T (d + 3) 112 [.inr 1, .inl v3, .inl (v7 + (M 7 ((20 * v6) + v8))), .inl v5, .inl v8] M (fun r M11 => r = none ∧ (((-2147483648 : Int) ≤ v8 + 1 ∧ v8 + 1 ≤ 2147483647)) ∧ X 51 [.inr 1, .inl v1, .inl v2, .inl v3, .inl v4, .inl v5, .inl v6, .inl v7, .inl (v8 + 1)] [] M11)))) :
    X 51 [.inr 1, .inl v1, .inl v2, .inl v3, .inl v4, .inl v5, .inl v6, .inl v7, .inl v8] [] M := by
  obtain ⟨g1, h18⟩ := h
  refine jk_load (pc := 51) hX 8 rfl rfl ?_
  refine jk_aload (pc := 52) hX 0 rfl rfl ?_
  refine jk_getR (pc := 53) hX 7 8 rfl rfl (r := 5) rfl ?_
  refine jk_load (pc := 54) hX 6 rfl rfl ?_
  refine jk_iald (pc := 55) hX 119 rfl rfl g1 ?_
  refine jk_cge (pc := 56) hX 74 rfl (fun q16 => ?_) (fun q17 => ?_)
  · have h2 := h18.1 q16
    obtain ⟨g4, h5⟩ := h2
    refine jk_iinc (pc := 74) hX 4 1 rfl rfl g4 (ls' := [.inr 1, .inl v1, .inl v2, .inl v3, .inl (v4 + 1), .inl v5, .inl v6, .inl v7, .inl v8]) rfl ?_
    refine jk_goto (pc := 75) hX 18 rfl ?_
    refine jk_forget (pc := 18) hX 5 (ls' := [.inr 1, .inl v1, .inl v2, .inl v3, .inl (v4 + 1), .inr 0, .inl v6, .inl v7, .inl v8]) rfl ?_
    refine jk_forget (pc := 18) hX 6 (ls' := [.inr 1, .inl v1, .inl v2, .inl v3, .inl (v4 + 1), .inr 0, .inr 0, .inl v7, .inl v8]) rfl ?_
    refine jk_forget (pc := 18) hX 7 (ls' := [.inr 1, .inl v1, .inl v2, .inl v3, .inl (v4 + 1), .inr 0, .inr 0, .inr 0, .inl v8]) rfl ?_
    refine jk_forget (pc := 18) hX 8 (ls' := [.inr 1, .inl v1, .inl v2, .inl v3, .inl (v4 + 1), .inr 0, .inr 0, .inr 0, .inr 0]) rfl ?_
    exact h5
  · have h3 := h18.2 q17
    obtain ⟨⟨g6, g7, g8, g9⟩, h15⟩ := h3
    refine jk_aload (pc := 57) hX 0 rfl rfl ?_
    refine jk_load (pc := 58) hX 3 rfl rfl ?_
    refine jk_load (pc := 59) hX 7 rfl rfl ?_
    refine jk_aload (pc := 60) hX 0 rfl rfl ?_
    refine jk_getR (pc := 61) hX 7 9 rfl rfl (r := 6) rfl ?_
    refine jk_const (pc := 62) hX 20 rfl (by decide) ?_
    refine jk_load (pc := 63) hX 6 rfl rfl ?_
    refine jk_mul (pc := 64) hX rfl g6 ?_
    refine jk_load (pc := 65) hX 8 rfl rfl ?_
    refine jk_add (pc := 66) hX rfl g7 ?_
    refine jk_iald (pc := 67) hX 2380 rfl rfl g8 ?_
    refine jk_add (pc := 68) hX rfl g9 ?_
    refine jk_load (pc := 69) hX 5 rfl rfl ?_
    refine jk_load (pc := 70) hX 8 rfl rfl ?_
    refine jk_cv (pc := 71) hX 112 4 7 rfl 1 [.inl v3, .inl (v7 + (M 7 ((20 * v6) + v8))), .inl v5, .inl v8] [] rfl rfl rfl (Nat.le_of_ble_eq_true rfl) (jx_mono (fun r M11 hr => ?_) h15)
    obtain ⟨rfl, h12⟩ := hr
    show X 72 [.inr 1, .inl v1, .inl v2, .inl v3, .inl v4, .inl v5, .inl v6, .inl v7, .inl v8] [] M11
    obtain ⟨g13, h14⟩ := h12
    refine jk_iinc (pc := 72) hX 8 1 rfl rfl g13 (ls' := [.inr 1, .inl v1, .inl v2, .inl v3, .inl v4, .inl v5, .inl v6, .inl v7, .inl (v8 + 1)]) rfl ?_
    refine jk_goto (pc := 73) hX 51 rfl ?_
    exact h14
set_option maxHeartbeats 4000000 in
theorem bk_F_layPlace_78 {d : Nat} {K : jxK} {X : jxX} (hX : jx_clo jx_G2 (d + 3) (jx_call jx_G2 jx_T (d + 3)) kc_F_layPlace K X) (v1 : Int) (v2 : Int) (v3 : Int) (v4 : Int) (M : jxM)
    (h : (((M 1 6) ≤ v4 → K none M) ∧ (v4 < (M 1 6) → ((0 ≤ v4 ∧ v4 < 21) ∧ (((M 5 v4) = -5 ∨ (0 : Int) ≤ (M 5 v4) ∧ (M 5 v4) < 20 ∧ (0 : Int) ≤ (M 2 (1 + 11 * (M 5 v4))) ∧ (M 2 (1 + 11 * (M 5 v4))) ≤ 6) ∧ (0 : Int) ≤ v1 ∧ v1 ≤ 16) ∧ ((-2147483648 : Int) ≤ 7 * (f_end (M 2) (M 5 v4) v1) ∧ 7 * (f_end (M 2) (M 5 v4) v1) ≤ 2147483647) ∧ ((M 5 v4) = -5 ∨ (0 : Int) ≤ (M 5 v4) ∧ (M 5 v4) < 20) ∧ ((-2147483648 : Int) ≤ (7 * (f_end (M 2) (M 5 v4) v1)) + (f_cls (M 2) (M 5 v4)) ∧ (7 * (f_end (M 2) (M 5 v4) v1)) + (f_cls (M 2) (M 5 v4)) ≤ 2147483647) ∧ ((M 5 v4) = -5 ∨ (0 : Int) ≤ (M 5 v4) ∧ (M 5 v4) < 20) ∧ ((0 : Int) ≤ v2 ∧ v2 ≤ 6 ∧ (0 : Int) ≤ (f_cls (M 2) (M 5 v4)) ∧ (f_cls (M 2) (M 5 v4)) ≤ 6) ∧ ((M 5 v4) = -5 ∨ ((0 : Int) ≤ (M 5 v4) ∧ (M 5 v4) < 20) ∧ ((0 : Int) ≤ (M 2 (1 + 11 * (M 5 v4) + 9)) ∧ (M 2 (1 + 11 * (M 5 v4) + 9)) ≤ 99) ∧ ((0 : Int) ≤ (M 2 (1 + 11 * (M 5 v4) + 10)) ∧ (M 2 (1 + 11 * (M 5 v4) + 10)) ≤ 9)) ∧ ((-2147483648 : Int) ≤ ((M 2 (221 + 7 * v2 + (f_cls (M 2) (M 5 v4))))) + (f_cost (M 2) (M 5 v4)) ∧ ((M 2 (221 + 7 * v2 + (f_cls (M 2) (M 5 v4))))) + (f_cost (M 2) (M 5 v4)) ≤ 2147483647) ∧ (0 ≤ ((7 * (f_end (M 2) (M 5 v4) v1)) + (f_cls (M 2) (M 5 v4))) ∧ ((7 * (f_end (M 2) (M 5 v4) v1)) + (f_cls (M 2) (M 5 v4))) < 119)) ∧ (((M 6 ((7 * (f_end (M 2) (M 5 v4) v1)) + (f_cls (M 2) (M 5 v4)))) ≤ 0 → ((0 ≤ v3 ∧ v3 < 119) ∧ (0 ≤ v3 ∧ v3 < 119) ∧ ((-2147483648 : Int) ≤ v4 + 1 ∧ v4 + 1 ≤ 2147483647)) ∧ X 78 [.inr 1, .inl v1, .inl v2, .inl v3, .inl (v4 + 1), .inr 0, .inr 0, .inr 0, .inr 0] [] (jx_up M 10 v3 (M 10 v3))) ∧ (0 < (M 6 ((7 * (f_end (M 2) (M 5 v4) v1)) + (f_cls (M 2) (M 5 v4)))) → (((-2147483648 : Int) ≤ 20 * ((7 * (f_end (M 2) (M 5 v4) v1)) + (f_cls (M 2) (M 5 v4))) ∧ 20 * ((7 * (f_end (M 2) (M 5 v4) v1)) + (f_cls (M 2) (M 5 v4))) ≤ 2147483647) ∧ (0 ≤ (20 * ((7 * (f_end (M 2) (M 5 v4) v1)) + (f_cls (M 2) (M 5 v4)))) ∧ (20 * ((7 * (f_end (M 2) (M 5 v4) v1)) + (f_cls (M 2) (M 5 v4)))) < 2380) ∧ ((-2147483648 : Int) ≤ (((M 2 (221 + 7 * v2 + (f_cls (M 2) (M 5 v4))))) + (f_cost (M 2) (M 5 v4))) + (M 7 (20 * ((7 * (f_end (M 2) (M 5 v4) v1)) + (f_cls (M 2) (M 5 v4))))) ∧ (((M 2 (221 + 7 * v2 + (f_cls (M 2) (M 5 v4))))) + (f_cost (M 2) (M 5 v4))) + (M 7 (20 * ((7 * (f_end (M 2) (M 5 v4) v1)) + (f_cls (M 2) (M 5 v4))))) ≤ 2147483647) ∧ ((-2147483648 : Int) ≤ 20 * v3 ∧ 20 * v3 ≤ 2147483647) ∧ (0 ≤ (20 * v3) ∧ (20 * v3) < 2380)) ∧ ((((((M 2 (221 + 7 * v2 + (f_cls (M 2) (M 5 v4))))) + (f_cost (M 2) (M 5 v4))) + (M 7 (20 * ((7 * (f_end (M 2) (M 5 v4) v1)) + (f_cls (M 2) (M 5 v4)))))) ≠ (M 7 (20 * v3)) → ((0 ≤ v3 ∧ v3 < 119) ∧ (0 ≤ v3 ∧ v3 < 119) ∧ ((-2147483648 : Int) ≤ v4 + 1 ∧ v4 + 1 ≤ 2147483647)) ∧ X 78 [.inr 1, .inl v1, .inl v2, .inl v3, .inl (v4 + 1), .inr 0, .inr 0, .inr 0, .inr 0] [] (jx_up M 10 v3 (M 10 v3))) ∧ (((((M 2 (221 + 7 * v2 + (f_cls (M 2) (M 5 v4))))) + (f_cost (M 2) (M 5 v4))) + (M 7 (20 * ((7 * (f_end (M 2) (M 5 v4) v1)) + (f_cls (M 2) (M 5 v4)))))) = (M 7 (20 * v3)) → ((0 ≤ v3 ∧ v3 < 119) ∧ (0 ≤ ((7 * (f_end (M 2) (M 5 v4) v1)) + (f_cls (M 2) (M 5 v4))) ∧ ((7 * (f_end (M 2) (M 5 v4) v1)) + (f_cls (M 2) (M 5 v4))) < 119) ∧ ((0 : Int) ≤ (M 10 v3) ∧ (M 10 v3) ≤ 1000000000 ∧ (0 : Int) ≤ (M 10 ((7 * (f_end (M 2) (M 5 v4) v1)) + (f_cls (M 2) (M 5 v4)))) ∧ (M 10 ((7 * (f_end (M 2) (M 5 v4) v1)) + (f_cls (M 2) (M 5 v4)))) ≤ 1000000000) ∧ (0 ≤ v3 ∧ v3 < 119) ∧ ((-2147483648 : Int) ≤ v4 + 1 ∧ v4 + 1 ≤ 2147483647)) ∧ X 78 [.inr 1, .inl v1, .inl v2, .inl v3, .inl (v4 + 1), .inr 0, .inr 0, .inr 0, .inr 0] [] (jx_up M 10 v3 (min ((M 10 v3) + (M 10 ((7 * (f_end (M 2) (M 5 v4) v1)) + (f_cls (M 2) (M 5 v4))))) 1000000000))))))))) :
    X 78 [.inr 1, .inl v1, .inl v2, .inl v3, .inl v4, .inr 0, .inr 0, .inr 0, .inr 0] [] M := by
  refine jk_load (pc := 78) hX 4 rfl rfl ?_
  refine jk_aload (pc := 79) hX 0 rfl rfl ?_
  refine jk_getI (pc := 80) hX 7 6 rfl rfl rfl ?_
  refine jk_cge (pc := 81) hX 155 rfl (fun q42 => ?_) (fun q43 => ?_)
  · have h1 := h.1 q42
    exact jk_vret (pc := 155) hX rfl h1
  · have h2 := h.2 q43
    obtain ⟨⟨g3, g4, g5, g6, g7, g8, g9, g10, g11, g12⟩, h41⟩ := h2
    refine jk_aload (pc := 82) hX 0 rfl rfl ?_
    refine jk_getR (pc := 83) hX 7 7 rfl rfl (r := 4) rfl ?_
    refine jk_load (pc := 84) hX 4 rfl rfl ?_
    refine jk_iald (pc := 85) hX 21 rfl rfl g3 ?_
    refine jk_store (pc := 86) hX 5 rfl (Nat.le_of_ble_eq_true rfl) (ls' := [.inr 1, .inl v1, .inl v2, .inl v3, .inl v4, .inl (M 5 v4), .inr 0, .inr 0, .inr 0]) rfl ?_
    refine jk_const (pc := 87) hX 7 rfl (by decide) ?_
    refine jk_aload (pc := 88) hX 0 rfl rfl ?_
    refine jk_load (pc := 89) hX 5 rfl rfl ?_
    refine jk_load (pc := 90) hX 1 rfl rfl ?_
    refine jk_cv (pc := 91) hX 107 2 7 rfl 1 [.inl (M 5 v4), .inl v1] [.inl 7] rfl rfl rfl (Nat.le_of_ble_eq_true rfl) (sp_F_endOf (d + 1) (M 5 v4) v1 M g4 ?_)
    show X 92 [.inr 1, .inl v1, .inl v2, .inl v3, .inl v4, .inl (M 5 v4), .inr 0, .inr 0, .inr 0] [.inl (f_end (M 2) (M 5 v4) v1), .inl 7] M
    refine jk_mul (pc := 92) hX rfl g5 ?_
    refine jk_aload (pc := 93) hX 0 rfl rfl ?_
    refine jk_load (pc := 94) hX 5 rfl rfl ?_
    refine jk_cv (pc := 95) hX 108 1 7 rfl 1 [.inl (M 5 v4)] [.inl (7 * (f_end (M 2) (M 5 v4) v1))] rfl rfl rfl (Nat.le_of_ble_eq_true rfl) (sp_F_classOf (d + 1) (M 5 v4) M g6 ?_)
    show X 96 [.inr 1, .inl v1, .inl v2, .inl v3, .inl v4, .inl (M 5 v4), .inr 0, .inr 0, .inr 0] [.inl (f_cls (M 2) (M 5 v4)), .inl (7 * (f_end (M 2) (M 5 v4) v1))] M
    refine jk_add (pc := 96) hX rfl g7 ?_
    refine jk_store (pc := 97) hX 6 rfl (Nat.le_of_ble_eq_true rfl) (ls' := [.inr 1, .inl v1, .inl v2, .inl v3, .inl v4, .inl (M 5 v4), .inl ((7 * (f_end (M 2) (M 5 v4) v1)) + (f_cls (M 2) (M 5 v4))), .inr 0, .inr 0]) rfl ?_
    refine jk_aload (pc := 98) hX 0 rfl rfl ?_
    refine jk_load (pc := 99) hX 2 rfl rfl ?_
    refine jk_aload (pc := 100) hX 0 rfl rfl ?_
    refine jk_load (pc := 101) hX 5 rfl rfl ?_
    refine jk_cv (pc := 102) hX 108 1 7 rfl 1 [.inl (M 5 v4)] [.inl v2, .inr 1] rfl rfl rfl (Nat.le_of_ble_eq_true rfl) (sp_F_classOf (d + 1) (M 5 v4) M g8 ?_)
    show X 103 [.inr 1, .inl v1, .inl v2, .inl v3, .inl v4, .inl (M 5 v4), .inl ((7 * (f_end (M 2) (M 5 v4) v1)) + (f_cls (M 2) (M 5 v4))), .inr 0, .inr 0] [.inl (f_cls (M 2) (M 5 v4)), .inl v2, .inr 1] M
    refine jk_cv (pc := 103) hX 110 2 7 rfl 1 [.inl v2, .inl (f_cls (M 2) (M 5 v4))] [] rfl rfl rfl (Nat.le_of_ble_eq_true rfl) (sp_F_between (d + 2) v2 (f_cls (M 2) (M 5 v4)) M g9 ?_)
    show X 104 [.inr 1, .inl v1, .inl v2, .inl v3, .inl v4, .inl (M 5 v4), .inl ((7 * (f_end (M 2) (M 5 v4) v1)) + (f_cls (M 2) (M 5 v4))), .inr 0, .inr 0] [.inl ((M 2 (221 + 7 * v2 + (f_cls (M 2) (M 5 v4)))))] M
    refine jk_aload (pc := 104) hX 0 rfl rfl ?_
    refine jk_load (pc := 105) hX 5 rfl rfl ?_
    refine jk_cv (pc := 106) hX 109 1 7 rfl 1 [.inl (M 5 v4)] [.inl ((M 2 (221 + 7 * v2 + (f_cls (M 2) (M 5 v4)))))] rfl rfl rfl (Nat.le_of_ble_eq_true rfl) (sp_F_segmentCost d (M 5 v4) M g10 ?_)
    show X 107 [.inr 1, .inl v1, .inl v2, .inl v3, .inl v4, .inl (M 5 v4), .inl ((7 * (f_end (M 2) (M 5 v4) v1)) + (f_cls (M 2) (M 5 v4))), .inr 0, .inr 0] [.inl (f_cost (M 2) (M 5 v4)), .inl ((M 2 (221 + 7 * v2 + (f_cls (M 2) (M 5 v4)))))] M
    refine jk_add (pc := 107) hX rfl g11 ?_
    refine jk_store (pc := 108) hX 7 rfl (Nat.le_of_ble_eq_true rfl) (ls' := [.inr 1, .inl v1, .inl v2, .inl v3, .inl v4, .inl (M 5 v4), .inl ((7 * (f_end (M 2) (M 5 v4) v1)) + (f_cls (M 2) (M 5 v4))), .inl (((M 2 (221 + 7 * v2 + (f_cls (M 2) (M 5 v4))))) + (f_cost (M 2) (M 5 v4))), .inr 0]) rfl ?_
    refine jk_aload (pc := 109) hX 0 rfl rfl ?_
    refine jk_getR (pc := 110) hX 7 8 rfl rfl (r := 5) rfl ?_
    refine jk_load (pc := 111) hX 6 rfl rfl ?_
    refine jk_iald (pc := 112) hX 119 rfl rfl g12 ?_
    refine jk_zle (pc := 113) hX 131 rfl (fun q39 => ?_) (fun q40 => ?_)
    · have h13 := h41.1 q39
      obtain ⟨⟨g15, g16, g17⟩, h18⟩ := h13
      refine jk_const (pc := 131) hX 0 rfl (by decide) ?_
      refine jk_store (pc := 132) hX 8 rfl (Nat.le_of_ble_eq_true rfl) (ls' := [.inr 1, .inl v1, .inl v2, .inl v3, .inl v4, .inl (M 5 v4), .inl ((7 * (f_end (M 2) (M 5 v4) v1)) + (f_cls (M 2) (M 5 v4))), .inl (((M 2 (221 + 7 * v2 + (f_cls (M 2) (M 5 v4))))) + (f_cost (M 2) (M 5 v4))), .inl 0]) rfl ?_
      refine jk_aload (pc := 133) hX 0 rfl rfl ?_
      refine jk_getR (pc := 134) hX 7 12 rfl rfl (r := 9) rfl ?_
      refine jk_load (pc := 135) hX 3 rfl rfl ?_
      refine jk_load (pc := 136) hX 8 rfl rfl ?_
      refine jk_zeq (pc := 137) hX 148 rfl (fun _ => ?_) (fun q => absurd q (by decide))
      refine jk_aload (pc := 148) hX 0 rfl rfl ?_
      refine jk_getR (pc := 149) hX 7 12 rfl rfl (r := 9) rfl ?_
      refine jk_load (pc := 150) hX 3 rfl rfl ?_
      refine jk_iald (pc := 151) hX 119 rfl rfl g15 ?_
      refine jk_iast (pc := 152) hX 119 rfl rfl g16 ?_
      refine jk_iinc (pc := 153) hX 4 1 rfl rfl g17 (ls' := [.inr 1, .inl v1, .inl v2, .inl v3, .inl (v4 + 1), .inl (M 5 v4), .inl ((7 * (f_end (M 2) (M 5 v4) v1)) + (f_cls (M 2) (M 5 v4))), .inl (((M 2 (221 + 7 * v2 + (f_cls (M 2) (M 5 v4))))) + (f_cost (M 2) (M 5 v4))), .inl 0]) rfl ?_
      refine jk_goto (pc := 154) hX 78 rfl ?_
      refine jk_forget (pc := 78) hX 5 (ls' := [.inr 1, .inl v1, .inl v2, .inl v3, .inl (v4 + 1), .inr 0, .inl ((7 * (f_end (M 2) (M 5 v4) v1)) + (f_cls (M 2) (M 5 v4))), .inl (((M 2 (221 + 7 * v2 + (f_cls (M 2) (M 5 v4))))) + (f_cost (M 2) (M 5 v4))), .inl 0]) rfl ?_
      refine jk_forget (pc := 78) hX 6 (ls' := [.inr 1, .inl v1, .inl v2, .inl v3, .inl (v4 + 1), .inr 0, .inr 0, .inl (((M 2 (221 + 7 * v2 + (f_cls (M 2) (M 5 v4))))) + (f_cost (M 2) (M 5 v4))), .inl 0]) rfl ?_
      refine jk_forget (pc := 78) hX 7 (ls' := [.inr 1, .inl v1, .inl v2, .inl v3, .inl (v4 + 1), .inr 0, .inr 0, .inr 0, .inl 0]) rfl ?_
      refine jk_forget (pc := 78) hX 8 (ls' := [.inr 1, .inl v1, .inl v2, .inl v3, .inl (v4 + 1), .inr 0, .inr 0, .inr 0, .inr 0]) rfl ?_
      exact h18
    · have h14 := h41.2 q40
      obtain ⟨⟨g19, g20, g21, g22, g23⟩, h38⟩ := h14
      refine jk_load (pc := 114) hX 7 rfl rfl ?_
      refine jk_aload (pc := 115) hX 0 rfl rfl ?_
      refine jk_getR (pc := 116) hX 7 9 rfl rfl (r := 6) rfl ?_
      refine jk_const (pc := 117) hX 20 rfl (by decide) ?_
      refine jk_load (pc := 118) hX 6 rfl rfl ?_
      refine jk_mul (pc := 119) hX rfl g19 ?_
      refine jk_iald (pc := 120) hX 2380 rfl rfl g20 ?_
      refine jk_add (pc := 121) hX rfl g21 ?_
      refine jk_aload (pc := 122) hX 0 rfl rfl ?_
      refine jk_getR (pc := 123) hX 7 9 rfl rfl (r := 6) rfl ?_
      refine jk_const (pc := 124) hX 20 rfl (by decide) ?_
      refine jk_load (pc := 125) hX 3 rfl rfl ?_
      refine jk_mul (pc := 126) hX rfl g22 ?_
      refine jk_iald (pc := 127) hX 2380 rfl rfl g23 ?_
      refine jk_cne (pc := 128) hX 131 rfl (fun q36 => ?_) (fun q37 => ?_)
      · have h24 := h38.1 q36
        obtain ⟨⟨g26, g27, g28⟩, h29⟩ := h24
        refine jk_const (pc := 131) hX 0 rfl (by decide) ?_
        refine jk_store (pc := 132) hX 8 rfl (Nat.le_of_ble_eq_true rfl) (ls' := [.inr 1, .inl v1, .inl v2, .inl v3, .inl v4, .inl (M 5 v4), .inl ((7 * (f_end (M 2) (M 5 v4) v1)) + (f_cls (M 2) (M 5 v4))), .inl (((M 2 (221 + 7 * v2 + (f_cls (M 2) (M 5 v4))))) + (f_cost (M 2) (M 5 v4))), .inl 0]) rfl ?_
        refine jk_aload (pc := 133) hX 0 rfl rfl ?_
        refine jk_getR (pc := 134) hX 7 12 rfl rfl (r := 9) rfl ?_
        refine jk_load (pc := 135) hX 3 rfl rfl ?_
        refine jk_load (pc := 136) hX 8 rfl rfl ?_
        refine jk_zeq (pc := 137) hX 148 rfl (fun _ => ?_) (fun q => absurd q (by decide))
        refine jk_aload (pc := 148) hX 0 rfl rfl ?_
        refine jk_getR (pc := 149) hX 7 12 rfl rfl (r := 9) rfl ?_
        refine jk_load (pc := 150) hX 3 rfl rfl ?_
        refine jk_iald (pc := 151) hX 119 rfl rfl g26 ?_
        refine jk_iast (pc := 152) hX 119 rfl rfl g27 ?_
        refine jk_iinc (pc := 153) hX 4 1 rfl rfl g28 (ls' := [.inr 1, .inl v1, .inl v2, .inl v3, .inl (v4 + 1), .inl (M 5 v4), .inl ((7 * (f_end (M 2) (M 5 v4) v1)) + (f_cls (M 2) (M 5 v4))), .inl (((M 2 (221 + 7 * v2 + (f_cls (M 2) (M 5 v4))))) + (f_cost (M 2) (M 5 v4))), .inl 0]) rfl ?_
        refine jk_goto (pc := 154) hX 78 rfl ?_
        refine jk_forget (pc := 78) hX 5 (ls' := [.inr 1, .inl v1, .inl v2, .inl v3, .inl (v4 + 1), .inr 0, .inl ((7 * (f_end (M 2) (M 5 v4) v1)) + (f_cls (M 2) (M 5 v4))), .inl (((M 2 (221 + 7 * v2 + (f_cls (M 2) (M 5 v4))))) + (f_cost (M 2) (M 5 v4))), .inl 0]) rfl ?_
        refine jk_forget (pc := 78) hX 6 (ls' := [.inr 1, .inl v1, .inl v2, .inl v3, .inl (v4 + 1), .inr 0, .inr 0, .inl (((M 2 (221 + 7 * v2 + (f_cls (M 2) (M 5 v4))))) + (f_cost (M 2) (M 5 v4))), .inl 0]) rfl ?_
        refine jk_forget (pc := 78) hX 7 (ls' := [.inr 1, .inl v1, .inl v2, .inl v3, .inl (v4 + 1), .inr 0, .inr 0, .inr 0, .inl 0]) rfl ?_
        refine jk_forget (pc := 78) hX 8 (ls' := [.inr 1, .inl v1, .inl v2, .inl v3, .inl (v4 + 1), .inr 0, .inr 0, .inr 0, .inr 0]) rfl ?_
        exact h29
      · have h25 := h38.2 q37
        obtain ⟨⟨g30, g31, g32, g33, g34⟩, h35⟩ := h25
        refine jk_const (pc := 129) hX 1 rfl (by decide) ?_
        refine jk_goto (pc := 130) hX 132 rfl ?_
        refine jk_store (pc := 132) hX 8 rfl (Nat.le_of_ble_eq_true rfl) (ls' := [.inr 1, .inl v1, .inl v2, .inl v3, .inl v4, .inl (M 5 v4), .inl ((7 * (f_end (M 2) (M 5 v4) v1)) + (f_cls (M 2) (M 5 v4))), .inl (((M 2 (221 + 7 * v2 + (f_cls (M 2) (M 5 v4))))) + (f_cost (M 2) (M 5 v4))), .inl 1]) rfl ?_
        refine jk_aload (pc := 133) hX 0 rfl rfl ?_
        refine jk_getR (pc := 134) hX 7 12 rfl rfl (r := 9) rfl ?_
        refine jk_load (pc := 135) hX 3 rfl rfl ?_
        refine jk_load (pc := 136) hX 8 rfl rfl ?_
        refine jk_zeq (pc := 137) hX 148 rfl (fun q => absurd q (by decide)) (fun _ => ?_)
        refine jk_aload (pc := 138) hX 0 rfl rfl ?_
        refine jk_getR (pc := 139) hX 7 12 rfl rfl (r := 9) rfl ?_
        refine jk_load (pc := 140) hX 3 rfl rfl ?_
        refine jk_iald (pc := 141) hX 119 rfl rfl g30 ?_
        refine jk_aload (pc := 142) hX 0 rfl rfl ?_
        refine jk_getR (pc := 143) hX 7 12 rfl rfl (r := 9) rfl ?_
        refine jk_load (pc := 144) hX 6 rfl rfl ?_
        refine jk_iald (pc := 145) hX 119 rfl rfl g31 ?_
        refine jk_cs (pc := 146) hX 111 2 rfl [.inl (M 10 v3), .inl (M 10 ((7 * (f_end (M 2) (M 5 v4) v1)) + (f_cls (M 2) (M 5 v4))))] [.inl v3, .inr 10] rfl rfl (Nat.le_of_ble_eq_true rfl) (sp_F_capped (d + 2) (M 10 v3) (M 10 ((7 * (f_end (M 2) (M 5 v4) v1)) + (f_cls (M 2) (M 5 v4)))) M g32 ?_)
        show X 147 [.inr 1, .inl v1, .inl v2, .inl v3, .inl v4, .inl (M 5 v4), .inl ((7 * (f_end (M 2) (M 5 v4) v1)) + (f_cls (M 2) (M 5 v4))), .inl (((M 2 (221 + 7 * v2 + (f_cls (M 2) (M 5 v4))))) + (f_cost (M 2) (M 5 v4))), .inl 1] [.inl (min ((M 10 v3) + (M 10 ((7 * (f_end (M 2) (M 5 v4) v1)) + (f_cls (M 2) (M 5 v4))))) 1000000000), .inl v3, .inr 10] M
        refine jk_goto (pc := 147) hX 152 rfl ?_
        refine jk_iast (pc := 152) hX 119 rfl rfl g33 ?_
        refine jk_iinc (pc := 153) hX 4 1 rfl rfl g34 (ls' := [.inr 1, .inl v1, .inl v2, .inl v3, .inl (v4 + 1), .inl (M 5 v4), .inl ((7 * (f_end (M 2) (M 5 v4) v1)) + (f_cls (M 2) (M 5 v4))), .inl (((M 2 (221 + 7 * v2 + (f_cls (M 2) (M 5 v4))))) + (f_cost (M 2) (M 5 v4))), .inl 1]) rfl ?_
        refine jk_goto (pc := 154) hX 78 rfl ?_
        refine jk_forget (pc := 78) hX 5 (ls' := [.inr 1, .inl v1, .inl v2, .inl v3, .inl (v4 + 1), .inr 0, .inl ((7 * (f_end (M 2) (M 5 v4) v1)) + (f_cls (M 2) (M 5 v4))), .inl (((M 2 (221 + 7 * v2 + (f_cls (M 2) (M 5 v4))))) + (f_cost (M 2) (M 5 v4))), .inl 1]) rfl ?_
        refine jk_forget (pc := 78) hX 6 (ls' := [.inr 1, .inl v1, .inl v2, .inl v3, .inl (v4 + 1), .inr 0, .inr 0, .inl (((M 2 (221 + 7 * v2 + (f_cls (M 2) (M 5 v4))))) + (f_cost (M 2) (M 5 v4))), .inl 1]) rfl ?_
        refine jk_forget (pc := 78) hX 7 (ls' := [.inr 1, .inl v1, .inl v2, .inl v3, .inl (v4 + 1), .inr 0, .inr 0, .inr 0, .inl 1]) rfl ?_
        refine jk_forget (pc := 78) hX 8 (ls' := [.inr 1, .inl v1, .inl v2, .inl v3, .inl (v4 + 1), .inr 0, .inr 0, .inr 0, .inr 0]) rfl ?_
        exact h35
set_option maxHeartbeats 4000000 in
theorem bk_F_lay_0 {d : Nat} {K : jxK} {X : jxX} (hX : jx_clo jx_G2 (d + 4) (jx_call jx_G2 jx_T (d + 4)) kc_F_lay K X) (M : jxM)
    (h : (((M 1 5) = 0 → X 11 [.inr 1, .inl (M 2 271), .inl 0, .inr 0] [] M) ∧ ((M 1 5) ≠ 0 → K none M))) :
    X 0 [.inr 1, .inr 0, .inr 0, .inr 0] [] M := by
  refine jk_aload (pc := 0) hX 0 rfl rfl ?_
  refine jk_getI (pc := 1) hX 7 5 rfl rfl rfl ?_
  refine jk_zeq (pc := 2) hX 4 rfl (fun q3 => ?_) (fun q4 => ?_)
  · have h1 := h.1 q3
    refine jk_aload (pc := 4) hX 0 rfl rfl ?_
    refine jk_getR (pc := 5) hX 7 0 rfl rfl (r := 1) rfl ?_
    refine jk_const (pc := 6) hX 271 rfl (by decide) ?_
    refine jk_iald (pc := 7) hX 305 rfl rfl (by decide) ?_
    refine jk_store (pc := 8) hX 1 rfl (Nat.le_of_ble_eq_true rfl) (ls' := [.inr 1, .inl (M 2 271), .inr 0, .inr 0]) rfl ?_
    refine jk_const (pc := 9) hX 0 rfl (by decide) ?_
    refine jk_store (pc := 10) hX 2 rfl (Nat.le_of_ble_eq_true rfl) (ls' := [.inr 1, .inl (M 2 271), .inl 0, .inr 0]) rfl ?_
    exact h1
  · have h2 := h.2 q4
    exact jk_vret (pc := 3) hX rfl h2
set_option maxHeartbeats 4000000 in
theorem bk_F_lay_11 {d : Nat} {K : jxK} {X : jxX} (hX : jx_clo jx_G2 (d + 4) (jx_call jx_G2 jx_T (d + 4)) kc_F_lay K X) (v1 : Int) (v2 : Int) (M : jxM)
    (h : ((7 ≤ v2 → ((0 ≤ v1 ∧ v1 < 17) ∧ ((-2147483648 : Int) ≤ v1 - 1 ∧ v1 - 1 ≤ 2147483647)) ∧ X 58 [.inr 1, .inl v1, .inl (v1 - 1), .inr 0] [] (jx_up M 11 v1 1)) ∧ (v2 < 7 → (((-2147483648 : Int) ≤ 7 * v1 ∧ 7 * v1 ≤ 2147483647) ∧ ((-2147483648 : Int) ≤ (7 * v1) + v2 ∧ (7 * v1) + v2 ≤ 2147483647) ∧ (0 ≤ ((7 * v1) + v2) ∧ ((7 * v1) + v2) < 119) ∧ ((-2147483648 : Int) ≤ 20 * ((7 * v1) + v2) ∧ 20 * ((7 * v1) + v2) ≤ 2147483647) ∧ ((0 : Int) ≤ v2 ∧ v2 ≤ 6 ∧ (0 : Int) ≤ (6 : Int) ∧ (6 : Int) ≤ 6) ∧ (0 ≤ (20 * ((7 * v1) + v2)) ∧ (20 * ((7 * v1) + v2)) < 2380) ∧ ((-2147483648 : Int) ≤ 20 * ((7 * v1) + v2) ∧ 20 * ((7 * v1) + v2) ≤ 2147483647) ∧ (0 ≤ (20 * ((7 * v1) + v2)) ∧ (20 * ((7 * v1) + v2)) < 2380) ∧ (0 ≤ ((7 * v1) + v2) ∧ ((7 * v1) + v2) < 119) ∧ ((-2147483648 : Int) ≤ v2 + 1 ∧ v2 + 1 ≤ 2147483647)) ∧ X 11 [.inr 1, .inl v1, .inl (v2 + 1), .inr 0] [] (jx_up (jx_up (jx_up (jx_up M 6 ((7 * v1) + v2) 1) 7 (20 * ((7 * v1) + v2)) ((M 2 (221 + 7 * v2 + (6 : Int))))) 8 (20 * ((7 * v1) + v2)) (-9)) 10 ((7 * v1) + v2) 1)))) :
    X 11 [.inr 1, .inl v1, .inl v2, .inr 0] [] M := by
  refine jk_load (pc := 11) hX 2 rfl rfl ?_
  refine jk_const (pc := 12) hX 7 rfl (by decide) ?_
  refine jk_cge (pc := 13) hX 49 rfl (fun q17 => ?_) (fun q18 => ?_)
  · have h1 := h.1 q17
    obtain ⟨⟨g3, g4⟩, h5⟩ := h1
    refine jk_aload (pc := 49) hX 0 rfl rfl ?_
    refine jk_getR (pc := 50) hX 7 13 rfl rfl (r := 10) rfl ?_
    refine jk_load (pc := 51) hX 1 rfl rfl ?_
    refine jk_const (pc := 52) hX 1 rfl (by decide) ?_
    refine jk_iast (pc := 53) hX 17 rfl rfl g3 ?_
    refine jk_load (pc := 54) hX 1 rfl rfl ?_
    refine jk_const (pc := 55) hX 1 rfl (by decide) ?_
    refine jk_sub (pc := 56) hX rfl g4 ?_
    refine jk_store (pc := 57) hX 2 rfl (Nat.le_of_ble_eq_true rfl) (ls' := [.inr 1, .inl v1, .inl (v1 - 1), .inr 0]) rfl ?_
    exact h5
  · have h2 := h.2 q18
    obtain ⟨⟨g6, g7, g8, g9, g10, g11, g12, g13, g14, g15⟩, h16⟩ := h2
    refine jk_const (pc := 14) hX 7 rfl (by decide) ?_
    refine jk_load (pc := 15) hX 1 rfl rfl ?_
    refine jk_mul (pc := 16) hX rfl g6 ?_
    refine jk_load (pc := 17) hX 2 rfl rfl ?_
    refine jk_add (pc := 18) hX rfl g7 ?_
    refine jk_store (pc := 19) hX 3 rfl (Nat.le_of_ble_eq_true rfl) (ls' := [.inr 1, .inl v1, .inl v2, .inl ((7 * v1) + v2)]) rfl ?_
    refine jk_aload (pc := 20) hX 0 rfl rfl ?_
    refine jk_getR (pc := 21) hX 7 8 rfl rfl (r := 5) rfl ?_
    refine jk_load (pc := 22) hX 3 rfl rfl ?_
    refine jk_const (pc := 23) hX 1 rfl (by decide) ?_
    refine jk_iast (pc := 24) hX 119 rfl rfl g8 ?_
    refine jk_aload (pc := 25) hX 0 rfl rfl ?_
    refine jk_getR (pc := 26) hX 7 9 rfl rfl (r := 6) rfl ?_
    refine jk_const (pc := 27) hX 20 rfl (by decide) ?_
    refine jk_load (pc := 28) hX 3 rfl rfl ?_
    refine jk_mul (pc := 29) hX rfl g9 ?_
    refine jk_aload (pc := 30) hX 0 rfl rfl ?_
    refine jk_load (pc := 31) hX 2 rfl rfl ?_
    refine jk_const (pc := 32) hX 6 rfl (by decide) ?_
    refine jk_cv (pc := 33) hX 110 2 7 rfl 1 [.inl v2, .inl 6] [.inl (20 * ((7 * v1) + v2)), .inr 7] rfl rfl rfl (Nat.le_of_ble_eq_true rfl) (sp_F_between (d + 3) v2 (6 : Int) (jx_up M 6 ((7 * v1) + v2) 1) g10 ?_)
    show X 34 [.inr 1, .inl v1, .inl v2, .inl ((7 * v1) + v2)] [.inl (((jx_up M 6 ((7 * v1) + v2) 1) 2 (221 + 7 * v2 + (6 : Int)))), .inl (20 * ((7 * v1) + v2)), .inr 7] (jx_up M 6 ((7 * v1) + v2) 1)
    refine jx_vX (show ((jx_up M 6 ((7 * v1) + v2) 1) 2 (221 + 7 * v2 + (6 : Int))) = (M 2 (221 + 7 * v2 + (6 : Int))) by repeat (first | rw [jx_upc (by decide)] | rw [jx_cpc (by decide)])) ?_
    show X 34 [.inr 1, .inl v1, .inl v2, .inl ((7 * v1) + v2)] [.inl ((M 2 (221 + 7 * v2 + (6 : Int)))), .inl (20 * ((7 * v1) + v2)), .inr 7] (jx_up M 6 ((7 * v1) + v2) 1)
    refine jk_iast (pc := 34) hX 2380 rfl rfl g11 ?_
    refine jk_aload (pc := 35) hX 0 rfl rfl ?_
    refine jk_getR (pc := 36) hX 7 10 rfl rfl (r := 7) rfl ?_
    refine jk_const (pc := 37) hX 20 rfl (by decide) ?_
    refine jk_load (pc := 38) hX 3 rfl rfl ?_
    refine jk_mul (pc := 39) hX rfl g12 ?_
    refine jk_const (pc := 40) hX (-9) rfl (by decide) ?_
    refine jk_iast (pc := 41) hX 2380 rfl rfl g13 ?_
    refine jk_aload (pc := 42) hX 0 rfl rfl ?_
    refine jk_getR (pc := 43) hX 7 12 rfl rfl (r := 9) rfl ?_
    refine jk_load (pc := 44) hX 3 rfl rfl ?_
    refine jk_const (pc := 45) hX 1 rfl (by decide) ?_
    refine jk_iast (pc := 46) hX 119 rfl rfl g14 ?_
    refine jk_iinc (pc := 47) hX 2 1 rfl rfl g15 (ls' := [.inr 1, .inl v1, .inl (v2 + 1), .inl ((7 * v1) + v2)]) rfl ?_
    refine jk_goto (pc := 48) hX 11 rfl ?_
    refine jk_forget (pc := 11) hX 3 (ls' := [.inr 1, .inl v1, .inl (v2 + 1), .inr 0]) rfl ?_
    exact h16
set_option maxHeartbeats 4000000 in
theorem bk_F_lay_58 {d : Nat} {K : jxK} {X : jxX} (hX : jx_clo jx_G2 (d + 4) (jx_call jx_G2 jx_T (d + 4)) kc_F_lay K X) (v1 : Int) (v2 : Int) (M : jxM)
    (h : ((v2 < 0 → K none (jx_up M 1 5 1)) ∧ (0 ≤ v2 → jx_call jx_G2 jx_T (d + 4) 106 [.inr 1, .inl v2] M (fun r M4 => r = none ∧ ((0 ≤ v2 ∧ v2 < 17)) ∧ X 70 [.inr 1, .inl v1, .inl v2, .inl 0] [] (jx_up M4 11 v2 0))))) :
    X 58 [.inr 1, .inl v1, .inl v2, .inr 0] [] M := by
  refine jk_load (pc := 58) hX 2 rfl rfl ?_
  refine jk_zlt (pc := 59) hX 108 rfl (fun q8 => ?_) (fun q9 => ?_)
  · have h1 := h.1 q8
    refine jk_aload (pc := 108) hX 0 rfl rfl ?_
    refine jk_const (pc := 109) hX 1 rfl (by decide) ?_
    refine jk_putZ (pc := 110) hX 7 5 rfl rfl rfl (Or.inr rfl) ?_
    exact jk_vret (pc := 111) hX rfl h1
  · have h2 := h.2 q9
    refine jk_aload (pc := 60) hX 0 rfl rfl ?_
    refine jk_load (pc := 61) hX 2 rfl rfl ?_
    refine jk_cv (pc := 62) hX 106 1 7 rfl 1 [.inl v2] [] rfl rfl rfl (Nat.le_of_ble_eq_true rfl) (jx_mono (fun r M4 hr => ?_) h2)
    obtain ⟨rfl, h5⟩ := hr
    show X 63 [.inr 1, .inl v1, .inl v2, .inr 0] [] M4
    obtain ⟨g6, h7⟩ := h5
    refine jk_aload (pc := 63) hX 0 rfl rfl ?_
    refine jk_getR (pc := 64) hX 7 13 rfl rfl (r := 10) rfl ?_
    refine jk_load (pc := 65) hX 2 rfl rfl ?_
    refine jk_const (pc := 66) hX 0 rfl (by decide) ?_
    refine jk_iast (pc := 67) hX 17 rfl rfl g6 ?_
    refine jk_const (pc := 68) hX 0 rfl (by decide) ?_
    refine jk_store (pc := 69) hX 3 rfl (Nat.le_of_ble_eq_true rfl) (ls' := [.inr 1, .inl v1, .inl v2, .inl 0]) rfl ?_
    exact h7
set_option maxHeartbeats 4000000 in
theorem bk_F_lay_70 {d : Nat} {K : jxK} {X : jxX} (hX : jx_clo jx_G2 (d + 4) (jx_call jx_G2 jx_T (d + 4)) kc_F_lay K X) (v1 : Int) (v2 : Int) (v3 : Int) (M : jxM)
    (h : (((M 1 6) ≤ v3 → X 97 [.inr 1, .inl v1, .inl v2, .inl 0] [] M) ∧ (v3 < (M 1 6) → ((0 ≤ v2 ∧ v2 < 17) ∧ (0 ≤ v3 ∧ v3 < 21) ∧ (((M 5 v3) = -5 ∨ (0 : Int) ≤ (M 5 v3) ∧ (M 5 v3) < 20 ∧ (0 : Int) ≤ (M 2 (1 + 11 * (M 5 v3))) ∧ (M 2 (1 + 11 * (M 5 v3))) ≤ 6) ∧ (0 : Int) ≤ v2 ∧ v2 ≤ 16) ∧ (0 ≤ (f_end (M 2) (M 5 v3) v2) ∧ (f_end (M 2) (M 5 v3) v2) < 17) ∧ ((0 : Int) ≤ (M 11 v2) ∧ (M 11 v2) ≤ 1000000000 ∧ (0 : Int) ≤ (M 11 (f_end (M 2) (M 5 v3) v2)) ∧ (M 11 (f_end (M 2) (M 5 v3) v2)) ≤ 1000000000) ∧ (0 ≤ v2 ∧ v2 < 17) ∧ ((-2147483648 : Int) ≤ v3 + 1 ∧ v3 + 1 ≤ 2147483647)) ∧ X 70 [.inr 1, .inl v1, .inl v2, .inl (v3 + 1)] [] (jx_up M 11 v2 (min ((M 11 v2) + (M 11 (f_end (M 2) (M 5 v3) v2))) 1000000000))))) :
    X 70 [.inr 1, .inl v1, .inl v2, .inl v3] [] M := by
  refine jk_load (pc := 70) hX 3 rfl rfl ?_
  refine jk_aload (pc := 71) hX 0 rfl rfl ?_
  refine jk_getI (pc := 72) hX 7 6 rfl rfl rfl ?_
  refine jk_cge (pc := 73) hX 95 rfl (fun q11 => ?_) (fun q12 => ?_)
  · have h1 := h.1 q11
    refine jk_const (pc := 95) hX 0 rfl (by decide) ?_
    refine jk_store (pc := 96) hX 3 rfl (Nat.le_of_ble_eq_true rfl) (ls' := [.inr 1, .inl v1, .inl v2, .inl 0]) rfl ?_
    exact h1
  · have h2 := h.2 q12
    obtain ⟨⟨g3, g4, g5, g6, g7, g8, g9⟩, h10⟩ := h2
    refine jk_aload (pc := 74) hX 0 rfl rfl ?_
    refine jk_getR (pc := 75) hX 7 13 rfl rfl (r := 10) rfl ?_
    refine jk_load (pc := 76) hX 2 rfl rfl ?_
    refine jk_aload (pc := 77) hX 0 rfl rfl ?_
    refine jk_getR (pc := 78) hX 7 13 rfl rfl (r := 10) rfl ?_
    refine jk_load (pc := 79) hX 2 rfl rfl ?_
    refine jk_iald (pc := 80) hX 17 rfl rfl g3 ?_
    refine jk_aload (pc := 81) hX 0 rfl rfl ?_
    refine jk_getR (pc := 82) hX 7 13 rfl rfl (r := 10) rfl ?_
    refine jk_aload (pc := 83) hX 0 rfl rfl ?_
    refine jk_aload (pc := 84) hX 0 rfl rfl ?_
    refine jk_getR (pc := 85) hX 7 7 rfl rfl (r := 4) rfl ?_
    refine jk_load (pc := 86) hX 3 rfl rfl ?_
    refine jk_iald (pc := 87) hX 21 rfl rfl g4 ?_
    refine jk_load (pc := 88) hX 2 rfl rfl ?_
    refine jk_cv (pc := 89) hX 107 2 7 rfl 1 [.inl (M 5 v3), .inl v2] [.inr 11, .inl (M 11 v2), .inl v2, .inr 11] rfl rfl rfl (Nat.le_of_ble_eq_true rfl) (sp_F_endOf (d + 2) (M 5 v3) v2 M g5 ?_)
    show X 90 [.inr 1, .inl v1, .inl v2, .inl v3] [.inl (f_end (M 2) (M 5 v3) v2), .inr 11, .inl (M 11 v2), .inl v2, .inr 11] M
    refine jk_iald (pc := 90) hX 17 rfl rfl g6 ?_
    refine jk_cs (pc := 91) hX 111 2 rfl [.inl (M 11 v2), .inl (M 11 (f_end (M 2) (M 5 v3) v2))] [.inl v2, .inr 11] rfl rfl (Nat.le_of_ble_eq_true rfl) (sp_F_capped (d + 3) (M 11 v2) (M 11 (f_end (M 2) (M 5 v3) v2)) M g7 ?_)
    show X 92 [.inr 1, .inl v1, .inl v2, .inl v3] [.inl (min ((M 11 v2) + (M 11 (f_end (M 2) (M 5 v3) v2))) 1000000000), .inl v2, .inr 11] M
    refine jk_iast (pc := 92) hX 17 rfl rfl g8 ?_
    refine jk_iinc (pc := 93) hX 3 1 rfl rfl g9 (ls' := [.inr 1, .inl v1, .inl v2, .inl (v3 + 1)]) rfl ?_
    refine jk_goto (pc := 94) hX 70 rfl ?_
    exact h10
set_option maxHeartbeats 4000000 in
theorem bk_F_lay_97 {d : Nat} {K : jxK} {X : jxX} (hX : jx_clo jx_G2 (d + 4) (jx_call jx_G2 jx_T (d + 4)) kc_F_lay K X) (v1 : Int) (v2 : Int) (v3 : Int) (M : jxM)
    (h : ((7 ≤ v3 → (((-2147483648 : Int) ≤ v2 + (-1) ∧ v2 + (-1) ≤ 2147483647)) ∧ X 58 [.inr 1, .inl v1, .inl (v2 + (-1)), .inr 0] [] M) ∧ (v3 < 7 → jx_call jx_G2 jx_T (d + 4) 113 [.inr 1, .inl v2, .inl v3] M (fun r M6 => r = none ∧ (((-2147483648 : Int) ≤ v3 + 1 ∧ v3 + 1 ≤ 2147483647)) ∧ X 97 [.inr 1, .inl v1, .inl v2, .inl (v3 + 1)] [] M6)))) :
    X 97 [.inr 1, .inl v1, .inl v2, .inl v3] [] M := by
  refine jk_load (pc := 97) hX 3 rfl rfl ?_
  refine jk_const (pc := 98) hX 7 rfl (by decide) ?_
  refine jk_cge (pc := 99) hX 106 rfl (fun q10 => ?_) (fun q11 => ?_)
  · have h1 := h.1 q10
    obtain ⟨g3, h4⟩ := h1
    refine jk_iinc (pc := 106) hX 2 (-1) rfl rfl g3 (ls' := [.inr 1, .inl v1, .inl (v2 + (-1)), .inl v3]) rfl ?_
    refine jk_goto (pc := 107) hX 58 rfl ?_
    refine jk_forget (pc := 58) hX 3 (ls' := [.inr 1, .inl v1, .inl (v2 + (-1)), .inr 0]) rfl ?_
    exact h4
  · have h2 := h.2 q11
    refine jk_aload (pc := 100) hX 0 rfl rfl ?_
    refine jk_load (pc := 101) hX 2 rfl rfl ?_
    refine jk_load (pc := 102) hX 3 rfl rfl ?_
    refine jk_cv (pc := 103) hX 113 2 7 rfl 1 [.inl v2, .inl v3] [] rfl rfl rfl (Nat.le_of_ble_eq_true rfl) (jx_mono (fun r M6 hr => ?_) h2)
    obtain ⟨rfl, h7⟩ := hr
    show X 104 [.inr 1, .inl v1, .inl v2, .inl v3] [] M6
    obtain ⟨g8, h9⟩ := h7
    refine jk_iinc (pc := 104) hX 3 1 rfl rfl g8 (ls' := [.inr 1, .inl v1, .inl v2, .inl (v3 + 1)]) rfl ?_
    refine jk_goto (pc := 105) hX 97 rfl ?_
    exact h9
end
section
abbrev w_at (l : List wX) (k : Nat) : wX := l.getD k (0, 0, 0)
theorem w_at_mem {l : List wX} {k : Nat} (h : k < l.length) : w_at l k ∈ l := by
  unfold w_at
  rw [List.getD_eq_getElem?_getD, List.getElem?_eq_getElem h]
  exact List.getElem_mem h
theorem w_at_some {l : List wX} {k : Nat} (h : k < l.length) : l[k]? = some (w_at l k) := by
  unfold w_at
  rw [List.getD_eq_getElem?_getD, List.getElem?_eq_getElem h]
  rfl
theorem w_at_sd {l : List wX} (h : w_sd l) {i j : Nat} (hij : i ≤ j) (hj : j < l.length) : (w_at l i).1 ≤ (w_at l j).1 := by
  by_cases z : i = j
  · subst z; exact Int.le_refl _
  · have h1 := List.pairwise_iff_getElem.mp h i j (by omega) hj (by omega)
    unfold w_at
    rw [List.getD_eq_getElem?_getD, List.getD_eq_getElem?_getD, List.getElem?_eq_getElem (by omega), List.getElem?_eq_getElem hj]
    exact h1
theorem w_at_mid {l : List wX} {x : wX} {k j : Nat} (hk : k ≤ l.length) : w_at (l.take k ++ x :: l.drop k) j = if j < k then w_at l j else if j = k then x else w_at l (j - 1) := by
  unfold w_at
  rw [List.getD_eq_getElem?_getD]
  have hl : (l.take k).length = k := by rw [List.length_take]; omega
  by_cases h1 : j < k
  · rw [if_pos h1, List.getElem?_append_left (by omega), List.getElem?_take_of_lt h1, List.getD_eq_getElem?_getD]
  · rw [if_neg h1, List.getElem?_append_right (by omega), hl]
    by_cases h2 : j = k
    · rw [if_pos h2, h2, Nat.sub_self]; rfl
    · rw [if_neg h2, show j - k = (j - k - 1) + 1 by omega, List.getElem?_cons_succ, List.getElem?_drop, List.getD_eq_getElem?_getD, show k + (j - k - 1) = j - 1 by omega]
theorem w_at_take {l : List wX} {m j : Nat} (h : j < m) : w_at (l.take m) j = w_at l j := by
  unfold w_at
  rw [List.getD_eq_getElem?_getD, List.getD_eq_getElem?_getD, List.getElem?_take_of_lt h]
/-- a place of the reference's tables holds a list of ways -/
def q_rw (M : jxM) (p : Int) (l : List wX) : Prop := M 6 p = (l.length : Int) ∧ ∀ k : Nat, k < l.length → M 7 (20 * p + k) = (w_at l k).1 ∧ M 8 (20 * p + k) = (w_at l k).2.1 ∧ M 9 (20 * p + k) = (w_at l k).2.2
theorem q_rw_fr {M M' : jxM} {p : Int} {l : List wX} (h : q_rw M p l) (h6 : M' 6 p = M 6 p) (hf : ∀ c x, 7 ≤ c → c ≤ 9 → 20 * p ≤ x → x < 20 * p + l.length → M' c x = M c x) : q_rw M' p l :=
  ⟨by rw [h6]; exact h.1, fun k hk => by rw [hf 7 _ (by omega) (by omega) (by omega) (by omega), hf 8 _ (by omega) (by omega) (by omega) (by omega), hf 9 _ (by omega) (by omega) (by omega) (by omega)]; exact h.2 k hk⟩
set_option maxHeartbeats 4000000 in
theorem sp_F_insert (d : Nat) (p a s k : Int) (M : jxM) {l : List wX} (hp : 0 ≤ p ∧ p < 119) (hl : l.length ≤ 20) (hs : w_sd l) (hq : q_rw M p l) {K : jxK} (h : ∀ M', (∀ c x, (c < 6 ∨ 9 < c) → M' c x = M c x) → (∀ x, x ≠ p → M' 6 x = M 6 x) → (∀ c x, 7 ≤ c → c ≤ 9 → (x < 20 * p ∨ 20 * p + 20 ≤ x) → M' c x = M c x) → q_rw M' p ((w_ins (a, s, k) l).take 20) → K none M') : jx_call jx_G2 jx_T (d + 1) 112 [.inr 1, .inl p, .inl a, .inl s, .inl k] M K := by
  obtain ⟨q1, q2⟩ := hq
  intro X hX
  have fin : ∀ (N : jxM) (i : Nat), i ≤ l.length → i ≤ 19 → (∀ c x, (c < 7 ∨ 9 < c) → N c x = M c x) → (∀ c x, 7 ≤ c → c ≤ 9 → (x < 20 * p ∨ 20 * p + 20 ≤ x) → N c x = M c x) → (∀ j : Nat, j < i → N 7 (20 * p + j) = (w_at l j).1 ∧ N 8 (20 * p + j) = (w_at l j).2.1 ∧ N 9 (20 * p + j) = (w_at l j).2.2) → (∀ j : Nat, i < j → j ≤ l.length → j ≤ 19 → N 7 (20 * p + j) = (w_at l (j - 1)).1 ∧ N 8 (20 * p + j) = (w_at l (j - 1)).2.1 ∧ N 9 (20 * p + j) = (w_at l (j - 1)).2.2) → (i < l.length → a < (w_at l i).1) → (0 < i → (w_at l (i - 1)).1 ≤ a) → ∀ (i' n' : Int), i' = i → n' = min ((l.length : Int) + 1) 20 → K none (jx_up (jx_up (jx_up (jx_up N 7 (20 * p + i') a) 8 (20 * p + i') s) 9 (20 * p + i') k) 6 p n') := by
    intro N i i1 i2 n1 n2 n3 n4 n5 n6 i' n' hi' hn'
    subst hi'
    have hins : w_ins (a, s, k) l = l.take i ++ (a, s, k) :: l.drop i := by
      refine w_ins_at (fun pp hpp => ?_) (fun pp hpp => ?_)
      · obtain ⟨j, hj⟩ := List.getElem?_of_mem hpp
        have hji : j < i := by
          have := (List.getElem?_eq_some_iff.mp hj).1
          rw [List.length_take] at this
          omega
        rw [List.getElem?_take_of_lt hji, w_at_some (by omega)] at hj
        cases hj
        have z1 := n6 (by omega)
        have z2 := w_at_sd hs (i := j) (j := i - 1) (by omega) (by omega)
        show (w_at l j).1 ≤ a
        omega
      · rw [List.head?_drop] at hpp
        have hlt := (List.getElem?_eq_some_iff.mp hpp).1
        rw [w_at_some hlt] at hpp
        cases hpp
        exact n5 hlt
    have hlen : ((w_ins (a, s, k) l).take 20).length = min (l.length + 1) 20 := by rw [List.length_take, w_ins_len]; omega
    refine h _ (fun c x hc => ?_) (fun x hx => ?_) (fun c x c1 c2 hx => ?_) ⟨?_, fun j hj => ?_⟩
    · rw [jx_upc (by omega), jx_upc (by omega), jx_upc (by omega), jx_upc (by omega)]; exact n1 c x (by omega)
    · rw [jx_upx hx, jx_upc (by decide), jx_upc (by decide), jx_upc (by decide)]; exact n1 6 x (by omega)
    · have gen : ∀ (L : jxM) (c' : Nat) (v : Int), jx_up L c' (20 * p + (i : Int)) v c x = L c x := fun L c' v => by
        by_cases z : c = c'
        · subst z; exact jx_upx (by omega)
        · exact jx_upc z
      rw [jx_upc (by omega), gen, gen, gen]; exact n2 c x c1 c2 hx
    · rw [jx_ups, hlen, hn']; omega
    · rw [hlen] at hj
      rw [w_at_take (by omega), hins, w_at_mid i1]
      rw [jx_upc (c := 6) (by decide), jx_upc (c := 9) (by decide), jx_upc (c := 8) (by decide), jx_upc (c := 6) (by decide), jx_upc (c := 9) (by decide), jx_upc (c := 6) (by decide)]
      by_cases y1 : j < i
      · rw [if_pos y1, jx_upx (by omega), jx_upx (by omega), jx_upc (by decide), jx_upx (by omega), jx_upc (by decide), jx_upc (by decide)]
        exact n3 j y1
      · rw [if_neg y1]
        by_cases y2 : j = i
        · subst y2
          rw [if_pos rfl]
          exact ⟨jx_ups, jx_ups, jx_ups⟩
        · rw [if_neg y2, jx_upx (by omega), jx_upx (by omega), jx_upc (by decide), jx_upx (by omega), jx_upc (by decide), jx_upc (by decide)]
          exact n4 j (by omega) (by omega) (by omega)
  have lp : ∀ (i : Int) (N : jxM), (0 ≤ i ∧ i ≤ (l.length : Int) ∧ i ≤ 19 ∧ (∀ c x, (c < 7 ∨ 9 < c) → N c x = M c x) ∧ (∀ c x, 7 ≤ c → c ≤ 9 → (x < 20 * p ∨ 20 * p + 20 ≤ x) → N c x = M c x) ∧ (∀ j : Nat, (j : Int) < i → N 7 (20 * p + j) = (w_at l j).1 ∧ N 8 (20 * p + j) = (w_at l j).2.1 ∧ N 9 (20 * p + j) = (w_at l j).2.2) ∧ (∀ j : Nat, i < j → j ≤ l.length → j ≤ 19 → N 7 (20 * p + j) = (w_at l (j - 1)).1 ∧ N 8 (20 * p + j) = (w_at l (j - 1)).2.1 ∧ N 9 (20 * p + j) = (w_at l (j - 1)).2.2) ∧ (i < (l.length : Int) → a < (w_at l i.toNat).1)) → X 28 [.inr 1, .inl p, .inl a, .inl s, .inl k, .inl (l.length : Int), .inl i] [] N := by
    refine jx_loopM (σ := jxM) 0 _ _ ?_
    intro i N ⟨i1, i2, i3, n1, n2, n3, n4, n5⟩ ih
    have stop : (0 < i → (w_at l (i.toNat - 1)).1 ≤ a) → ∀ n', n' = min ((l.length : Int) + 1) 20 → K none (jx_up (jx_up (jx_up (jx_up N 7 (20 * p + i) a) 8 (20 * p + i) s) 9 (20 * p + i) k) 6 p n') := fun hz n' hn' =>
      fin N i.toNat (by omega) (by omega) n1 n2 (fun j hj => n3 j (by omega)) (fun j a b c => n4 j (by omega) b c) (fun z => n5 (by omega)) (fun z => hz (by omega)) i n' (by omega) hn'
    refine bk_F_insert_28 (d := d) hX p a s k _ i N ⟨fun q => ⟨by omega, fun z => ⟨by omega, stop (fun y => by omega) _ (by omega)⟩, fun z => ⟨by omega, stop (fun y => by omega) _ (by omega)⟩⟩, fun q => ?_⟩
    have e := n3 (i.toNat - 1) (by omega)
    rw [show 20 * p + ((i.toNat - 1 : Nat) : Int) = 20 * p + i - 1 by omega] at e
    refine ⟨by omega, fun q2 => ⟨by omega, fun z => ⟨by omega, stop (fun _ => by rw [← e.1]; exact q2) _ (by omega)⟩, fun z => ⟨by omega, stop (fun _ => by rw [← e.1]; exact q2) _ (by omega)⟩⟩, fun q2 => ⟨by omega, ?_⟩⟩
    refine ih _ q ⟨by omega, by omega, by omega, fun c x hc => ?_, fun c x c1 c2 hx => ?_, fun j hj => ?_, fun j j1 j2 j3 => ?_, fun _ => ?_⟩
    · rw [jx_upc (by omega), jx_upc (by omega), jx_upc (by omega)]; exact n1 c x hc
    · have gen : ∀ (L : jxM) (c' : Nat) (v : Int), jx_up L c' (20 * p + i) v c x = L c x := fun L c' v => by
        by_cases z : c = c'
        · subst z; exact jx_upx (by omega)
        · exact jx_upc z
      rw [gen, gen, gen]; exact n2 c x c1 c2 hx
    · rw [jx_upc (c := 9) (by decide), jx_upc (c := 8) (by decide), jx_upc (c := 9) (by decide), jx_upx (by omega), jx_upx (by omega), jx_upc (by decide), jx_upx (by omega), jx_upc (by decide), jx_upc (by decide)]
      exact n3 j (by omega)
    · rw [jx_upc (c := 9) (by decide), jx_upc (c := 8) (by decide), jx_upc (c := 9) (by decide)]
      by_cases y : (j : Int) = i
      · rw [y, jx_ups, jx_ups, jx_ups]
        rw [show j - 1 = i.toNat - 1 by omega]
        exact e
      · rw [jx_upx (by omega), jx_upx (by omega), jx_upc (by decide), jx_upx (by omega), jx_upc (by decide), jx_upc (by decide)]
        exact n4 j (by omega) j2 j3
    · rw [show (i + (-1)).toNat = i.toNat - 1 by omega, ← e.1]
      exact q2
  have start : ∀ i : Int, i = min (l.length : Int) 19 → (i < (l.length : Int) → a < (w_at l i.toNat).1) → X 28 [.inr 1, .inl p, .inl a, .inl s, .inl k, .inl (M 6 p), .inl i] [] M := fun i hi hz => by
    rw [q1]
    exact lp i M ⟨by omega, by omega, by omega, fun _ _ _ => rfl, fun _ _ _ _ _ => rfl, fun j hj => q2 j (by omega), fun j a b c => by omega, hz⟩
  have last : l.length = 20 → M 7 (20 * p + M 6 p - 1) = (w_at l 19).1 := fun z => by
    have := (q2 19 (by omega)).1
    rw [q1, z, ← this]
    congr 1
    omega
  refine bk_F_insert_0 (d := d) hX p a s k M ⟨hp, fun z => ⟨fun z2 => by omega, fun z2 => start _ (by omega) (fun y => by omega)⟩, fun z => ⟨by omega, fun z2 => ⟨fun z3 => start _ (by omega) (fun _ => ?_), fun z3 => by omega⟩, fun z2 => ?_⟩⟩
  · have e := last (by omega)
    rw [show (19 : Int).toNat = 19 from rfl, ← e]
    exact z2
  · have e := last (by omega)
    rw [e] at z2
    refine h M (fun _ _ _ => rfl) (fun _ _ => rfl) (fun _ _ _ _ _ => rfl) ?_
    have hins : w_ins (a, s, k) l = l.take 20 ++ (a, s, k) :: l.drop 20 := by
      refine w_ins_at (fun pp hpp => ?_) (fun pp hpp => ?_)
      · obtain ⟨j, hj⟩ := List.getElem?_of_mem (List.mem_of_mem_take hpp)
        have hji := (List.getElem?_eq_some_iff.mp hj).1
        rw [w_at_some hji] at hj
        cases hj
        have := w_at_sd hs (i := j) (j := 19) (by omega) (by omega)
        show (w_at l j).1 ≤ a
        omega
      · rw [List.head?_drop] at hpp
        have := (List.getElem?_eq_some_iff.mp hpp).1
        omega
    have e2 : (w_ins (a, s, k) l).take 20 = l := by
      rw [hins, List.take_left' (by rw [List.length_take]; omega), List.take_of_length_le (by omega)]
    rw [e2]
    exact ⟨q1, q2⟩
end
section
def w_cnt (f : Int → Int) : Int → List Int → Int
  | a, [] => a
  | a, s :: r => w_cnt f (min (a + f s) 1000000000) r
theorem w_cnt_snoc (f : Int → Int) (a : Int) (l : List Int) (s : Int) : w_cnt f a (l ++ [s]) = min (w_cnt f a l + f s) 1000000000 := by
  induction l generalizing a with
  | nil => rfl
  | cons t l ih => exact ih _
noncomputable def w_bst (T : Int → Prop) (f : Int → Int) : Int → List Int → Int
  | a, [] => a
  | a, s :: r => w_bst T f (@ite Int (T s) (Classical.propDecidable _) (min (a + f s) 1000000000) a) r
theorem w_bst_snoc (T : Int → Prop) (f : Int → Int) (a : Int) (l : List Int) (s : Int) : w_bst T f a (l ++ [s]) = @ite Int (T s) (Classical.propDecidable _) (min (w_bst T f a l + f s) 1000000000) (w_bst T f a l) := by
  induction l generalizing a with
  | nil => rfl
  | cons t l ih => exact ih _
theorem w_bst_eq {T : Int → Prop} {f f' : Int → Int} (a : Int) (l : List Int) (h : ∀ s ∈ l, f s = f' s) : w_bst T f a l = w_bst T f' a l := by
  induction l generalizing a with
  | nil => rfl
  | cons t l ih => simp only [w_bst]; rw [h t List.mem_cons_self]; exact ih _ (fun s hs => h s (List.mem_cons_of_mem _ hs))
theorem w_cnt_eq {f f' : Int → Int} (a : Int) (l : List Int) (h : ∀ s ∈ l, f s = f' s) : w_cnt f a l = w_cnt f' a l := by
  induction l generalizing a with
  | nil => rfl
  | cons t l ih => simp only [w_cnt]; rw [h t List.mem_cons_self]; exact ih _ (fun s hs => h s (List.mem_cons_of_mem _ hs))
theorem w_cnt_bnd {f : Int → Int} {a : Int} {l : List Int} (ha : 0 ≤ a ∧ a ≤ 1000000000) (h : ∀ s ∈ l, 0 ≤ f s) : 0 ≤ w_cnt f a l ∧ w_cnt f a l ≤ 1000000000 := by
  induction l generalizing a with
  | nil => exact ha
  | cons t l ih => exact ih (by have := h t List.mem_cons_self; omega) (fun s hs => h s (List.mem_cons_of_mem _ hs))
theorem w_bst_bnd {T : Int → Prop} {f : Int → Int} {a : Int} {l : List Int} (ha : 0 ≤ a ∧ a ≤ 1000000000) (h : ∀ s ∈ l, 0 ≤ f s) : 0 ≤ w_bst T f a l ∧ w_bst T f a l ≤ 1000000000 := by
  induction l generalizing a with
  | nil => exact ha
  | cons t l ih =>
    simp only [w_bst]
    refine ih ?_ (fun s hs => h s (List.mem_cons_of_mem _ hs))
    have := h t List.mem_cons_self
    split <;> omega
/-- all paths from a gap on -/
noncomputable def a_cn (A : Int → Int) : Int → Int → Int := j_tb (A 271) (fun _ => 1) (fun f g _ => w_cnt (fun s => f (f_end A s g) 0) 0 (a_seg A g)) (A 271).toNat
/-- a segment with which a best way begins -/
def a_tight (A : Int → Int) (g c s : Int) : Prop := (a_W A (f_end A s g) (f_cls A s)).length ≠ 0 ∧ a_edge A c s + (w_at (a_W A (f_end A s g) (f_cls A s)) 0).1 = (w_at (a_W A g c) 0).1
/-- the best ways -/
noncomputable def a_bc (A : Int → Int) : Int → Int → Int := j_tb (A 271) (fun _ => 1) (fun f g c => w_bst (a_tight A g c) (fun s => f (f_end A s g) (f_cls A s)) 0 (a_seg A g)) (A 271).toNat
theorem a_cn_end (A : Int → Int) (c : Int) : a_cn A (A 271) c = 1 := j_tb_end _ _ _ c
theorem a_bc_end (A : Int → Int) (c : Int) : a_bc A (A 271) c = 1 := j_tb_end _ _ _ c
theorem a_cn_step {A : Int → Int} (ho : q_ok A) {g c : Int} (h0 : 0 ≤ g) (h1 : g < A 271) : a_cn A g c = w_cnt (fun s => a_cn A (f_end A s g) 0) 0 (a_seg A g) :=
  j_tb_step (A 271) (fun _ => 1) (fun f g _ => w_cnt (fun s => f (f_end A s g) 0) 0 (a_seg A g)) (fun f f' g c a b h => w_cnt_eq 0 (a_seg A g) (fun s hs => by have := (a_seg_mem ho ⟨a, b⟩ hs).2.1; exact h _ _ this.1 this.2)) h0 h1
theorem a_bc_step {A : Int → Int} (ho : q_ok A) {g c : Int} (h0 : 0 ≤ g) (h1 : g < A 271) : a_bc A g c = w_bst (a_tight A g c) (fun s => a_bc A (f_end A s g) (f_cls A s)) 0 (a_seg A g) :=
  j_tb_step (A 271) (fun _ => 1) (fun f g c => w_bst (a_tight A g c) (fun s => f (f_end A s g) (f_cls A s)) 0 (a_seg A g)) (fun f f' g c a b h => w_bst_eq 0 (a_seg A g) (fun s hs => by have := (a_seg_mem ho ⟨a, b⟩ hs).2.1; exact h _ _ this.1 this.2)) h0 h1
theorem a_cn_bnd {A : Int → Int} (ho : q_ok A) : ∀ (k : Nat) {g c : Int}, 0 ≤ g → g ≤ A 271 → A 271 - g ≤ k → 0 ≤ a_cn A g c ∧ a_cn A g c ≤ 1000000000 := by
  intro k
  induction k with
  | zero => intro g c h0 h1 h2; obtain rfl : g = A 271 := by omega
            rw [a_cn_end]; omega
  | succ k ih =>
    intro g c h0 h1 h2
    rcases Int.lt_or_le g (A 271) with z | z
    · rw [a_cn_step ho h0 z]
      exact w_cnt_bnd (by omega) (fun s hs => (ih (by have := (a_seg_mem ho ⟨h0, z⟩ hs).2.1; omega) (a_seg_mem ho ⟨h0, z⟩ hs).2.1.2 (by have := (a_seg_mem ho ⟨h0, z⟩ hs).2.1; omega)).1)
    · obtain rfl : g = A 271 := by omega
      rw [a_cn_end]; omega
theorem a_bc_bnd {A : Int → Int} (ho : q_ok A) : ∀ (k : Nat) {g c : Int}, 0 ≤ g → g ≤ A 271 → A 271 - g ≤ k → 0 ≤ a_bc A g c ∧ a_bc A g c ≤ 1000000000 := by
  intro k
  induction k with
  | zero => intro g c h0 h1 h2; obtain rfl : g = A 271 := by omega
            rw [a_bc_end]; omega
  | succ k ih =>
    intro g c h0 h1 h2
    rcases Int.lt_or_le g (A 271) with z | z
    · rw [a_bc_step ho h0 z]
      exact w_bst_bnd (by omega) (fun s hs => (ih (by have := (a_seg_mem ho ⟨h0, z⟩ hs).2.1; omega) (a_seg_mem ho ⟨h0, z⟩ hs).2.1.2 (by have := (a_seg_mem ho ⟨h0, z⟩ hs).2.1; omega)).1)
    · obtain rfl : g = A 271 := by omega
      rw [a_bc_end]; omega
/-- costs alone -/
def q_rk (M : jxM) (p : Int) (l : List wX) : Prop := M 6 p = (l.length : Int) ∧ ∀ k : Nat, k < l.length → M 7 (20 * p + k) = (w_at l k).1
theorem q_rw.k {M : jxM} {p : Int} {l : List wX} (h : q_rw M p l) : q_rk M p l := ⟨h.1, fun k hk => (h.2 k hk).1⟩
theorem q_rk_fr {M M' : jxM} {p : Int} {l : List wX} (h : q_rk M p l) (h6 : M' 6 p = M 6 p) (hf : ∀ x, 20 * p ≤ x → x < 20 * p + l.length → M' 7 x = M 7 x) : q_rk M' p l :=
  ⟨by rw [h6]; exact h.1, fun k hk => by rw [hf _ (by omega) (by omega)]; exact h.2 k hk⟩
theorem f_end_eq {A B : Int → Int} (h : ∀ k, 0 ≤ k → k < 305 → B k = A k) {s : Int} (hs : s = -5 ∨ 0 ≤ s ∧ s < 20) (g : Int) : f_end B s g = f_end A s g := by
  unfold f_end
  by_cases z : s = -5
  · rw [if_pos z, if_pos z]
  · rw [if_neg z, if_neg z, h _ (by omega) (by omega)]
theorem f_cls_eq {A B : Int → Int} (h : ∀ k, 0 ≤ k → k < 305 → B k = A k) {s : Int} (hs : s = -5 ∨ 0 ≤ s ∧ s < 20) : f_cls B s = f_cls A s := by
  unfold f_cls
  by_cases z : s = -5
  · rw [if_pos z, if_pos z]
  · rw [if_neg z, if_neg z, h _ (by omega) (by omega)]
theorem f_cost_eq {A B : Int → Int} (h : ∀ k, 0 ≤ k → k < 305 → B k = A k) {s : Int} (hs : s = -5 ∨ 0 ≤ s ∧ s < 20) : f_cost B s = f_cost A s := by
  unfold f_cost f_price
  by_cases z : s = -5
  · rw [if_pos z, if_pos z, h _ (by omega) (by omega)]
  · rw [if_neg z, if_neg z, h _ (by omega) (by omega), h _ (by omega) (by omega)]
theorem w_cnd_at {b s j : Int} {l : List wX} {k : Nat} (h : k < l.length) : w_at (w_cnd b s j l) k = (b + (w_at l k).1, s, j + k) := by
  induction l generalizing j k with
  | nil => simp at h
  | cons a l ih =>
    cases k with
    | zero => simp [w_at, w_cnd]
    | succ k =>
      have := ih (j := j + 1) (k := k) (by simpa using h)
      simp only [w_at, w_cnd, List.getD_cons_succ] at this ⊢
      rw [this]
      congr 2
      omega
theorem takeX_s {l : List wX} {k : Nat} (h : k < l.length) : l.take (k + 1) = l.take k ++ [w_at l k] := by
  rw [List.take_succ_eq_append_getElem h]
  simp [w_at, List.getD_eq_getElem?_getD, List.getElem?_eq_getElem h]
theorem w_st_nice (r : List wX) : w_sd (w_st [] r) ∧ (w_st [] r).length ≤ 20 := by
  have e := w_st_eq [] r
  rw [List.take_nil] at e
  rw [e]
  exact ⟨List.Pairwise.sublist (List.take_sublist _ _) (w_srt_sd List.Pairwise.nil), by rw [List.length_take]; omega⟩
/-- what is found at a gap, and laid behind it -/
def q_bh (M : jxM) (A : Int → Int) (g : Int) : Prop := ∀ g' c, g < g' → g' ≤ A 271 → 0 ≤ c → c ≤ 6 → q_rk M (7 * g' + c) (a_W A g' c) ∧ M 10 (7 * g' + c) = a_bc A g' c
theorem a_con_bnd {A : Int → Int} (ho : q_ok A) {l r : Int} (hl : 0 ≤ l ∧ l ≤ 6) (hr : 0 ≤ r ∧ r ≤ 6) : 0 ≤ a_con A l r ∧ a_con A l r ≤ 99 := by
  unfold a_con
  have := ho.2.2.1 (7 * l + r) (by omega) (by omega)
  rw [← Int.add_assoc] at this
  exact this
/-- an element of the list of segments, with all that is asked of it by the code -/
theorem a_seg_at {A : Int → Int} (ho : q_ok A) {g : Int} (hg : 0 ≤ g ∧ g < A 271) {k : Nat} (hk : k < (a_seg A g).length) : ((a_seg A g).getD k 0 = -5 ∨ 0 ≤ (a_seg A g).getD k 0 ∧ (a_seg A g).getD k 0 < 20) ∧ ((a_seg A g).getD k 0 ≠ -5 → (a_seg A g).getD k 0 < A 0) ∧ (g < f_end A ((a_seg A g).getD k 0) g ∧ f_end A ((a_seg A g).getD k 0) g ≤ A 271) ∧ (0 ≤ f_cls A ((a_seg A g).getD k 0) ∧ f_cls A ((a_seg A g).getD k 0) ≤ 5) ∧ (0 ≤ f_cost A ((a_seg A g).getD k 0) ∧ f_cost A ((a_seg A g).getD k 0) ≤ 200) := by
  have hm := j_getD_mem hk
  obtain ⟨m1, m2, m3, m4, -⟩ := a_seg_mem ho hg hm
  have := ho.1
  exact ⟨by omega, by omega, m2, m3, m4⟩
set_option maxHeartbeats 8000000 in
theorem sp_F_layPlace (d : Nat) (g c : Int) (M : jxM) {A : Int → Int} (hA : ∀ k, 0 ≤ k → k < 305 → M 2 k = A k) (ho : q_ok A) (hg : 0 ≤ g ∧ g < A 271) (hc : 0 ≤ c ∧ c ≤ 6) (h6 : M 1 6 = ((a_seg A g).length : Int)) (h5 : j_l (M 5) 0 (a_seg A g)) (hb : q_bh M A g) {K : jxK}
    (h : ∀ M', (∀ c' x, (c' < 6 ∨ 10 < c') → M' c' x = M c' x) → (∀ c' x, c' = 6 ∨ c' = 10 → x ≠ 7 * g + c → M' c' x = M c' x) → (∀ c' x, 7 ≤ c' → c' ≤ 9 → (x < 20 * (7 * g + c) ∨ 20 * (7 * g + c) + 20 ≤ x) → M' c' x = M c' x) → q_rw M' (7 * g + c) (a_W A g c) → M' 10 (7 * g + c) = a_bc A g c → K none M') : jx_call jx_G2 jx_T (d + 4) 113 [.inr 1, .inl g, .inl c] M K := by
  have hsl := a_seg_len ho g
  have hn := ho.2.2.2.2.1
  have oE := ho.2.1
  intro X hX
  have fr : ∀ N : jxM, (∀ c' x, (c' < 6 ∨ 10 < c') → N c' x = M c' x) → ∀ k, 0 ≤ k → k < 305 → N 2 k = A k := fun N n1 k k1 k2 => (n1 2 k (by omega)).trans (hA k k1 k2)
  -- what the code asks of a segment at place i
  have ask : ∀ (N : jxM) (i : Int), (∀ c' x, (c' < 6 ∨ 10 < c') → N c' x = M c' x) → 0 ≤ i → i < ((a_seg A g).length : Int) → N 5 i = (a_seg A g).getD i.toNat 0 ∧ (N 5 i = -5 ∨ 0 ≤ N 5 i ∧ N 5 i < 20) ∧ (N 5 i = -5 ∨ (0 ≤ N 2 (1 + 11 * N 5 i) ∧ N 2 (1 + 11 * N 5 i) ≤ 6) ∧ (0 ≤ N 2 (1 + 11 * N 5 i + 9) ∧ N 2 (1 + 11 * N 5 i + 9) ≤ 99) ∧ (0 ≤ N 2 (1 + 11 * N 5 i + 10) ∧ N 2 (1 + 11 * N 5 i + 10) ≤ 9)) ∧ f_end (N 2) (N 5 i) g = f_end A (N 5 i) g ∧ f_cls (N 2) (N 5 i) = f_cls A (N 5 i) ∧ f_cost (N 2) (N 5 i) = f_cost A (N 5 i) ∧ (g < f_end A (N 5 i) g ∧ f_end A (N 5 i) g ≤ A 271) ∧ (0 ≤ f_cls A (N 5 i) ∧ f_cls A (N 5 i) ≤ 5) ∧ (0 ≤ f_cost A (N 5 i) ∧ f_cost A (N 5 i) ≤ 200) ∧ N 2 (221 + 7 * c + f_cls A (N 5 i)) = a_con A c (f_cls A (N 5 i)) ∧ (0 ≤ a_con A c (f_cls A (N 5 i)) ∧ a_con A c (f_cls A (N 5 i)) ≤ 99) ∧ N 5 i ∈ a_seg A g := by
    intro N i n1 i1 i2
    have e5 : N 5 i = (a_seg A g).getD i.toNat 0 := by
      have := h5 i.toNat (by omega)
      rw [show (0 : Int) + (i.toNat : Int) = i by omega] at this
      rw [n1 5 i (by omega)]; exact this
    obtain ⟨a1, a2, a3, a4, a5⟩ := a_seg_at ho hg (k := i.toNat) (by omega)
    have hmem : N 5 i ∈ a_seg A g := by rw [e5]; exact j_getD_mem (by omega)
    rw [← e5] at a1 a2 a3 a4 a5
    have nA := fr N n1
    refine ⟨e5, a1, ?_, f_end_eq nA a1 g, f_cls_eq nA a1, f_cost_eq nA a1, a3, a4, a5, ?_, a_con_bnd ho hc (by omega), hmem⟩
    · by_cases z : N 5 i = -5
      · exact Or.inl z
      · obtain ⟨y1, y2, y3, y4⟩ := oE (N 5 i) (by omega) (a2 z)
        rw [nA _ (by omega) (by omega), nA _ (by omega) (by omega), nA _ (by omega) (by omega)]
        exact Or.inr ⟨by omega, y3, y4⟩
    · unfold a_con
      exact nA _ (by omega) (by omega)
  -- the second loop
  have lp2 : ∀ (i : Int) (N : jxM), (0 ≤ i ∧ i ≤ ((a_seg A g).length : Int) ∧ (∀ c' x, (c' < 6 ∨ 10 < c') → N c' x = M c' x) ∧ (∀ c' x, c' = 6 ∨ c' = 10 → x ≠ 7 * g + c → N c' x = M c' x) ∧ (∀ c' x, 7 ≤ c' → c' ≤ 9 → (x < 20 * (7 * g + c) ∨ 20 * (7 * g + c) + 20 ≤ x) → N c' x = M c' x) ∧ q_rw N (7 * g + c) (a_W A g c) ∧ N 10 (7 * g + c) = w_bst (a_tight A g c) (fun s => a_bc A (f_end A s g) (f_cls A s)) 0 ((a_seg A g).take i.toNat)) → X 78 [.inr 1, .inl g, .inl c, .inl (7 * g + c), .inl i, .inr 0, .inr 0, .inr 0, .inr 0] [] N := by
    refine jx_loop (σ := jxM) ((a_seg A g).length : Int) _ _ ?_
    intro i N ⟨i1, i2, n1, n2, n3, n4, n5⟩ ih
    have e16 : N 1 6 = ((a_seg A g).length : Int) := (n1 1 6 (by omega)).trans h6
    refine bk_F_layPlace_78 (d := d) hX g c (7 * g + c) i N ⟨fun q => ?_, fun q => ?_⟩
    · have : i.toNat = (a_seg A g).length := by omega
      rw [this, List.take_length, ← a_bc_step ho hg.1 hg.2] at n5
      exact h N n1 n2 n3 n4 n5
    · obtain ⟨s0, s1, s2, s3, s4, s5, s6, s7, s8, s9, s10, s11⟩ := ask N i n1 i1 (by omega)
      have hbs : ∀ g' c', g < g' → g' ≤ A 271 → 0 ≤ c' → c' ≤ 6 → q_rk N (7 * g' + c') (a_W A g' c') ∧ N 10 (7 * g' + c') = a_bc A g' c' := fun g' c' a1 a2 a3 a4 => by
        have hl := a_W_len ho (g := g') (c := c') (by omega) a2
        obtain ⟨z1, z2⟩ := hb g' c' a1 a2 a3 a4
        exact ⟨q_rk_fr z1 (n2 6 _ (Or.inl rfl) (by omega)) (fun x x1 x2 => n3 7 x (by omega) (by omega) (by omega)), (n2 10 _ (Or.inr rfl) (by omega)).trans z2⟩
      rw [s3, s4, s5, s9]
      obtain ⟨⟨b1, b2⟩, b3⟩ := hbs (f_end A (N 5 i) g) (f_cls A (N 5 i)) s6.1 s6.2 s7.1 (by omega)
      have it : (i + 1).toNat = i.toNat + 1 := by omega
      have tk := take_s (l := a_seg A g) (k := i.toNat) (by omega)
      rw [← s0] at tk
      have bb := a_bc_bnd ho (A 271).toNat (g := f_end A (N 5 i) g) (c := f_cls A (N 5 i)) (by omega) s6.2 (by omega)
      have bp := w_bst_bnd (T := a_tight A g c) (f := fun s => a_bc A (f_end A s g) (f_cls A s)) (a := 0) (l := (a_seg A g).take i.toNat) (by omega) (fun s hs => by
        have hs := List.mem_of_mem_take hs
        have y := (a_seg_mem ho hg hs).2.1
        exact (a_bc_bnd ho (A 271).toNat (by omega) y.2 (by omega)).1)
      have hW0 : (a_W A (f_end A (N 5 i) g) (f_cls A (N 5 i))).length ≠ 0 → 0 < (a_W A g c).length ∧ N 7 (20 * (7 * g + c)) = (w_at (a_W A g c) 0).1 := by
        intro z
        have hne : (a_W A g c).length ≠ 0 := by
          intro y
          have hnil : a_W A g c = [] := List.length_eq_zero_iff.mp y
          rw [a_W_step ho hg.1 hg.2] at hnil
          unfold a_wstep at hnil
          have hx : (a_edge A c (N 5 i) + (w_at (a_W A (f_end A (N 5 i) g) (f_cls A (N 5 i))) 0).1, N 5 i, (0 : Int)) ∈ w_srt [] (a_cands A (a_W A) g c) := by
            refine w_srt_mem.mpr (Or.inr ?_)
            unfold a_cands
            refine List.mem_flatMap.mpr ⟨N 5 i, s11, ?_⟩
            have e := w_cnd_at (b := a_edge A c (N 5 i)) (s := N 5 i) (j := 0) (l := a_W A (f_end A (N 5 i) g) (f_cls A (N 5 i))) (k := 0) (by omega)
            have hm := w_at_mem (l := w_cnd (a_edge A c (N 5 i)) (N 5 i) 0 (a_W A (f_end A (N 5 i) g) (f_cls A (N 5 i)))) (k := 0) (by rw [w_cnd_len]; omega)
            rw [e] at hm
            exact hm
          cases hsr : w_srt [] (a_cands A (a_W A) g c) with
          | nil => rw [hsr] at hx; cases hx
          | cons p r => rw [hsr] at hnil; cases hnil
        refine ⟨by omega, ?_⟩
        have := (n4.2 0 (by omega)).1
        rw [show 20 * (7 * g + c) + ((0 : Nat) : Int) = 20 * (7 * g + c) by omega] at this
        exact this
      have skip : ¬ a_tight A g c (N 5 i) → X 78 [.inr 1, .inl g, .inl c, .inl (7 * g + c), .inl (i + 1), .inr 0, .inr 0, .inr 0, .inr 0] [] (jx_up N 10 (7 * g + c) (N 10 (7 * g + c))) := by
        intro ht
        refine ih _ (by omega) ⟨by omega, by omega, fun c' x hc' => ?_, fun c' x hc' hx => ?_, fun c' x c1 c2 hx => ?_, q_rw_fr n4 (jx_upc (by decide)) (fun c' x c1 c2 _ _ => jx_upc (by omega)), ?_⟩
        · rw [jx_upc (by omega)]; exact n1 c' x hc'
        · rcases hc' with rfl | rfl
          · rw [jx_upc (by decide)]; exact n2 6 x (Or.inl rfl) hx
          · rw [jx_upx hx]; exact n2 10 x (Or.inr rfl) hx
        · rw [jx_upc (by omega)]; exact n3 c' x c1 c2 hx
        · rw [jx_ups, it, tk, w_bst_snoc, if_neg ht]; exact n5
      refine ⟨by omega, fun q2 => ⟨by omega, skip (fun z => z.1 (by omega))⟩, fun q2 => ?_⟩
      have e0 := b2 0 (by omega)
      rw [show 20 * (7 * f_end A (N 5 i) g + f_cls A (N 5 i)) + ((0 : Nat) : Int) = 20 * (7 * f_end A (N 5 i) g + f_cls A (N 5 i)) by omega] at e0
      obtain ⟨p1, p2⟩ := hW0 (by omega)
      have wb := a_W_bnd ho (A 271).toNat (g := f_end A (N 5 i) g) (c := f_cls A (N 5 i)) (by omega) s6.2 (by omega) (by omega) _ (w_at_mem (l := a_W A (f_end A (N 5 i) g) (f_cls A (N 5 i))) (k := 0) (by omega))
      rw [e0, p2, b3]
      refine ⟨by omega, fun q3 => ⟨by omega, skip (fun z => q3 z.2)⟩, fun q3 => ⟨by omega, ih _ (by omega) ⟨by omega, by omega, fun c' x hc' => ?_, fun c' x hc' hx => ?_, fun c' x c1 c2 hx => ?_, q_rw_fr n4 (jx_upc (by decide)) (fun c' x c1 c2 _ _ => jx_upc (by omega)), ?_⟩⟩⟩
      · rw [jx_upc (by omega)]; exact n1 c' x hc'
      · rcases hc' with rfl | rfl
        · rw [jx_upc (by decide)]; exact n2 6 x (Or.inl rfl) hx
        · rw [jx_upx hx]; exact n2 10 x (Or.inr rfl) hx
      · rw [jx_upc (by omega)]; exact n3 c' x c1 c2 hx
      · rw [jx_ups, it, tk, w_bst_snoc, if_pos (show a_tight A g c (N 5 i) from ⟨by omega, q3⟩), n5]
  -- the first loop
  have lp1 : ∀ (i : Int) (N : jxM), (0 ≤ i ∧ i ≤ ((a_seg A g).length : Int) ∧ (∀ c' x, (c' < 6 ∨ 10 < c') → N c' x = M c' x) ∧ (∀ c' x, c' = 6 ∨ c' = 10 → x ≠ 7 * g + c → N c' x = M c' x) ∧ (∀ c' x, 7 ≤ c' → c' ≤ 9 → (x < 20 * (7 * g + c) ∨ 20 * (7 * g + c) + 20 ≤ x) → N c' x = M c' x) ∧ q_rw N (7 * g + c) (w_st [] (((a_seg A g).take i.toNat).flatMap (fun s => w_cnd (a_edge A c s) s 0 (a_W A (f_end A s g) (f_cls A s))))) ∧ N 10 (7 * g + c) = 0) → X 18 [.inr 1, .inl g, .inl c, .inl (7 * g + c), .inl i, .inr 0, .inr 0, .inr 0, .inr 0] [] N := by
    refine jx_loop (σ := jxM) ((a_seg A g).length : Int) _ _ ?_
    intro i N ⟨i1, i2, n1, n2, n3, n4, n5⟩ ih
    have e16 : N 1 6 = ((a_seg A g).length : Int) := (n1 1 6 (by omega)).trans h6
    refine bk_F_layPlace_18 (d := d) hX g c (7 * g + c) i N ⟨fun q => ?_, fun q => ?_⟩
    · have : i.toNat = (a_seg A g).length := by omega
      rw [this, List.take_length] at n4
      have e : a_W A g c = w_st [] ((a_seg A g).flatMap (fun s => w_cnd (a_edge A c s) s 0 (a_W A (f_end A s g) (f_cls A s)))) := by
        rw [a_W_step ho hg.1 hg.2]
        have := w_st_eq [] (a_cands A (a_W A) g c)
        rw [List.take_nil] at this
        exact this.symm
      rw [← e] at n4
      exact lp2 0 N ⟨by omega, by omega, n1, n2, n3, n4, by rw [n5]; rfl⟩
    · obtain ⟨s0, s1, s2, s3, s4, s5, s6, s7, s8, s9, s10, s11⟩ := ask N i n1 i1 (by omega)
      rw [s3, s4, s5, s9]
      refine ⟨by omega, ?_⟩
      have it : (i + 1).toNat = i.toNat + 1 := by omega
      have tk := take_s (l := a_seg A g) (k := i.toNat) (by omega)
      rw [← s0] at tk
      generalize hs : N 5 i = s at *
      have hwl := a_W_len ho (g := f_end A s g) (c := f_cls A s) (by omega) s6.2
      have inner : ∀ (k : Int) (L : jxM), (0 ≤ k ∧ k ≤ ((a_W A (f_end A s g) (f_cls A s)).length : Int) ∧ (∀ c' x, (c' < 6 ∨ 10 < c') → L c' x = M c' x) ∧ (∀ c' x, c' = 6 ∨ c' = 10 → x ≠ 7 * g + c → L c' x = M c' x) ∧ (∀ c' x, 7 ≤ c' → c' ≤ 9 → (x < 20 * (7 * g + c) ∨ 20 * (7 * g + c) + 20 ≤ x) → L c' x = M c' x) ∧ q_rw L (7 * g + c) (w_st [] (((a_seg A g).take i.toNat).flatMap (fun s => w_cnd (a_edge A c s) s 0 (a_W A (f_end A s g) (f_cls A s))) ++ (w_cnd (a_edge A c s) s 0 (a_W A (f_end A s g) (f_cls A s))).take k.toNat)) ∧ L 10 (7 * g + c) = 0) → X 51 [.inr 1, .inl g, .inl c, .inl (7 * g + c), .inl i, .inl s, .inl (7 * f_end A s g + f_cls A s), .inl (a_con A c (f_cls A s) + f_cost A s), .inl k] [] L := by
        refine jx_loop (σ := jxM) ((a_W A (f_end A s g) (f_cls A s)).length : Int) _ _ ?_
        intro k L ⟨k1, k2, l1, l2, l3, l4, l5⟩ jh
        obtain ⟨z1, -⟩ := hb (f_end A s g) (f_cls A s) s6.1 s6.2 s7.1 (by omega)
        obtain ⟨b1, b2⟩ := q_rk_fr (M' := L) z1 (l2 6 _ (Or.inl rfl) (by omega)) (fun x x1 x2 => l3 7 x (by omega) (by omega) (by omega))
        refine bk_F_layPlace_51 (d := d) hX g c (7 * g + c) i s (7 * f_end A s g + f_cls A s) (a_con A c (f_cls A s) + f_cost A s) k L ⟨by omega, fun z => ⟨by omega, ?_⟩, fun z => ?_⟩
        · refine ih L (by omega) ⟨by omega, by omega, l1, l2, l3, ?_, l5⟩
          rw [it, tk, List.flatMap_append]
          simp only [List.flatMap_cons, List.flatMap_nil, List.append_nil]
          have e9 : (w_cnd (a_edge A c s) s 0 (a_W A (f_end A s g) (f_cls A s))).take k.toNat = w_cnd (a_edge A c s) s 0 (a_W A (f_end A s g) (f_cls A s)) := List.take_of_length_le (by rw [w_cnd_len]; omega)
          rw [e9] at l4
          exact l4
        · have e := b2 k.toNat (by omega)
          rw [show 20 * (7 * f_end A s g + f_cls A s) + ((k.toNat : Nat) : Int) = 20 * (7 * f_end A s g + f_cls A s) + k by omega] at e
          have wb := a_W_bnd ho (A 271).toNat (g := f_end A s g) (c := f_cls A s) (by omega) s6.2 (by omega) (by omega) _ (w_at_mem (l := a_W A (f_end A s g) (f_cls A s)) (k := k.toNat) (by omega))
          rw [e]
          refine ⟨by omega, ?_⟩
          obtain ⟨ns, nl⟩ := w_st_nice (((a_seg A g).take i.toNat).flatMap (fun s => w_cnd (a_edge A c s) s 0 (a_W A (f_end A s g) (f_cls A s))) ++ (w_cnd (a_edge A c s) s 0 (a_W A (f_end A s g) (f_cls A s))).take k.toNat)
          refine sp_F_insert (d + 2) (7 * g + c) _ s k L (by omega) nl ns l4 (fun L' m1 m2 m3 m4 => ⟨rfl, by omega, jh L' (by omega) ⟨by omega, by omega, fun c' x hc' => ?_, fun c' x hc' hx => ?_, fun c' x c1 c2 hx => ?_, ?_, ?_⟩⟩)
          · rw [m1 c' x (by omega)]; exact l1 c' x hc'
          · rcases hc' with rfl | rfl
            · rw [m2 x hx]; exact l2 6 x (Or.inl rfl) hx
            · rw [m1 10 x (by omega)]; exact l2 10 x (Or.inr rfl) hx
          · rw [m3 c' x c1 c2 hx]; exact l3 c' x c1 c2 hx
          · rw [show (k + 1).toNat = k.toNat + 1 by omega, takeX_s (by rw [w_cnd_len]; omega), ← List.append_assoc, w_st_app, w_cnd_at (by omega), show (0 : Int) + (k.toNat : Int) = k by omega]
            exact m4
          · rw [m1 10 _ (by omega)]; exact l5
      refine inner 0 N ⟨by omega, by omega, n1, n2, n3, ?_, n5⟩
      rw [show (0 : Int).toNat = 0 from rfl, List.take_zero, List.append_nil]
      exact n4
  refine bk_F_layPlace_0 (d := d) hX g c M ⟨by omega, lp1 0 _ ⟨by omega, by omega, fun c' x hc' => ?_, fun c' x hc' hx => ?_, fun c' x c1 c2 hx => ?_, ⟨?_, fun k hk => absurd hk (Nat.not_lt_zero _)⟩, jx_ups⟩⟩
  · rw [jx_upc (by omega), jx_upc (by omega)]
  · rcases hc' with rfl | rfl
    · rw [jx_upc (by decide), jx_upx hx]
    · rw [jx_upx hx, jx_upc (by decide)]
  · rw [jx_upc (by omega), jx_upc (by omega)]
  · rw [jx_upc (by decide), jx_ups]; rfl
end
section
/-- the reference's tables are laid from gap g on -/
def q_ldg (M : jxM) (A : Int → Int) (g : Int) : Prop := (∀ g' c, g ≤ g' → g' < A 271 → 0 ≤ c → c ≤ 6 → q_rw M (7 * g' + c) (a_W A g' c)) ∧ (∀ c, 0 ≤ c → c ≤ 6 → q_rk M (7 * A 271 + c) (a_W A (A 271) c)) ∧ (∀ g' c, g ≤ g' → g' ≤ A 271 → 0 ≤ c → c ≤ 6 → M 10 (7 * g' + c) = a_bc A g' c) ∧ (∀ g', g ≤ g' → g' ≤ A 271 → M 11 g' = a_cn A g' 0)
def q_ld (M : jxM) (A : Int → Int) : Prop := q_ldg M A 0
theorem q_ldg_bh {M : jxM} {A : Int → Int} {g : Int} (h : q_ldg M A (g + 1)) : q_bh M A g := by
  obtain ⟨h1, h2, h3, h4⟩ := h
  intro g' c a b c1 c2
  refine ⟨?_, h3 g' c (by omega) b c1 c2⟩
  rcases Int.lt_or_le g' (A 271) with z | z
  · exact (h1 g' c (by omega) z c1 c2).k
  · obtain rfl : g' = A 271 := by omega
    exact h2 c c1 c2
theorem q_ldg_fr {M M' : jxM} {A : Int → Int} {g : Int} (ho : q_ok A) (hg : 0 ≤ g ∧ g ≤ A 271) (h : q_ldg M A g) (f6 : ∀ x, 7 * g ≤ x → x < 7 * A 271 + 7 → M' 6 x = M 6 x ∧ M' 10 x = M 10 x) (f7 : ∀ c x, 7 ≤ c → c ≤ 9 → 140 * g ≤ x → x < 140 * A 271 + 140 → M' c x = M c x) (f11 : ∀ x, g ≤ x → x ≤ A 271 → M' 11 x = M 11 x) : q_ldg M' A g := by
  obtain ⟨h1, h2, h3, h4⟩ := h
  refine ⟨fun g' c a b c1 c2 => ?_, fun c c1 c2 => ?_, fun g' c a b c1 c2 => ?_, fun g' a b => ?_⟩
  · have hl := a_W_len ho (g := g') (c := c) (by omega) (by omega)
    exact q_rw_fr (h1 g' c a b c1 c2) (f6 _ (by omega) (by omega)).1 (fun c' x y1 y2 y3 y4 => f7 c' x y1 y2 (by omega) (by omega))
  · have hl := a_W_len ho (g := A 271) (c := c) (by omega) (by omega)
    exact q_rk_fr (h2 c c1 c2) (f6 _ (by omega) (by omega)).1 (fun x y1 y2 => f7 7 x (by omega) (by omega) (by omega) (by omega))
  · rw [(f6 _ (by omega) (by omega)).2]; exact h3 g' c a b c1 c2
  · rw [f11 g' a b]; exact h4 g' a b

set_option maxHeartbeats 8000000 in
theorem sp_F_lay (d : Nat) (M : jxM) {A : Int → Int} (hA : ∀ k, 0 ≤ k → k < 305 → M 2 k = A k) (ho : q_ok A) (hf : M 1 5 = 0 ∨ M 1 5 = 1) (hl : M 1 5 = 1 → q_ld M A) {K : jxK} (h : ∀ M', (∀ c x, (c < 5 ∨ 11 < c) → ¬ (c = 1 ∧ (x = 5 ∨ x = 6)) → M' c x = M c x) → M' 1 5 = 1 → q_ld M' A → K none M') : jx_call jx_G2 jx_T (d + 5) 114 [.inr 1] M K := by
  have hn := ho.2.2.2.2.1
  intro X hX
  refine bk_F_lay_0 (d := d) hX M ⟨fun q => ?_, fun q => h M (fun _ _ _ _ => rfl) (by omega) (hl (by omega))⟩
  have fr : ∀ N : jxM, (∀ c x, (c < 5 ∨ 11 < c) → ¬ (c = 1 ∧ (x = 5 ∨ x = 6)) → N c x = M c x) → ∀ k, 0 ≤ k → k < 305 → N 2 k = A k := fun N n1 k k1 k2 => (n1 2 k (by omega) (by omega)).trans (hA k k1 k2)
  rw [hA 271 (by omega) (by omega)]
  -- the gaps, from the last one on
  have gaps : ∀ (g : Int) (N : jxM), (-1 ≤ g ∧ g < A 271 ∧ (∀ c x, (c < 5 ∨ 11 < c) → ¬ (c = 1 ∧ (x = 5 ∨ x = 6)) → N c x = M c x) ∧ q_ldg N A (g + 1)) → X 58 [.inr 1, .inl (A 271), .inl g, .inr 0] [] N := by
    refine jx_loopM (σ := jxM) (-1) _ _ ?_
    intro g N ⟨g1, g2, n1, n2⟩ ih
    refine bk_F_lay_58 (d := d) hX (A 271) g N ⟨fun q2 => ?_, fun q2 => ?_⟩
    · obtain rfl : g = -1 := by omega
      refine h _ (fun c x hc hx => ?_) jx_ups (q_ldg_fr ho (by omega) n2 (fun x _ _ => ⟨jx_upc (by decide), jx_upc (by decide)⟩) (fun c x c1 c2 _ _ => jx_upc (by omega)) (fun x _ _ => jx_upc (by decide)))
      by_cases z : c = 1
      · subst z; rw [jx_upx (by omega)]; exact n1 _ _ hc hx
      · rw [jx_upc z]; exact n1 c x hc hx
    · have hg : 0 ≤ g ∧ g < A 271 := ⟨q2, g2⟩
      refine sp_F_findSegments (d + 1) g N (fr N n1) ho hg (fun L l1 l2 l3 => ⟨rfl, by omega, ?_⟩)
      have hsl := a_seg_len ho g
      have lfr : ∀ c x, (c < 5 ∨ 11 < c) → ¬ (c = 1 ∧ (x = 5 ∨ x = 6)) → L c x = M c x := fun c x hc hx => (l1 c x (by omega) (by omega)).trans (n1 c x hc hx)
      have lld : q_ldg L A (g + 1) := q_ldg_fr ho (by omega) n2 (fun x _ _ => ⟨l1 6 x (by decide) (by omega), l1 10 x (by decide) (by omega)⟩) (fun c x c1 c2 _ _ => l1 c x (by omega) (by omega)) (fun x _ _ => l1 11 x (by decide) (by omega))
      -- the classes
      have classes : ∀ (c : Int) (P : jxM), (0 ≤ c ∧ c ≤ 7 ∧ (∀ c' x, (c' < 5 ∨ 11 < c') → ¬ (c' = 1 ∧ x = 5) → P c' x = L c' x) ∧ P 1 5 = L 1 5 ∧ (∀ x, P 5 x = L 5 x) ∧ q_ldg P A (g + 1) ∧ P 11 g = a_cn A g 0 ∧ (∀ c', 0 ≤ c' → c' < c → q_rw P (7 * g + c') (a_W A g c') ∧ P 10 (7 * g + c') = a_bc A g c')) → X 97 [.inr 1, .inl (A 271), .inl g, .inl c] [] P := by
        refine jx_loop (σ := jxM) 7 _ _ ?_
        intro c P ⟨c1, c2, p1, p2, p3, p4, p5, p6⟩ jh
        refine bk_F_lay_97 (d := d) hX (A 271) g c P ⟨fun z => ⟨by omega, ?_⟩, fun z => ?_⟩
        · refine ih P (by omega) ⟨by omega, by omega, fun c' x hc hx => ?_, ?_⟩
          · rw [p1 c' x hc (by omega)]; exact lfr c' x hc hx
          · obtain ⟨y1, y2, y3, y4⟩ := p4
            rw [show g + (-1) + 1 = g by omega]
            refine ⟨fun g' c' a b e1 e2 => ?_, y2, fun g' c' a b e1 e2 => ?_, fun g' a b => ?_⟩
            · rcases Int.lt_or_le g g' with w | w
              · exact y1 g' c' (by omega) b e1 e2
              · obtain rfl : g' = g := by omega
                exact (p6 c' e1 (by omega)).1
            · rcases Int.lt_or_le g g' with w | w
              · exact y3 g' c' (by omega) b e1 e2
              · obtain rfl : g' = g := by omega
                exact (p6 c' e1 (by omega)).2
            · rcases Int.lt_or_le g g' with w | w
              · exact y4 g' (by omega) b
              · obtain rfl : g' = g := by omega
                exact p5
        · have pA : ∀ k, 0 ≤ k → k < 305 → P 2 k = A k := fun k k1 k2 => (p1 2 k (by omega) (by omega)).trans (fr L lfr k k1 k2)
          refine sp_F_layPlace d g c P pA ho hg (by omega) ((p1 1 6 (by omega) (by omega)).trans l2) (j_l_fr l3 (fun k _ _ => p3 k)) (q_ldg_bh p4) (fun P' m1 m2 m3 m4 m5 => ⟨rfl, by omega, jh P' z ⟨by omega, by omega, fun c' x hc hx => ?_, ?_, fun x => ?_, ?_, ?_, fun c' e1 e2 => ?_⟩⟩)
          · rw [m1 c' x (by omega)]; exact p1 c' x hc hx
          · rw [m1 1 5 (by omega)]; exact p2
          · rw [m1 5 x (by omega)]; exact p3 x
          · exact q_ldg_fr ho (by omega) p4 (fun x x1 x2 => ⟨m2 6 x (Or.inl rfl) (by omega), m2 10 x (Or.inr rfl) (by omega)⟩) (fun c' x y1 y2 y3 y4 => m3 c' x y1 y2 (by omega)) (fun x _ _ => m1 11 x (by omega))
          · rw [m1 11 g (by omega)]; exact p5
          · rcases Int.lt_or_le c' c with w | w
            · obtain ⟨y1, y2⟩ := p6 c' e1 w
              have hwl := a_W_len ho (g := g) (c := c') q2 (by omega)
              exact ⟨q_rw_fr y1 (m2 6 _ (Or.inl rfl) (by omega)) (fun c'' x v1 v2 v3 v4 => m3 c'' x v1 v2 (by omega)), (m2 10 _ (Or.inr rfl) (by omega)).trans y2⟩
            · obtain rfl : c' = c := by omega
              exact ⟨m4, m5⟩
      -- the count of paths
      refine jx_loop (σ := jxM) ((a_seg A g).length : Int) (fun i P => 0 ≤ i ∧ i ≤ ((a_seg A g).length : Int) ∧ (∀ c' x, c' ≠ 11 → P c' x = L c' x) ∧ (∀ x, x ≠ g → P 11 x = L 11 x) ∧ P 11 g = w_cnt (fun s => a_cn A (f_end A s g) 0) 0 ((a_seg A g).take i.toNat)) (fun i P => X 70 [.inr 1, .inl (A 271), .inl g, .inl i] [] P) ?_ 0 _ ⟨by omega, by omega, fun c' x hc => jx_upc hc, fun x hx => jx_upx hx, jx_ups⟩
      intro i P ⟨i1, i2, p1, p2, p3⟩ jh
      have p16 : P 1 6 = ((a_seg A g).length : Int) := (p1 1 6 (by decide)).trans l2
      have pA : ∀ k, 0 ≤ k → k < 305 → P 2 k = A k := fun k k1 k2 => (p1 2 k (by decide)).trans (fr L lfr k k1 k2)
      have pld : q_ldg P A (g + 1) := q_ldg_fr ho (by omega) lld (fun x _ _ => ⟨p1 6 x (by decide), p1 10 x (by decide)⟩) (fun c x c1 c2 _ _ => p1 c x (by omega)) (fun x _ _ => p2 x (by omega))
      refine bk_F_lay_70 (d := d) hX (A 271) g i P ⟨fun z => ?_, fun z => ?_⟩
      · have : i.toNat = (a_seg A g).length := by omega
        rw [this, List.take_length, ← a_cn_step ho q2 g2 (c := 0)] at p3
        exact classes 0 P ⟨by omega, by omega, fun c' x hc _ => p1 c' x (by omega), p1 1 5 (by decide), fun x => p1 5 x (by decide), pld, p3, fun c' a b => by omega⟩
      · have e5 : P 5 i = (a_seg A g).getD i.toNat 0 := by
          have := l3 i.toNat (by omega)
          rw [show (0 : Int) + (i.toNat : Int) = i by omega] at this
          rw [p1 5 i (by decide)]; exact this
        obtain ⟨a1, a2, a3, a4, a5⟩ := a_seg_at ho hg (k := i.toNat) (by omega)
        rw [← e5] at a1 a2 a3 a4 a5
        have ee := f_end_eq pA a1 g
        have hcn := pld.2.2.2 (f_end A (P 5 i) g) (by omega) a3.2
        have bb := a_cn_bnd ho (A 271).toNat (g := f_end A (P 5 i) g) (c := 0) (by omega) a3.2 (by omega)
        have bp := w_cnt_bnd (f := fun s => a_cn A (f_end A s g) 0) (a := 0) (l := (a_seg A g).take i.toNat) (by omega) (fun s hs => by
          have y := (a_seg_mem ho hg (List.mem_of_mem_take hs)).2.1
          exact (a_cn_bnd ho (A 271).toNat (by omega) y.2 (by omega)).1)
        have hle : P 5 i = -5 ∨ (0 ≤ P 2 (1 + 11 * P 5 i) ∧ P 2 (1 + 11 * P 5 i) ≤ 6) := by
          by_cases w : P 5 i = -5
          · exact Or.inl w
          · have := (ho.2.1 (P 5 i) (by omega) (a2 w)).1
            rw [pA _ (by omega) (by omega)]
            exact Or.inr (by omega)
        rw [ee, hcn]
        refine ⟨by omega, jh _ (by omega) ⟨by omega, by omega, fun c' x hc => (jx_upc hc).trans (p1 c' x hc), fun x hx => (jx_upx hx).trans (p2 x hx), ?_⟩⟩
        have tk := take_s (l := a_seg A g) (k := i.toNat) (by omega)
        rw [← e5] at tk
        rw [jx_ups, show (i + 1).toNat = i.toNat + 1 by omega, tk, w_cnt_snoc, p3]
  -- the last gap
  refine jx_loop (σ := jxM) 7 (fun c N => 0 ≤ c ∧ c ≤ 7 ∧ (∀ c' x, (c' < 5 ∨ 11 < c') → ¬ (c' = 1 ∧ (x = 5 ∨ x = 6)) → N c' x = M c' x) ∧ (∀ c', 0 ≤ c' → c' < c → q_rk N (7 * A 271 + c') (a_W A (A 271) c') ∧ N 10 (7 * A 271 + c') = 1)) (fun c N => X 11 [.inr 1, .inl (A 271), .inl c, .inr 0] [] N) ?_ 0 M ⟨by omega, by omega, fun _ _ _ _ => rfl, fun c' a b => by omega⟩
  intro c N ⟨c1, c2, n1, n2⟩ ih
  refine bk_F_lay_11 (d := d) hX (A 271) c N ⟨fun z => ⟨by omega, ?_⟩, fun z => ?_⟩
  · refine gaps _ _ ⟨by omega, by omega, fun c' x hc hx => (jx_upc (by omega)).trans (n1 c' x hc hx), ⟨fun g' c' a b => by omega, fun c' a b => ?_, fun g' c' a b e1 e2 => ?_, fun g' a b => ?_⟩⟩
    · exact q_rk_fr (n2 c' a (by omega)).1 (jx_upc (by decide)) (fun x _ _ => jx_upc (by decide))
    · obtain rfl : g' = A 271 := by omega
      rw [jx_upc (by decide), a_bc_end]; exact (n2 c' e1 (by omega)).2
    · obtain rfl : g' = A 271 := by omega
      rw [jx_ups, a_cn_end]
  · have e2 : N 2 (221 + 7 * c + 6) = a_con A c 6 := by unfold a_con; exact fr N n1 _ (by omega) (by omega)
    have con := a_con_bnd ho (l := c) (r := 6) (by omega) (by omega)
    rw [e2]
    refine ⟨by omega, ih _ z ⟨by omega, by omega, fun c' x hc hx => ?_, fun c' a b => ?_⟩⟩
    · rw [jx_upc (by omega), jx_upc (by omega), jx_upc (by omega), jx_upc (by omega)]; exact n1 c' x hc hx
    · rcases Int.lt_or_le c' c with w | w
      · obtain ⟨y1, y2⟩ := n2 c' a w
        rw [a_W_end] at y1 ⊢
        refine ⟨q_rk_fr y1 ?_ (fun x x1 x2 => ?_), ?_⟩
        · rw [jx_upc (by decide), jx_upc (by decide), jx_upc (by decide), jx_upx (by omega)]
        · have x2 : x < 20 * (7 * A 271 + c') + 1 := x2
          rw [jx_upc (by decide), jx_upc (by decide), jx_upx (by omega), jx_upc (by decide)]
        · rw [jx_upx (by omega), jx_upc (by decide), jx_upc (by decide), jx_upc (by decide)]; exact y2
      · obtain rfl : c' = c := by omega
        rw [a_W_end]
        refine ⟨⟨?_, fun k hk => ?_⟩, jx_ups⟩
        · rw [jx_upc (by decide), jx_upc (by decide), jx_upc (by decide), jx_ups]; rfl
        · obtain rfl : k = 0 := by
            have : k < 1 := hk
            omega
          rw [show 20 * (7 * A 271 + c') + ((0 : Nat) : Int) = 20 * (7 * A 271 + c') by omega, jx_upc (by decide), jx_upc (by decide), jx_ups]
          rfl
end

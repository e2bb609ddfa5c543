section
-- ===== PART A: goes FIRST, ahead of the names: the tables' words, and 'selects' of the private methods out of them =====
/-- a private method of a class that the tables say can be made, by its rows of tables_1 -/
def lw_okq (q : MethodName × Nat) : Prop := (q.1.cls ≠ "java/lang/invoke/MethodHandle" ∧ q.1.cls ≠ "java/lang/invoke/VarHandle") ∧ Cond.instantiable q.1.cls q.2 ∈ tables_1 ∧ Cond.privateMethod q.1 ∈ tables_1 ∧ Cond.instanceMethod q.1 ∈ tables_1
theorem lw_p0 : lw_okq (⟨"LastTongue", "noteAct", "()V"⟩, 12) := ⟨⟨by decide +kernel, by decide +kernel⟩, List.mem_of_getElem? (i := 14) (by decide +kernel), List.mem_of_getElem? (i := 355) (by decide +kernel), List.mem_of_getElem? (i := 356) (by decide +kernel)⟩
theorem lw_p1 : lw_okq (⟨"LastTongue", "copyInto", "(LLastTongue$Table;)V"⟩, 12) := ⟨⟨by decide +kernel, by decide +kernel⟩, List.mem_of_getElem? (i := 14) (by decide +kernel), List.mem_of_getElem? (i := 362) (by decide +kernel), List.mem_of_getElem? (i := 363) (by decide +kernel)⟩
theorem lw_p2 : lw_okq (⟨"LastTongue", "startLevels", "()V"⟩, 12) := ⟨⟨by decide +kernel, by decide +kernel⟩, List.mem_of_getElem? (i := 14) (by decide +kernel), List.mem_of_getElem? (i := 461) (by decide +kernel), List.mem_of_getElem? (i := 462) (by decide +kernel)⟩
theorem lw_p3 : lw_okq (⟨"LastTongue", "rightOnceMended", "(II)I"⟩, 12) := ⟨⟨by decide +kernel, by decide +kernel⟩, List.mem_of_getElem? (i := 14) (by decide +kernel), List.mem_of_getElem? (i := 472) (by decide +kernel), List.mem_of_getElem? (i := 473) (by decide +kernel)⟩
theorem lw_p4 : lw_okq (⟨"LastTongue", "comparePairs", "()I"⟩, 12) := ⟨⟨by decide +kernel, by decide +kernel⟩, List.mem_of_getElem? (i := 14) (by decide +kernel), List.mem_of_getElem? (i := 489) (by decide +kernel), List.mem_of_getElem? (i := 490) (by decide +kernel)⟩
theorem lw_p5 : lw_okq (⟨"LastTongue", "partsAll", "(II)Z"⟩, 12) := ⟨⟨by decide +kernel, by decide +kernel⟩, List.mem_of_getElem? (i := 14) (by decide +kernel), List.mem_of_getElem? (i := 497) (by decide +kernel), List.mem_of_getElem? (i := 498) (by decide +kernel)⟩
theorem lw_p6 : lw_okq (⟨"LastTongueModel", "clears", "()V"⟩, 22) := ⟨⟨by decide +kernel, by decide +kernel⟩, List.mem_of_getElem? (i := 593) (by decide +kernel), List.mem_of_getElem? (i := 599) (by decide +kernel), List.mem_of_getElem? (i := 600) (by decide +kernel)⟩
theorem lw_p7 : lw_okq (⟨"LastTongueModel", "sits", "(II)V"⟩, 22) := ⟨⟨by decide +kernel, by decide +kernel⟩, List.mem_of_getElem? (i := 593) (by decide +kernel), List.mem_of_getElem? (i := 603) (by decide +kernel), List.mem_of_getElem? (i := 604) (by decide +kernel)⟩
theorem lw_p8 : lw_okq (⟨"LastTongueModel", "has", "(II)V"⟩, 22) := ⟨⟨by decide +kernel, by decide +kernel⟩, List.mem_of_getElem? (i := 593) (by decide +kernel), List.mem_of_getElem? (i := 607) (by decide +kernel), List.mem_of_getElem? (i := 608) (by decide +kernel)⟩
theorem lw_p9 : lw_okq (⟨"LastTongueModel", "settles", "()V"⟩, 22) := ⟨⟨by decide +kernel, by decide +kernel⟩, List.mem_of_getElem? (i := 593) (by decide +kernel), List.mem_of_getElem? (i := 611) (by decide +kernel), List.mem_of_getElem? (i := 612) (by decide +kernel)⟩
theorem lw_p10 : lw_okq (⟨"LastTongueModel", "copies", "(II)V"⟩, 22) := ⟨⟨by decide +kernel, by decide +kernel⟩, List.mem_of_getElem? (i := 593) (by decide +kernel), List.mem_of_getElem? (i := 615) (by decide +kernel), List.mem_of_getElem? (i := 616) (by decide +kernel)⟩
theorem lw_p11 : lw_okq (⟨"LastTongueModel", "reads", "()Z"⟩, 22) := ⟨⟨by decide +kernel, by decide +kernel⟩, List.mem_of_getElem? (i := 593) (by decide +kernel), List.mem_of_getElem? (i := 703) (by decide +kernel), List.mem_of_getElem? (i := 704) (by decide +kernel)⟩
theorem lw_p12 : lw_okq (⟨"LastTongueModel", "next", "()I"⟩, 22) := ⟨⟨by decide +kernel, by decide +kernel⟩, List.mem_of_getElem? (i := 593) (by decide +kernel), List.mem_of_getElem? (i := 707) (by decide +kernel), List.mem_of_getElem? (i := 708) (by decide +kernel)⟩
theorem lw_p13 : lw_okq (⟨"LastTongueModel", "item", "(IZ)Z"⟩, 22) := ⟨⟨by decide +kernel, by decide +kernel⟩, List.mem_of_getElem? (i := 593) (by decide +kernel), List.mem_of_getElem? (i := 711) (by decide +kernel), List.mem_of_getElem? (i := 712) (by decide +kernel)⟩
theorem lw_p14 : lw_okq (⟨"LastTongueModel", "tongueItem", "()V"⟩, 22) := ⟨⟨by decide +kernel, by decide +kernel⟩, List.mem_of_getElem? (i := 593) (by decide +kernel), List.mem_of_getElem? (i := 715) (by decide +kernel), List.mem_of_getElem? (i := 716) (by decide +kernel)⟩
theorem lw_p15 : lw_okq (⟨"LastTongueModel", "wooerItem", "()V"⟩, 22) := ⟨⟨by decide +kernel, by decide +kernel⟩, List.mem_of_getElem? (i := 593) (by decide +kernel), List.mem_of_getElem? (i := 725) (by decide +kernel), List.mem_of_getElem? (i := 726) (by decide +kernel)⟩
def lw_privs_1 : List (MethodName × Nat) := [(⟨"LastTongue", "noteAct", "()V"⟩, 12), (⟨"LastTongue", "copyInto", "(LLastTongue$Table;)V"⟩, 12), (⟨"LastTongue", "startLevels", "()V"⟩, 12), (⟨"LastTongue", "rightOnceMended", "(II)I"⟩, 12), (⟨"LastTongue", "comparePairs", "()I"⟩, 12), (⟨"LastTongue", "partsAll", "(II)Z"⟩, 12), (⟨"LastTongueModel", "clears", "()V"⟩, 22), (⟨"LastTongueModel", "sits", "(II)V"⟩, 22), (⟨"LastTongueModel", "has", "(II)V"⟩, 22), (⟨"LastTongueModel", "settles", "()V"⟩, 22), (⟨"LastTongueModel", "copies", "(II)V"⟩, 22), (⟨"LastTongueModel", "reads", "()Z"⟩, 22), (⟨"LastTongueModel", "next", "()I"⟩, 22), (⟨"LastTongueModel", "item", "(IZ)Z"⟩, 22), (⟨"LastTongueModel", "tongueItem", "()V"⟩, 22), (⟨"LastTongueModel", "wooerItem", "()V"⟩, 22)]
theorem lw_r1 : ∀ q ∈ lw_privs_1, lw_okq q := List.forall_mem_cons.mpr ⟨lw_p0, List.forall_mem_cons.mpr ⟨lw_p1, List.forall_mem_cons.mpr ⟨lw_p2, List.forall_mem_cons.mpr ⟨lw_p3, List.forall_mem_cons.mpr ⟨lw_p4, List.forall_mem_cons.mpr ⟨lw_p5, List.forall_mem_cons.mpr ⟨lw_p6, List.forall_mem_cons.mpr ⟨lw_p7, List.forall_mem_cons.mpr ⟨lw_p8, List.forall_mem_cons.mpr ⟨lw_p9, List.forall_mem_cons.mpr ⟨lw_p10, List.forall_mem_cons.mpr ⟨lw_p11, List.forall_mem_cons.mpr ⟨lw_p12, List.forall_mem_cons.mpr ⟨lw_p13, List.forall_mem_cons.mpr ⟨lw_p14, List.forall_mem_cons.mpr ⟨lw_p15, fun _ h => absurd h List.not_mem_nil⟩⟩⟩⟩⟩⟩⟩⟩⟩⟩⟩⟩⟩⟩⟩⟩
theorem lw_p16 : lw_okq (⟨"LastTongueModel", "number", "(II)I"⟩, 22) := ⟨⟨by decide +kernel, by decide +kernel⟩, List.mem_of_getElem? (i := 593) (by decide +kernel), List.mem_of_getElem? (i := 729) (by decide +kernel), List.mem_of_getElem? (i := 730) (by decide +kernel)⟩
theorem lw_p17 : lw_okq (⟨"LastTongueModel", "more", "(II)I"⟩, 22) := ⟨⟨by decide +kernel, by decide +kernel⟩, List.mem_of_getElem? (i := 593) (by decide +kernel), List.mem_of_getElem? (i := 733) (by decide +kernel), List.mem_of_getElem? (i := 734) (by decide +kernel)⟩
theorem lw_p18 : lw_okq (⟨"LastTongueModel", "isWord", "(I)Z"⟩, 22) := ⟨⟨by decide +kernel, by decide +kernel⟩, List.mem_of_getElem? (i := 593) (by decide +kernel), List.mem_of_getElem? (i := 745) (by decide +kernel), List.mem_of_getElem? (i := 746) (by decide +kernel)⟩
theorem lw_p19 : lw_okq (⟨"LastTongueModel", "isOne", "(I)Z"⟩, 22) := ⟨⟨by decide +kernel, by decide +kernel⟩, List.mem_of_getElem? (i := 593) (by decide +kernel), List.mem_of_getElem? (i := 753) (by decide +kernel), List.mem_of_getElem? (i := 754) (by decide +kernel)⟩
theorem lw_p20 : lw_okq (⟨"LastTongueModel", "had", "(II)I"⟩, 22) := ⟨⟨by decide +kernel, by decide +kernel⟩, List.mem_of_getElem? (i := 593) (by decide +kernel), List.mem_of_getElem? (i := 758) (by decide +kernel), List.mem_of_getElem? (i := 759) (by decide +kernel)⟩
theorem lw_p21 : lw_okq (⟨"LastTongueModel", "hasIt", "(III)I"⟩, 22) := ⟨⟨by decide +kernel, by decide +kernel⟩, List.mem_of_getElem? (i := 593) (by decide +kernel), List.mem_of_getElem? (i := 762) (by decide +kernel), List.mem_of_getElem? (i := 763) (by decide +kernel)⟩
theorem lw_p22 : lw_okq (⟨"LastTongueModel", "right", "(II)I"⟩, 22) := ⟨⟨by decide +kernel, by decide +kernel⟩, List.mem_of_getElem? (i := 593) (by decide +kernel), List.mem_of_getElem? (i := 766) (by decide +kernel), List.mem_of_getElem? (i := 767) (by decide +kernel)⟩
theorem lw_p23 : lw_okq (⟨"LastTongueModel", "isSpeaker", "(II)Z"⟩, 22) := ⟨⟨by decide +kernel, by decide +kernel⟩, List.mem_of_getElem? (i := 593) (by decide +kernel), List.mem_of_getElem? (i := 770) (by decide +kernel), List.mem_of_getElem? (i := 771) (by decide +kernel)⟩
theorem lw_p24 : lw_okq (⟨"LastTongueModel", "known", "()V"⟩, 22) := ⟨⟨by decide +kernel, by decide +kernel⟩, List.mem_of_getElem? (i := 593) (by decide +kernel), List.mem_of_getElem? (i := 785) (by decide +kernel), List.mem_of_getElem? (i := 786) (by decide +kernel)⟩
theorem lw_p25 : lw_okq (⟨"LastTongueModel", "learns", "(III)V"⟩, 22) := ⟨⟨by decide +kernel, by decide +kernel⟩, List.mem_of_getElem? (i := 593) (by decide +kernel), List.mem_of_getElem? (i := 789) (by decide +kernel), List.mem_of_getElem? (i := 790) (by decide +kernel)⟩
theorem lw_p26 : lw_okq (⟨"LastTongueModel", "hears", "(III)I"⟩, 22) := ⟨⟨by decide +kernel, by decide +kernel⟩, List.mem_of_getElem? (i := 593) (by decide +kernel), List.mem_of_getElem? (i := 793) (by decide +kernel), List.mem_of_getElem? (i := 794) (by decide +kernel)⟩
theorem lw_p27 : lw_okq (⟨"LastTongueModel", "gets", "(IIII)V"⟩, 22) := ⟨⟨by decide +kernel, by decide +kernel⟩, List.mem_of_getElem? (i := 593) (by decide +kernel), List.mem_of_getElem? (i := 797) (by decide +kernel), List.mem_of_getElem? (i := 798) (by decide +kernel)⟩
theorem lw_p28 : lw_okq (⟨"LastTongueModel", "days", "(II)V"⟩, 22) := ⟨⟨by decide +kernel, by decide +kernel⟩, List.mem_of_getElem? (i := 593) (by decide +kernel), List.mem_of_getElem? (i := 806) (by decide +kernel), List.mem_of_getElem? (i := 807) (by decide +kernel)⟩
theorem lw_p29 : lw_okq (⟨"LastTongueModel", "goesOn", "(IZ)V"⟩, 22) := ⟨⟨by decide +kernel, by decide +kernel⟩, List.mem_of_getElem? (i := 593) (by decide +kernel), List.mem_of_getElem? (i := 810) (by decide +kernel), List.mem_of_getElem? (i := 811) (by decide +kernel)⟩
theorem lw_p30 : lw_okq (⟨"LastTongueModel", "tellings", "(IZ)V"⟩, 22) := ⟨⟨by decide +kernel, by decide +kernel⟩, List.mem_of_getElem? (i := 593) (by decide +kernel), List.mem_of_getElem? (i := 814) (by decide +kernel), List.mem_of_getElem? (i := 815) (by decide +kernel)⟩
theorem lw_p31 : lw_okq (⟨"LastTongueModel", "grows", "(II)V"⟩, 22) := ⟨⟨by decide +kernel, by decide +kernel⟩, List.mem_of_getElem? (i := 593) (by decide +kernel), List.mem_of_getElem? (i := 818) (by decide +kernel), List.mem_of_getElem? (i := 819) (by decide +kernel)⟩
def lw_privs_2 : List (MethodName × Nat) := [(⟨"LastTongueModel", "number", "(II)I"⟩, 22), (⟨"LastTongueModel", "more", "(II)I"⟩, 22), (⟨"LastTongueModel", "isWord", "(I)Z"⟩, 22), (⟨"LastTongueModel", "isOne", "(I)Z"⟩, 22), (⟨"LastTongueModel", "had", "(II)I"⟩, 22), (⟨"LastTongueModel", "hasIt", "(III)I"⟩, 22), (⟨"LastTongueModel", "right", "(II)I"⟩, 22), (⟨"LastTongueModel", "isSpeaker", "(II)Z"⟩, 22), (⟨"LastTongueModel", "known", "()V"⟩, 22), (⟨"LastTongueModel", "learns", "(III)V"⟩, 22), (⟨"LastTongueModel", "hears", "(III)I"⟩, 22), (⟨"LastTongueModel", "gets", "(IIII)V"⟩, 22), (⟨"LastTongueModel", "days", "(II)V"⟩, 22), (⟨"LastTongueModel", "goesOn", "(IZ)V"⟩, 22), (⟨"LastTongueModel", "tellings", "(IZ)V"⟩, 22), (⟨"LastTongueModel", "grows", "(II)V"⟩, 22)]
theorem lw_r2 : ∀ q ∈ lw_privs_2, lw_okq q := List.forall_mem_cons.mpr ⟨lw_p16, List.forall_mem_cons.mpr ⟨lw_p17, List.forall_mem_cons.mpr ⟨lw_p18, List.forall_mem_cons.mpr ⟨lw_p19, List.forall_mem_cons.mpr ⟨lw_p20, List.forall_mem_cons.mpr ⟨lw_p21, List.forall_mem_cons.mpr ⟨lw_p22, List.forall_mem_cons.mpr ⟨lw_p23, List.forall_mem_cons.mpr ⟨lw_p24, List.forall_mem_cons.mpr ⟨lw_p25, List.forall_mem_cons.mpr ⟨lw_p26, List.forall_mem_cons.mpr ⟨lw_p27, List.forall_mem_cons.mpr ⟨lw_p28, List.forall_mem_cons.mpr ⟨lw_p29, List.forall_mem_cons.mpr ⟨lw_p30, List.forall_mem_cons.mpr ⟨lw_p31, fun _ h => absurd h List.not_mem_nil⟩⟩⟩⟩⟩⟩⟩⟩⟩⟩⟩⟩⟩⟩⟩⟩
theorem lw_p32 : lw_okq (⟨"LastTongueModel", "speakers", "(I)I"⟩, 22) := ⟨⟨by decide +kernel, by decide +kernel⟩, List.mem_of_getElem? (i := 593) (by decide +kernel), List.mem_of_getElem? (i := 822) (by decide +kernel), List.mem_of_getElem? (i := 823) (by decide +kernel)⟩
theorem lw_p33 : lw_okq (⟨"LastTongueModel", "canMend", "(III)Z"⟩, 22) := ⟨⟨by decide +kernel, by decide +kernel⟩, List.mem_of_getElem? (i := 593) (by decide +kernel), List.mem_of_getElem? (i := 830) (by decide +kernel), List.mem_of_getElem? (i := 831) (by decide +kernel)⟩
theorem lw_p34 : lw_okq (⟨"LastTongueModel", "swaps", "(III)V"⟩, 22) := ⟨⟨by decide +kernel, by decide +kernel⟩, List.mem_of_getElem? (i := 593) (by decide +kernel), List.mem_of_getElem? (i := 838) (by decide +kernel), List.mem_of_getElem? (i := 839) (by decide +kernel)⟩
theorem lw_p35 : lw_okq (⟨"LastTongueModel", "rights", "(I)I"⟩, 22) := ⟨⟨by decide +kernel, by decide +kernel⟩, List.mem_of_getElem? (i := 593) (by decide +kernel), List.mem_of_getElem? (i := 869) (by decide +kernel), List.mem_of_getElem? (i := 870) (by decide +kernel)⟩
theorem lw_p36 : lw_okq (⟨"LastTongueModel", "isApart", "(I)Z"⟩, 22) := ⟨⟨by decide +kernel, by decide +kernel⟩, List.mem_of_getElem? (i := 593) (by decide +kernel), List.mem_of_getElem? (i := 881) (by decide +kernel), List.mem_of_getElem? (i := 882) (by decide +kernel)⟩
theorem lw_p37 : lw_okq (⟨"LastTongueModel", "manyHave", "(II)I"⟩, 22) := ⟨⟨by decide +kernel, by decide +kernel⟩, List.mem_of_getElem? (i := 593) (by decide +kernel), List.mem_of_getElem? (i := 889) (by decide +kernel), List.mem_of_getElem? (i := 890) (by decide +kernel)⟩
theorem lw_p38 : lw_okq (⟨"LastTongueModel", "fits", "()I"⟩, 22) := ⟨⟨by decide +kernel, by decide +kernel⟩, List.mem_of_getElem? (i := 593) (by decide +kernel), List.mem_of_getElem? (i := 907) (by decide +kernel), List.mem_of_getElem? (i := 908) (by decide +kernel)⟩
theorem lw_p39 : lw_okq (⟨"LastTongueModel", "does", "(II)V"⟩, 22) := ⟨⟨by decide +kernel, by decide +kernel⟩, List.mem_of_getElem? (i := 593) (by decide +kernel), List.mem_of_getElem? (i := 928) (by decide +kernel), List.mem_of_getElem? (i := 929) (by decide +kernel)⟩
theorem lw_p40 : lw_okq (⟨"LastTongueModel", "allHad", "()I"⟩, 22) := ⟨⟨by decide +kernel, by decide +kernel⟩, List.mem_of_getElem? (i := 593) (by decide +kernel), List.mem_of_getElem? (i := 944) (by decide +kernel), List.mem_of_getElem? (i := 945) (by decide +kernel)⟩
def lw_privs_3 : List (MethodName × Nat) := [(⟨"LastTongueModel", "speakers", "(I)I"⟩, 22), (⟨"LastTongueModel", "canMend", "(III)Z"⟩, 22), (⟨"LastTongueModel", "swaps", "(III)V"⟩, 22), (⟨"LastTongueModel", "rights", "(I)I"⟩, 22), (⟨"LastTongueModel", "isApart", "(I)Z"⟩, 22), (⟨"LastTongueModel", "manyHave", "(II)I"⟩, 22), (⟨"LastTongueModel", "fits", "()I"⟩, 22), (⟨"LastTongueModel", "does", "(II)V"⟩, 22), (⟨"LastTongueModel", "allHad", "()I"⟩, 22)]
theorem lw_r3 : ∀ q ∈ lw_privs_3, lw_okq q := List.forall_mem_cons.mpr ⟨lw_p32, List.forall_mem_cons.mpr ⟨lw_p33, List.forall_mem_cons.mpr ⟨lw_p34, List.forall_mem_cons.mpr ⟨lw_p35, List.forall_mem_cons.mpr ⟨lw_p36, List.forall_mem_cons.mpr ⟨lw_p37, List.forall_mem_cons.mpr ⟨lw_p38, List.forall_mem_cons.mpr ⟨lw_p39, List.forall_mem_cons.mpr ⟨lw_p40, fun _ h => absurd h List.not_mem_nil⟩⟩⟩⟩⟩⟩⟩⟩⟩
def lw_privs : List (MethodName × Nat) := lw_privs_1 ++ (lw_privs_2 ++ (lw_privs_3))
def lw_tbl : List Cond := k2_sels lw_privs ++ tables_1
theorem lw_privs_ok : ∀ q ∈ lw_privs, lw_okq q := by
  show ∀ q ∈ lw_privs_1 ++ (lw_privs_2 ++ (lw_privs_3)), lw_okq q
  exact List.forall_mem_append.mpr ⟨lw_r1, List.forall_mem_append.mpr ⟨lw_r2, lw_r3⟩⟩
-- ===== end of PART A; then your names; then what follows =====
end
section
def RX0 : String := "LastTongue$Hearsay"
def TX0 : u_T := fun k => match k with
  | 0 => ("LastTongue$Hearsay", "word", "[I", true)
  | 1 => ("LastTongue$Hearsay", "sound", "[I", true)
  | 2 => ("LastTongue$Hearsay", "day", "[I", true)
  | _ => ("LastTongue$Hearsay", "count", "I", false)
def tyX0 : Nat → FieldType := fun k => match k with
  | 0 => .array .int
  | 1 => .array .int
  | 2 => .array .int
  | _ => .int
abbrev wsX00 : List Cond := u_ws RX0 TX0 4
theorem nmX0 : ∀ a, a < 4 → ∀ b, b < 4 → a ≠ b → (TX0 a).2.1 ≠ (TX0 b).2.1 := by decide +kernel
theorem tyX0_ok : ∀ k, k < 4 → parseFieldDescriptor (TX0 k).2.2.1 = some (tyX0 k) := by decide +kernel
abbrev cX0_init : ByteArray := prog_2_method_1_code
def yX0_init : MethodName := ⟨RX0, "<init>", "()V"⟩
abbrev cX0_add : ByteArray := prog_2_method_2_code
def yX0_add : MethodName := ⟨RX0, "add", "(III)Z"⟩
abbrev cX0_lastDay : ByteArray := prog_2_method_3_code
def yX0_lastDay : MethodName := ⟨RX0, "lastDay", "()I"⟩
abbrev cX0_fitting : ByteArray := prog_2_method_4_code
def yX0_fitting : MethodName := ⟨RX0, "fitting", "(LLastTongue$Table;)I"⟩
def RX1 : String := "LastTongue$Table"
def TX1 : u_T := fun k => match k with
  | 0 => ("LastTongue$Table", "sounds", "[I", true)
  | 1 => ("LastTongue$Table", "kind", "[I", true)
  | 2 => ("LastTongue$Table", "memory", "[I", true)
  | 3 => ("LastTongue$Table", "has", "[I", true)
  | 4 => ("LastTongue$Table", "right", "[I", true)
  | 5 => ("LastTongue$Table", "way", "[I", true)
  | 6 => ("LastTongue$Table", "age", "[I", true)
  | 7 => ("LastTongue$Table", "told", "[I", true)
  | 8 => ("LastTongue$Table", "words", "I", false)
  | 9 => ("LastTongue$Table", "wooers", "I", false)
  | 10 => ("LastTongue$Table", "need", "I", false)
  | _ => ("LastTongue$Table", "days", "I", false)
def tyX1 : Nat → FieldType := fun k => match k with
  | 0 => .array .int
  | 1 => .array .int
  | 2 => .array .int
  | 3 => .array .int
  | 4 => .array .int
  | 5 => .array .int
  | 6 => .array .int
  | 7 => .array .int
  | 8 => .int
  | 9 => .int
  | 10 => .int
  | _ => .int
abbrev wsX10 : List Cond := u_ws RX1 TX1 12
theorem nmX1 : ∀ a, a < 12 → ∀ b, b < 12 → a ≠ b → (TX1 a).2.1 ≠ (TX1 b).2.1 := by decide +kernel
theorem tyX1_ok : ∀ k, k < 12 → parseFieldDescriptor (TX1 k).2.2.1 = some (tyX1 k) := by decide +kernel
abbrev cX1_init : ByteArray := prog_3_method_1_code
def yX1_init : MethodName := ⟨RX1, "<init>", "()V"⟩
abbrev cX1_clear : ByteArray := prog_3_method_2_code
def yX1_clear : MethodName := ⟨RX1, "clear", "()V"⟩
abbrev cX1_copy : ByteArray := prog_3_method_3_code
def yX1_copy : MethodName := ⟨RX1, "copy", "(LLastTongue$Table;)V"⟩
abbrev cX1_isWord : ByteArray := prog_3_method_4_code
def yX1_isWord : MethodName := ⟨RX1, "isWord", "(I)Z"⟩
abbrev cX1_isWooer : ByteArray := prog_3_method_5_code
def yX1_isWooer : MethodName := ⟨RX1, "isWooer", "(I)Z"⟩
abbrev cX1_holds : ByteArray := prog_3_method_6_code
def yX1_holds : MethodName := ⟨RX1, "holds", "(II)Z"⟩
abbrev cX1_isRight : ByteArray := prog_3_method_7_code
def yX1_isRight : MethodName := ⟨RX1, "isRight", "(II)Z"⟩
abbrev cX1_wayOf : ByteArray := prog_3_method_8_code
def yX1_wayOf : MethodName := ⟨RX1, "wayOf", "(II)I"⟩
abbrev cX1_ageOf : ByteArray := prog_3_method_9_code
def yX1_ageOf : MethodName := ⟨RX1, "ageOf", "(II)I"⟩
abbrev cX1_rightOf : ByteArray := prog_3_method_10_code
def yX1_rightOf : MethodName := ⟨RX1, "rightOf", "(I)I"⟩
abbrev cX1_isSpeaker : ByteArray := prog_3_method_11_code
def yX1_isSpeaker : MethodName := ⟨RX1, "isSpeaker", "(I)Z"⟩
abbrev cX1_speakers : ByteArray := prog_3_method_12_code
def yX1_speakers : MethodName := ⟨RX1, "speakers", "()I"⟩
abbrev cX1_allRight : ByteArray := prog_3_method_13_code
def yX1_allRight : MethodName := ⟨RX1, "allRight", "()I"⟩
abbrev cX1_allHad : ByteArray := prog_3_method_14_code
def yX1_allHad : MethodName := ⟨RX1, "allHad", "()I"⟩
abbrev cX1_seat : ByteArray := prog_3_method_15_code
def yX1_seat : MethodName := ⟨RX1, "seat", "(II)I"⟩
abbrev cX1_give : ByteArray := prog_3_method_16_code
def yX1_give : MethodName := ⟨RX1, "give", "(III)V"⟩
abbrev cX1_drop : ByteArray := prog_3_method_17_code
def yX1_drop : MethodName := ⟨RX1, "drop", "(II)V"⟩
abbrev cX1_asHeardBy : ByteArray := prog_3_method_18_code
def yX1_asHeardBy : MethodName := ⟨RX1, "asHeardBy", "(II)I"⟩
abbrev cX1_teach : ByteArray := prog_3_method_19_code
def yX1_teach : MethodName := ⟨RX1, "teach", "(II)V"⟩
abbrev cX1_canRepair : ByteArray := prog_3_method_20_code
def yX1_canRepair : MethodName := ⟨RX1, "canRepair", "(II)Z"⟩
abbrev cX1_repair : ByteArray := prog_3_method_21_code
def yX1_repair : MethodName := ⟨RX1, "repair", "(II)V"⟩
abbrev cX1_swapSeats : ByteArray := prog_3_method_22_code
def yX1_swapSeats : MethodName := ⟨RX1, "swapSeats", "(II)V"⟩
abbrev cX1_spend : ByteArray := prog_3_method_23_code
def yX1_spend : MethodName := ⟨RX1, "spend", "(I)V"⟩
abbrev cX1_spendDay : ByteArray := prog_3_method_24_code
def yX1_spendDay : MethodName := ⟨RX1, "spendDay", "(Z)V"⟩
abbrev cX1_nextSeat : ByteArray := prog_3_method_25_code
def yX1_nextSeat : MethodName := ⟨RX1, "nextSeat", "(I)I"⟩
abbrev cX1_lowest : ByteArray := prog_3_method_26_code
def yX1_lowest : MethodName := ⟨RX1, "lowest", "(I)I"⟩
abbrev cX1_growOlder : ByteArray := prog_3_method_27_code
def yX1_growOlder : MethodName := ⟨RX1, "growOlder", "(II)V"⟩
abbrev cX1_tellNext : ByteArray := prog_3_method_28_code
def yX1_tellNext : MethodName := ⟨RX1, "tellNext", "(II)V"⟩
abbrev cX1_befall : ByteArray := prog_3_method_29_code
def yX1_befall : MethodName := ⟨RX1, "befall", "(I)V"⟩
abbrev cX1_differing : ByteArray := prog_3_method_30_code
def yX1_differing : MethodName := ⟨RX1, "differing", "(II)I"⟩
abbrev cX1_holders : ByteArray := prog_3_method_31_code
def yX1_holders : MethodName := ⟨RX1, "holders", "(II)I"⟩
abbrev cX1_isAnother : ByteArray := prog_3_method_32_code
def yX1_isAnother : MethodName := ⟨RX1, "isAnother", "(I)Z"⟩
abbrev cX1_having : ByteArray := prog_3_method_33_code
def yX1_having : MethodName := ⟨RX1, "having", "(II)I"⟩
def RX2 : String := "LastTongue$Text"
def TX2 : u_T := fun k => match k with
  | 0 => ("LastTongue$Text", "letters", "[I", true)
  | 1 => ("LastTongue$Text", "length", "I", false)
  | 2 => ("LastTongue$Text", "place", "I", false)
  | _ => ("LastTongue$Text", "pastTongue", "Z", false)
def tyX2 : Nat → FieldType := fun k => match k with
  | 0 => .array .int
  | 1 => .int
  | 2 => .int
  | _ => .boolean
abbrev wsX20 : List Cond := u_ws RX2 TX2 4
theorem nmX2 : ∀ a, a < 4 → ∀ b, b < 4 → a ≠ b → (TX2 a).2.1 ≠ (TX2 b).2.1 := by decide +kernel
theorem tyX2_ok : ∀ k, k < 4 → parseFieldDescriptor (TX2 k).2.2.1 = some (tyX2 k) := by decide +kernel
abbrev cX2_init : ByteArray := prog_4_method_1_code
def yX2_init : MethodName := ⟨RX2, "<init>", "()V"⟩
abbrev cX2_append : ByteArray := prog_4_method_2_code
def yX2_append : MethodName := ⟨RX2, "append", "(I)Z"⟩
abbrev cX2_take : ByteArray := prog_4_method_3_code
def yX2_take : MethodName := ⟨RX2, "take", "(Ljava/lang/String;)V"⟩
abbrev cX2_readInto : ByteArray := prog_4_method_4_code
def yX2_readInto : MethodName := ⟨RX2, "readInto", "(LLastTongue$Table;)I"⟩
abbrev cX2_readItem : ByteArray := prog_4_method_5_code
def yX2_readItem : MethodName := ⟨RX2, "readItem", "(LLastTongue$Table;)Z"⟩
abbrev cX2_readTongue : ByteArray := prog_4_method_6_code
def yX2_readTongue : MethodName := ⟨RX2, "readTongue", "(LLastTongue$Table;)Z"⟩
abbrev cX2_readWooer : ByteArray := prog_4_method_7_code
def yX2_readWooer : MethodName := ⟨RX2, "readWooer", "(LLastTongue$Table;)Z"⟩
abbrev cX2_readNeed : ByteArray := prog_4_method_8_code
def yX2_readNeed : MethodName := ⟨RX2, "readNeed", "(LLastTongue$Table;)Z"⟩
abbrev cX2_number : ByteArray := prog_4_method_9_code
def yX2_number : MethodName := ⟨RX2, "number", "(I)I"⟩
abbrev cX2_isFigure : ByteArray := prog_4_method_10_code
def yX2_isFigure : MethodName := ⟨RX2, "isFigure", "(I)Z"⟩
abbrev cX2_next : ByteArray := prog_4_method_11_code
def yX2_next : MethodName := ⟨RX2, "next", "()I"⟩
def RX3 : String := "LastTongue"
def TX3 : u_T := fun k => match k with
  | 0 => ("LastTongue", "text", "LLastTongue$Text;", true)
  | 1 => ("LastTongue", "now", "LLastTongue$Table;", true)
  | 2 => ("LastTongue", "draft", "LLastTongue$Table;", true)
  | 3 => ("LastTongue", "trial", "LLastTongue$Table;", true)
  | 4 => ("LastTongue", "levels", "[LLastTongue$Table;", true)
  | 5 => ("LastTongue", "past", "[LLastTongue$Table;", true)
  | 6 => ("LastTongue", "stored", "[LLastTongue$Table;", true)
  | 7 => ("LastTongue", "heard", "LLastTongue$Hearsay;", true)
  | 8 => ("LastTongue", "pairs", "[I", true)
  | 9 => ("LastTongue", "undos", "I", false)
  | 10 => ("LastTongue", "latest", "I", false)
  | _ => ("LastTongue", "keeps", "I", false)
def tyX3 : Nat → FieldType := fun k => match k with
  | 0 => .object "LastTongue$Text"
  | 1 => .object "LastTongue$Table"
  | 2 => .object "LastTongue$Table"
  | 3 => .object "LastTongue$Table"
  | 4 => .array (.object "LastTongue$Table")
  | 5 => .array (.object "LastTongue$Table")
  | 6 => .array (.object "LastTongue$Table")
  | 7 => .object "LastTongue$Hearsay"
  | 8 => .array .int
  | 9 => .int
  | 10 => .int
  | _ => .int
abbrev wsX30 : List Cond := u_ws RX3 TX3 12
theorem nmX3 : ∀ a, a < 12 → ∀ b, b < 12 → a ≠ b → (TX3 a).2.1 ≠ (TX3 b).2.1 := by decide +kernel
theorem tyX3_ok : ∀ k, k < 12 → parseFieldDescriptor (TX3 k).2.2.1 = some (tyX3 k) := by decide +kernel
abbrev cX3_init : ByteArray := prog_1_method_1_code
def yX3_init : MethodName := ⟨RX3, "<init>", "()V"⟩
abbrev cX3_write : ByteArray := prog_1_method_2_code
def yX3_write : MethodName := ⟨RX3, "write", "(I)I"⟩
abbrev cX3_wipe : ByteArray := prog_1_method_3_code
def yX3_wipe : MethodName := ⟨RX3, "wipe", "()I"⟩
abbrev cX3_fault : ByteArray := prog_1_method_4_code
def yX3_fault : MethodName := ⟨RX3, "fault", "()I"⟩
abbrev cX3_lay : ByteArray := prog_1_method_5_code
def yX3_lay : MethodName := ⟨RX3, "lay", "()I"⟩
abbrev cX3_sound : ByteArray := prog_1_method_6_code
def yX3_sound : MethodName := ⟨RX3, "sound", "(I)I"⟩
abbrev cX3_wooer : ByteArray := prog_1_method_7_code
def yX3_wooer : MethodName := ⟨RX3, "wooer", "(II)I"⟩
abbrev cX3_word : ByteArray := prog_1_method_8_code
def yX3_word : MethodName := ⟨RX3, "word", "(III)I"⟩
abbrev cX3_lesson : ByteArray := prog_1_method_9_code
def yX3_lesson : MethodName := ⟨RX3, "lesson", "(II)I"⟩
abbrev cX3_pass : ByteArray := prog_1_method_10_code
def yX3_pass : MethodName := ⟨RX3, "pass", "(I)I"⟩
abbrev cX3_mend : ByteArray := prog_1_method_11_code
def yX3_mend : MethodName := ⟨RX3, "mend", "(II)I"⟩
abbrev cX3_change : ByteArray := prog_1_method_12_code
def yX3_change : MethodName := ⟨RX3, "change", "(II)I"⟩
abbrev cX3_undo : ByteArray := prog_1_method_13_code
def yX3_undo : MethodName := ⟨RX3, "undo", "()I"⟩
abbrev cX3_behind : ByteArray := prog_1_method_14_code
def yX3_behind : MethodName := ⟨RX3, "behind", "(III)I"⟩
abbrev cX3_made : ByteArray := prog_1_method_15_code
def yX3_made : MethodName := ⟨RX3, "made", "(I)I"⟩
abbrev cX3_best : ByteArray := prog_1_method_16_code
def yX3_best : MethodName := ⟨RX3, "best", "(III)I"⟩
abbrev cX3_mends : ByteArray := prog_1_method_17_code
def yX3_mends : MethodName := ⟨RX3, "mends", "(I)I"⟩
abbrev cX3_two : ByteArray := prog_1_method_18_code
def yX3_two : MethodName := ⟨RX3, "two", "(I)I"⟩
abbrev cX3_tests : ByteArray := prog_1_method_19_code
def yX3_tests : MethodName := ⟨RX3, "tests", "(I)I"⟩
abbrev cX3_other : ByteArray := prog_1_method_20_code
def yX3_other : MethodName := ⟨RX3, "other", "()I"⟩
abbrev cX3_hear : ByteArray := prog_1_method_21_code
def yX3_hear : MethodName := ⟨RX3, "hear", "(III)I"⟩
abbrev cX3_forget : ByteArray := prog_1_method_22_code
def yX3_forget : MethodName := ⟨RX3, "forget", "()I"⟩
abbrev cX3_which : ByteArray := prog_1_method_23_code
def yX3_which : MethodName := ⟨RX3, "which", "()I"⟩
abbrev cX3_kinds : ByteArray := prog_1_method_24_code
def yX3_kinds : MethodName := ⟨RX3, "kinds", "(I)I"⟩
abbrev cX3_hail : ByteArray := prog_1_method_25_code
def yX3_hail : MethodName := ⟨RX3, "hail", "(IIII)I"⟩
abbrev cX3_year : ByteArray := prog_1_method_26_code
def yX3_year : MethodName := ⟨RX3, "year", "(III)I"⟩
abbrev cX3_keep : ByteArray := prog_1_method_27_code
def yX3_keep : MethodName := ⟨RX3, "keep", "()I"⟩
abbrev cX3_back : ByteArray := prog_1_method_28_code
def yX3_back : MethodName := ⟨RX3, "back", "()I"⟩
abbrev cX3_count : ByteArray := prog_1_method_29_code
def yX3_count : MethodName := ⟨RX3, "count", "(I)I"⟩
abbrev cX3_copyInto : ByteArray := prog_1_method_30_code
def yX3_copyInto : MethodName := ⟨RX3, "copyInto", "(LLastTongue$Table;)V"⟩
abbrev cX3_startLevels : ByteArray := prog_1_method_31_code
def yX3_startLevels : MethodName := ⟨RX3, "startLevels", "()V"⟩
abbrev cX3_noteAct : ByteArray := prog_1_method_32_code
def yX3_noteAct : MethodName := ⟨RX3, "noteAct", "()V"⟩
abbrev cX3_rightOnceMended : ByteArray := prog_1_method_33_code
def yX3_rightOnceMended : MethodName := ⟨RX3, "rightOnceMended", "(II)I"⟩
abbrev cX3_comparePairs : ByteArray := prog_1_method_34_code
def yX3_comparePairs : MethodName := ⟨RX3, "comparePairs", "()I"⟩
abbrev cX3_partsAll : ByteArray := prog_1_method_35_code
def yX3_partsAll : MethodName := ⟨RX3, "partsAll", "(II)Z"⟩
abbrev cX3_bestFrom : ByteArray := prog_1_method_36_code
def yX3_bestFrom : MethodName := ⟨RX3, "bestFrom", "([LLastTongue$Table;IIII)I"⟩
abbrev cX3_hailFrom : ByteArray := prog_1_method_37_code
def yX3_hailFrom : MethodName := ⟨RX3, "hailFrom", "([LLastTongue$Table;IIII)I"⟩
abbrev cX3_draw : ByteArray := prog_1_method_38_code
def yX3_draw : MethodName := ⟨RX3, "draw", "(II)I"⟩
abbrev cX3_commonPart : ByteArray := prog_1_method_39_code
def yX3_commonPart : MethodName := ⟨RX3, "commonPart", "(II)I"⟩
abbrev cX3_tables : ByteArray := prog_1_method_40_code
def yX3_tables : MethodName := ⟨RX3, "tables", "(I)[LLastTongue$Table;"⟩
abbrev cX3_tableAt : ByteArray := prog_1_method_41_code
def yX3_tableAt : MethodName := ⟨RX3, "tableAt", "([LLastTongue$Table;I)LLastTongue$Table;"⟩
abbrev cX3_at : ByteArray := prog_1_method_42_code
def yX3_at : MethodName := ⟨RX3, "at", "([II)I"⟩
abbrev cX3_put : ByteArray := prog_1_method_43_code
def yX3_put : MethodName := ⟨RX3, "put", "([III)V"⟩
abbrev cX3_copyRow : ByteArray := prog_1_method_44_code
def yX3_copyRow : MethodName := ⟨RX3, "copyRow", "([I[I)V"⟩
abbrev cX3_swap : ByteArray := prog_1_method_45_code
def yX3_swap : MethodName := ⟨RX3, "swap", "([III)V"⟩
def RX4 : String := "LastTongueModel"
def TX4 : u_T := fun k => match k with
  | 0 => ("LastTongueModel", "words", "I", false)
  | 1 => ("LastTongueModel", "sounds", "[I", true)
  | 2 => ("LastTongueModel", "many", "I", false)
  | 3 => ("LastTongueModel", "enough", "I", false)
  | 4 => ("LastTongueModel", "newWords", "I", false)
  | 5 => ("LastTongueModel", "newSounds", "[I", true)
  | 6 => ("LastTongueModel", "newMany", "I", false)
  | 7 => ("LastTongueModel", "newEnough", "I", false)
  | 8 => ("LastTongueModel", "slot", "[I", true)
  | 9 => ("LastTongueModel", "acts", "I", false)
  | 10 => ("LastTongueModel", "keeps", "I", false)
  | 11 => ("LastTongueModel", "length", "I", false)
  | 12 => ("LastTongueModel", "text", "[B", true)
  | 13 => ("LastTongueModel", "at", "I", false)
  | 14 => ("LastTongueModel", "begin", "I", false)
  | 15 => ("LastTongueModel", "isWrong", "Z", false)
  | 16 => ("LastTongueModel", "heards", "I", false)
  | 17 => ("LastTongueModel", "heardWord", "[I", true)
  | 18 => ("LastTongueModel", "heardSound", "[I", true)
  | 19 => ("LastTongueModel", "heardDay", "[I", true)
  | 20 => ("LastTongueModel", "tells", "[I", true)
  | _ => ("LastTongueModel", "how", "[I", true)
def tyX4 : Nat → FieldType := fun k => match k with
  | 0 => .int
  | 1 => .array .int
  | 2 => .int
  | 3 => .int
  | 4 => .int
  | 5 => .array .int
  | 6 => .int
  | 7 => .int
  | 8 => .array .int
  | 9 => .int
  | 10 => .int
  | 11 => .int
  | 12 => .array .byte
  | 13 => .int
  | 14 => .int
  | 15 => .boolean
  | 16 => .int
  | 17 => .array .int
  | 18 => .array .int
  | 19 => .array .int
  | 20 => .array .int
  | _ => .array .int
abbrev wsX40 : List Cond := u_ws RX4 TX4 22
theorem nmX4 : ∀ a, a < 22 → ∀ b, b < 22 → a ≠ b → (TX4 a).2.1 ≠ (TX4 b).2.1 := by decide +kernel
theorem tyX4_ok : ∀ k, k < 22 → parseFieldDescriptor (TX4 k).2.2.1 = some (tyX4 k) := by decide +kernel
abbrev cX4_init : ByteArray := prog_6_method_1_code
def yX4_init : MethodName := ⟨RX4, "<init>", "()V"⟩
abbrev cX4_in : ByteArray := prog_6_method_2_code
def yX4_in : MethodName := ⟨RX4, "in", "(JJJ)Z"⟩
abbrev cX4_smaller : ByteArray := prog_6_method_3_code
def yX4_smaller : MethodName := ⟨RX4, "smaller", "(II)I"⟩
abbrev cX4_larger : ByteArray := prog_6_method_4_code
def yX4_larger : MethodName := ⟨RX4, "larger", "(II)I"⟩
abbrev cX4_bits : ByteArray := prog_6_method_5_code
def yX4_bits : MethodName := ⟨RX4, "bits", "(I)I"⟩
abbrev cX4_clears : ByteArray := prog_6_method_6_code
def yX4_clears : MethodName := ⟨RX4, "clears", "()V"⟩
abbrev cX4_sits : ByteArray := prog_6_method_7_code
def yX4_sits : MethodName := ⟨RX4, "sits", "(II)V"⟩
abbrev cX4_has : ByteArray := prog_6_method_8_code
def yX4_has : MethodName := ⟨RX4, "has", "(II)V"⟩
abbrev cX4_settles : ByteArray := prog_6_method_9_code
def yX4_settles : MethodName := ⟨RX4, "settles", "()V"⟩
abbrev cX4_copies : ByteArray := prog_6_method_10_code
def yX4_copies : MethodName := ⟨RX4, "copies", "(II)V"⟩
abbrev cX4_isWord : ByteArray := prog_6_method_11_code
def yX4_isWord : MethodName := ⟨RX4, "isWord", "(I)Z"⟩
abbrev cX4_isOne : ByteArray := prog_6_method_12_code
def yX4_isOne : MethodName := ⟨RX4, "isOne", "(I)Z"⟩
abbrev cX4_write : ByteArray := prog_6_method_13_code
def yX4_write : MethodName := ⟨RX4, "write", "(I)I"⟩
abbrev cX4_wipe : ByteArray := prog_6_method_14_code
def yX4_wipe : MethodName := ⟨RX4, "wipe", "()I"⟩
abbrev cX4_next : ByteArray := prog_6_method_15_code
def yX4_next : MethodName := ⟨RX4, "next", "()I"⟩
abbrev cX4_number : ByteArray := prog_6_method_16_code
def yX4_number : MethodName := ⟨RX4, "number", "(II)I"⟩
abbrev cX4_more : ByteArray := prog_6_method_17_code
def yX4_more : MethodName := ⟨RX4, "more", "(II)I"⟩
abbrev cX4_tongueItem : ByteArray := prog_6_method_18_code
def yX4_tongueItem : MethodName := ⟨RX4, "tongueItem", "()V"⟩
abbrev cX4_wooerItem : ByteArray := prog_6_method_19_code
def yX4_wooerItem : MethodName := ⟨RX4, "wooerItem", "()V"⟩
abbrev cX4_item : ByteArray := prog_6_method_20_code
def yX4_item : MethodName := ⟨RX4, "item", "(IZ)Z"⟩
abbrev cX4_reads : ByteArray := prog_6_method_21_code
def yX4_reads : MethodName := ⟨RX4, "reads", "()Z"⟩
abbrev cX4_fault : ByteArray := prog_6_method_22_code
def yX4_fault : MethodName := ⟨RX4, "fault", "()I"⟩
abbrev cX4_lay : ByteArray := prog_6_method_23_code
def yX4_lay : MethodName := ⟨RX4, "lay", "()I"⟩
abbrev cX4_sound : ByteArray := prog_6_method_24_code
def yX4_sound : MethodName := ⟨RX4, "sound", "(I)I"⟩
abbrev cX4_hasIt : ByteArray := prog_6_method_25_code
def yX4_hasIt : MethodName := ⟨RX4, "hasIt", "(III)I"⟩
abbrev cX4_gets : ByteArray := prog_6_method_26_code
def yX4_gets : MethodName := ⟨RX4, "gets", "(IIII)V"⟩
abbrev cX4_had : ByteArray := prog_6_method_27_code
def yX4_had : MethodName := ⟨RX4, "had", "(II)I"⟩
abbrev cX4_right : ByteArray := prog_6_method_28_code
def yX4_right : MethodName := ⟨RX4, "right", "(II)I"⟩
abbrev cX4_isSpeaker : ByteArray := prog_6_method_29_code
def yX4_isSpeaker : MethodName := ⟨RX4, "isSpeaker", "(II)Z"⟩
abbrev cX4_wooer : ByteArray := prog_6_method_30_code
def yX4_wooer : MethodName := ⟨RX4, "wooer", "(II)I"⟩
abbrev cX4_word : ByteArray := prog_6_method_31_code
def yX4_word : MethodName := ⟨RX4, "word", "(III)I"⟩
abbrev cX4_known : ByteArray := prog_6_method_32_code
def yX4_known : MethodName := ⟨RX4, "known", "()V"⟩
abbrev cX4_hears : ByteArray := prog_6_method_33_code
def yX4_hears : MethodName := ⟨RX4, "hears", "(III)I"⟩
abbrev cX4_learns : ByteArray := prog_6_method_34_code
def yX4_learns : MethodName := ⟨RX4, "learns", "(III)V"⟩
abbrev cX4_lesson : ByteArray := prog_6_method_35_code
def yX4_lesson : MethodName := ⟨RX4, "lesson", "(II)I"⟩
abbrev cX4_tellings : ByteArray := prog_6_method_36_code
def yX4_tellings : MethodName := ⟨RX4, "tellings", "(IZ)V"⟩
abbrev cX4_grows : ByteArray := prog_6_method_37_code
def yX4_grows : MethodName := ⟨RX4, "grows", "(II)V"⟩
abbrev cX4_goesOn : ByteArray := prog_6_method_38_code
def yX4_goesOn : MethodName := ⟨RX4, "goesOn", "(IZ)V"⟩
abbrev cX4_days : ByteArray := prog_6_method_39_code
def yX4_days : MethodName := ⟨RX4, "days", "(II)V"⟩
abbrev cX4_speakers : ByteArray := prog_6_method_40_code
def yX4_speakers : MethodName := ⟨RX4, "speakers", "(I)I"⟩
abbrev cX4_rights : ByteArray := prog_6_method_41_code
def yX4_rights : MethodName := ⟨RX4, "rights", "(I)I"⟩
abbrev cX4_pass : ByteArray := prog_6_method_42_code
def yX4_pass : MethodName := ⟨RX4, "pass", "(I)I"⟩
abbrev cX4_canMend : ByteArray := prog_6_method_43_code
def yX4_canMend : MethodName := ⟨RX4, "canMend", "(III)Z"⟩
abbrev cX4_mend : ByteArray := prog_6_method_44_code
def yX4_mend : MethodName := ⟨RX4, "mend", "(II)I"⟩
abbrev cX4_swaps : ByteArray := prog_6_method_45_code
def yX4_swaps : MethodName := ⟨RX4, "swaps", "(III)V"⟩
abbrev cX4_change : ByteArray := prog_6_method_46_code
def yX4_change : MethodName := ⟨RX4, "change", "(II)I"⟩
abbrev cX4_undo : ByteArray := prog_6_method_47_code
def yX4_undo : MethodName := ⟨RX4, "undo", "()I"⟩
abbrev cX4_behind : ByteArray := prog_6_method_48_code
def yX4_behind : MethodName := ⟨RX4, "behind", "(III)I"⟩
abbrev cX4_made : ByteArray := prog_6_method_49_code
def yX4_made : MethodName := ⟨RX4, "made", "(I)I"⟩
abbrev cX4_best : ByteArray := prog_6_method_50_code
def yX4_best : MethodName := ⟨RX4, "best", "(III)I"⟩
abbrev cX4_mends : ByteArray := prog_6_method_51_code
def yX4_mends : MethodName := ⟨RX4, "mends", "(I)I"⟩
abbrev cX4_two : ByteArray := prog_6_method_52_code
def yX4_two : MethodName := ⟨RX4, "two", "(I)I"⟩
abbrev cX4_isApart : ByteArray := prog_6_method_53_code
def yX4_isApart : MethodName := ⟨RX4, "isApart", "(I)Z"⟩
abbrev cX4_tests : ByteArray := prog_6_method_54_code
def yX4_tests : MethodName := ⟨RX4, "tests", "(I)I"⟩
abbrev cX4_manyHave : ByteArray := prog_6_method_55_code
def yX4_manyHave : MethodName := ⟨RX4, "manyHave", "(II)I"⟩
abbrev cX4_other : ByteArray := prog_6_method_56_code
def yX4_other : MethodName := ⟨RX4, "other", "()I"⟩
abbrev cX4_hear : ByteArray := prog_6_method_57_code
def yX4_hear : MethodName := ⟨RX4, "hear", "(III)I"⟩
abbrev cX4_forget : ByteArray := prog_6_method_58_code
def yX4_forget : MethodName := ⟨RX4, "forget", "()I"⟩
abbrev cX4_fits : ByteArray := prog_6_method_59_code
def yX4_fits : MethodName := ⟨RX4, "fits", "()I"⟩
abbrev cX4_which : ByteArray := prog_6_method_60_code
def yX4_which : MethodName := ⟨RX4, "which", "()I"⟩
abbrev cX4_kinds : ByteArray := prog_6_method_61_code
def yX4_kinds : MethodName := ⟨RX4, "kinds", "(I)I"⟩
abbrev cX4_hail : ByteArray := prog_6_method_62_code
def yX4_hail : MethodName := ⟨RX4, "hail", "(IIII)I"⟩
abbrev cX4_does : ByteArray := prog_6_method_63_code
def yX4_does : MethodName := ⟨RX4, "does", "(II)V"⟩
abbrev cX4_year : ByteArray := prog_6_method_64_code
def yX4_year : MethodName := ⟨RX4, "year", "(III)I"⟩
abbrev cX4_keep : ByteArray := prog_6_method_65_code
def yX4_keep : MethodName := ⟨RX4, "keep", "()I"⟩
abbrev cX4_back : ByteArray := prog_6_method_66_code
def yX4_back : MethodName := ⟨RX4, "back", "()I"⟩
abbrev cX4_allHad : ByteArray := prog_6_method_67_code
def yX4_allHad : MethodName := ⟨RX4, "allHad", "()I"⟩
abbrev cX4_count : ByteArray := prog_6_method_68_code
def yX4_count : MethodName := ⟨RX4, "count", "(I)I"⟩
def RJ6 : String := "java/lang/Integer"
def TJ6 : u_T := fun k => match k with
  | _ => ("", "", "", false)
def tyJ6 : Nat → FieldType := fun k => match k with
  | _ => .int
abbrev wsJ60 : List Cond := u_ws RJ6 TJ6 0
theorem nmJ6 : ∀ a, a < 0 → ∀ b, b < 0 → a ≠ b → (TJ6 a).2.1 ≠ (TJ6 b).2.1 := by decide +kernel
theorem tyJ6_ok : ∀ k, k < 0 → parseFieldDescriptor (TJ6 k).2.2.1 = some (tyJ6 k) := by decide +kernel
abbrev cJ6_bitCount_0f7a4 : ByteArray := prog_7_method_49_code
def yJ6_bitCount_0f7a4 : MethodName := ⟨RJ6, "bitCount", "(I)I"⟩
def RJ9 : String := "java/lang/Math"
def TJ9 : u_T := fun k => match k with
  | _ => ("", "", "", false)
def tyJ9 : Nat → FieldType := fun k => match k with
  | _ => .int
abbrev wsJ90 : List Cond := u_ws RJ9 TJ9 0
theorem nmJ9 : ∀ a, a < 0 → ∀ b, b < 0 → a ≠ b → (TJ9 a).2.1 ≠ (TJ9 b).2.1 := by decide +kernel
theorem tyJ9_ok : ∀ k, k < 0 → parseFieldDescriptor (TJ9 k).2.2.1 = some (tyJ9 k) := by decide +kernel
abbrev cJ9_max_7cf53 : ByteArray := prog_8_method_65_code
def yJ9_max_7cf53 : MethodName := ⟨RJ9, "max", "(II)I"⟩
abbrev cJ9_min_7cf53 : ByteArray := prog_8_method_69_code
def yJ9_min_7cf53 : MethodName := ⟨RJ9, "min", "(II)I"⟩
def RJ0 : String := "java/lang/String"
def TJ0 : u_T := fun k => match k with
  | _ => ("", "", "", false)
def tyJ0 : Nat → FieldType := fun k => match k with
  | _ => .int
abbrev wsJ00 : List Cond := u_ws RJ0 TJ0 0
theorem nmJ0 : ∀ a, a < 0 → ∀ b, b < 0 → a ≠ b → (TJ0 a).2.1 ≠ (TJ0 b).2.1 := by decide +kernel
theorem tyJ0_ok : ∀ k, k < 0 → parseFieldDescriptor (TJ0 k).2.2.1 = some (tyJ0 k) := by decide +kernel
abbrev cJ0_length_8abf5 : ByteArray := prog_9_method_54_code
def yJ0_length_8abf5 : MethodName := ⟨RJ0, "length", "()I"⟩
abbrev cJ0_charAt_5068e : ByteArray := prog_9_method_56_code
def yJ0_charAt_5068e : MethodName := ⟨RJ0, "charAt", "(I)C"⟩
abbrev cJ0_coder_7d493 : ByteArray := prog_9_method_152_code
def yJ0_coder_7d493 : MethodName := ⟨RJ0, "coder", "()B"⟩
abbrev cJ0_isLatin1_aae02 : ByteArray := prog_9_method_154_code
def yJ0_isLatin1_aae02 : MethodName := ⟨RJ0, "isLatin1", "()Z"⟩
abbrev cJ0_checkIndex_df160 : ByteArray := prog_9_method_155_code
def yJ0_checkIndex_df160 : MethodName := ⟨RJ0, "checkIndex", "(II)V"⟩
def RJ1 : String := "java/lang/StringLatin1"
def TJ1 : u_T := fun k => match k with
  | _ => ("", "", "", false)
def tyJ1 : Nat → FieldType := fun k => match k with
  | _ => .int
abbrev wsJ10 : List Cond := u_ws RJ1 TJ1 0
theorem nmJ1 : ∀ a, a < 0 → ∀ b, b < 0 → a ≠ b → (TJ1 a).2.1 ≠ (TJ1 b).2.1 := by decide +kernel
theorem tyJ1_ok : ∀ k, k < 0 → parseFieldDescriptor (TJ1 k).2.2.1 = some (tyJ1 k) := by decide +kernel
abbrev cJ1_charAt_3b067 : ByteArray := prog_10_method_2_code
def yJ1_charAt_3b067 : MethodName := ⟨RJ1, "charAt", "([BI)C"⟩
def RJ2 : String := "java/lang/StringUTF16"
def TJ2 : u_T := fun k => match k with
  | _ => ("", "", "", false)
def tyJ2 : Nat → FieldType := fun k => match k with
  | _ => .int
abbrev wsJ20 : List Cond := u_ws RJ2 TJ2 0
theorem nmJ2 : ∀ a, a < 0 → ∀ b, b < 0 → a ≠ b → (TJ2 a).2.1 ≠ (TJ2 b).2.1 := by decide +kernel
theorem tyJ2_ok : ∀ k, k < 0 → parseFieldDescriptor (TJ2 k).2.2.1 = some (tyJ2 k) := by decide +kernel
abbrev cJ2_getChar_3b067 : ByteArray := prog_11_method_5_code
def yJ2_getChar_3b067 : MethodName := ⟨RJ2, "getChar", "([BI)C"⟩
abbrev cJ2_length_9d52b : ByteArray := prog_11_method_6_code
def yJ2_length_9d52b : MethodName := ⟨RJ2, "length", "([B)I"⟩
abbrev cJ2_charAt_3b067 : ByteArray := prog_11_method_83_code
def yJ2_charAt_3b067 : MethodName := ⟨RJ2, "charAt", "([BI)C"⟩
abbrev cJ2_checkIndex_2214a : ByteArray := prog_11_method_91_code
def yJ2_checkIndex_2214a : MethodName := ⟨RJ2, "checkIndex", "(I[B)V"⟩
def RJ10 : String := "java/lang/System"
def TJ10 : u_T := fun k => match k with
  | _ => ("", "", "", false)
def tyJ10 : Nat → FieldType := fun k => match k with
  | _ => .int
abbrev wsJ100 : List Cond := u_ws RJ10 TJ10 0
theorem nmJ10 : ∀ a, a < 0 → ∀ b, b < 0 → a ≠ b → (TJ10 a).2.1 ≠ (TJ10 b).2.1 := by decide +kernel
theorem tyJ10_ok : ∀ k, k < 0 → parseFieldDescriptor (TJ10 k).2.2.1 = some (tyJ10 k) := by decide +kernel
def RJ3 : String := "jdk/internal/util/Preconditions"
def TJ3 : u_T := fun k => match k with
  | _ => ("", "", "", false)
def tyJ3 : Nat → FieldType := fun k => match k with
  | _ => .int
abbrev wsJ30 : List Cond := u_ws RJ3 TJ3 0
theorem nmJ3 : ∀ a, a < 0 → ∀ b, b < 0 → a ≠ b → (TJ3 a).2.1 ≠ (TJ3 b).2.1 := by decide +kernel
theorem tyJ3_ok : ∀ k, k < 0 → parseFieldDescriptor (TJ3 k).2.2.1 = some (tyJ3 k) := by decide +kernel
abbrev cJ3_checkIndex_8e157 : ByteArray := prog_13_method_11_code
def yJ3_checkIndex_8e157 : MethodName := ⟨RJ3, "checkIndex", "(IILjava/util/function/BiFunction;)I"⟩
def RL : String := "LastTongueLaw"
abbrev cL_law : ByteArray := code
def yL_law : MethodName := ⟨RL, "law", "([I)Z"⟩
theorem inX0 : ∀ w ∈ wsX00, w ∈ lw_tbl := by decide +kernel
theorem inX1 : ∀ w ∈ wsX10, w ∈ lw_tbl := by decide +kernel
theorem inX2 : ∀ w ∈ wsX20, w ∈ lw_tbl := by decide +kernel
theorem inX3 : ∀ w ∈ wsX30, w ∈ lw_tbl := by decide +kernel
theorem inX4 : ∀ w ∈ wsX40, w ∈ lw_tbl := by decide +kernel
theorem dX0_init_0 : decode cX0_init 0 = .ok (.aload_n 0, 1) := by decide +kernel
theorem dX0_init_1 : decode cX0_init 1 = .ok (.invokespecial 3, 3) := by decide +kernel
theorem dX0_init_4 : decode cX0_init 4 = .ok (.aload_n 0, 1) := by decide +kernel
theorem dX0_init_5 : decode cX0_init 5 = .ok (.bipush 6, 2) := by decide +kernel
theorem dX0_init_7 : decode cX0_init 7 = .ok (.newarray .int, 2) := by decide +kernel
theorem dX0_init_9 : decode cX0_init 9 = .ok (.putfield 9, 3) := by decide +kernel
theorem dX0_init_12 : decode cX0_init 12 = .ok (.aload_n 0, 1) := by decide +kernel
theorem dX0_init_13 : decode cX0_init 13 = .ok (.bipush 6, 2) := by decide +kernel
theorem dX0_init_15 : decode cX0_init 15 = .ok (.newarray .int, 2) := by decide +kernel
theorem dX0_init_17 : decode cX0_init 17 = .ok (.putfield 15, 3) := by decide +kernel
theorem dX0_init_20 : decode cX0_init 20 = .ok (.aload_n 0, 1) := by decide +kernel
theorem dX0_init_21 : decode cX0_init 21 = .ok (.bipush 6, 2) := by decide +kernel
theorem dX0_init_23 : decode cX0_init 23 = .ok (.newarray .int, 2) := by decide +kernel
theorem dX0_init_25 : decode cX0_init 25 = .ok (.putfield 18, 3) := by decide +kernel
theorem dX0_init_28 : decode cX0_init 28 = .ok (.aload_n 0, 1) := by decide +kernel
theorem dX0_init_29 : decode cX0_init 29 = .ok (.iconst 0, 1) := by decide +kernel
theorem dX0_init_30 : decode cX0_init 30 = .ok (.putfield 21, 3) := by decide +kernel
theorem dX0_init_33 : decode cX0_init 33 = .ok (.return_, 1) := by decide +kernel
theorem dX0_add_0 : decode cX0_add 0 = .ok (.aload_n 0, 1) := by decide +kernel
theorem dX0_add_1 : decode cX0_add 1 = .ok (.getfield 21, 3) := by decide +kernel
theorem dX0_add_4 : decode cX0_add 4 = .ok (.bipush 6, 2) := by decide +kernel
theorem dX0_add_6 : decode cX0_add 6 = .ok (.if_icmp .lt 5, 3) := by decide +kernel
theorem dX0_add_9 : decode cX0_add 9 = .ok (.iconst 0, 1) := by decide +kernel
theorem dX0_add_10 : decode cX0_add 10 = .ok (.ireturn, 1) := by decide +kernel
theorem dX0_add_11 : decode cX0_add 11 = .ok (.aload_n 0, 1) := by decide +kernel
theorem dX0_add_12 : decode cX0_add 12 = .ok (.getfield 9, 3) := by decide +kernel
theorem dX0_add_15 : decode cX0_add 15 = .ok (.aload_n 0, 1) := by decide +kernel
theorem dX0_add_16 : decode cX0_add 16 = .ok (.getfield 21, 3) := by decide +kernel
theorem dX0_add_19 : decode cX0_add 19 = .ok (.iload_n 1, 1) := by decide +kernel
theorem dX0_add_20 : decode cX0_add 20 = .ok (.invokestatic 25, 3) := by decide +kernel
theorem dX0_add_23 : decode cX0_add 23 = .ok (.aload_n 0, 1) := by decide +kernel
theorem dX0_add_24 : decode cX0_add 24 = .ok (.getfield 15, 3) := by decide +kernel
theorem dX0_add_27 : decode cX0_add 27 = .ok (.aload_n 0, 1) := by decide +kernel
theorem dX0_add_28 : decode cX0_add 28 = .ok (.getfield 21, 3) := by decide +kernel
theorem dX0_add_31 : decode cX0_add 31 = .ok (.iload_n 2, 1) := by decide +kernel
theorem dX0_add_32 : decode cX0_add 32 = .ok (.invokestatic 25, 3) := by decide +kernel
theorem dX0_add_35 : decode cX0_add 35 = .ok (.aload_n 0, 1) := by decide +kernel
theorem dX0_add_36 : decode cX0_add 36 = .ok (.getfield 18, 3) := by decide +kernel
theorem dX0_add_39 : decode cX0_add 39 = .ok (.aload_n 0, 1) := by decide +kernel
theorem dX0_add_40 : decode cX0_add 40 = .ok (.getfield 21, 3) := by decide +kernel
theorem dX0_add_43 : decode cX0_add 43 = .ok (.iload_n 3, 1) := by decide +kernel
theorem dX0_add_44 : decode cX0_add 44 = .ok (.invokestatic 25, 3) := by decide +kernel
theorem dX0_add_47 : decode cX0_add 47 = .ok (.aload_n 0, 1) := by decide +kernel
theorem dX0_add_48 : decode cX0_add 48 = .ok (.dup, 1) := by decide +kernel
theorem dX0_add_49 : decode cX0_add 49 = .ok (.getfield 21, 3) := by decide +kernel
theorem dX0_add_52 : decode cX0_add 52 = .ok (.iconst 1, 1) := by decide +kernel
theorem dX0_add_53 : decode cX0_add 53 = .ok (.iadd, 1) := by decide +kernel
theorem dX0_add_54 : decode cX0_add 54 = .ok (.putfield 21, 3) := by decide +kernel
theorem dX0_add_57 : decode cX0_add 57 = .ok (.iconst 1, 1) := by decide +kernel
theorem dX0_add_58 : decode cX0_add 58 = .ok (.ireturn, 1) := by decide +kernel
theorem dX0_lastDay_0 : decode cX0_lastDay 0 = .ok (.iconst 0, 1) := by decide +kernel
theorem dX0_lastDay_1 : decode cX0_lastDay 1 = .ok (.istore_n 1, 1) := by decide +kernel
theorem dX0_lastDay_2 : decode cX0_lastDay 2 = .ok (.iconst 0, 1) := by decide +kernel
theorem dX0_lastDay_3 : decode cX0_lastDay 3 = .ok (.istore_n 2, 1) := by decide +kernel
theorem dX0_lastDay_4 : decode cX0_lastDay 4 = .ok (.iload_n 2, 1) := by decide +kernel
theorem dX0_lastDay_5 : decode cX0_lastDay 5 = .ok (.aload_n 0, 1) := by decide +kernel
theorem dX0_lastDay_6 : decode cX0_lastDay 6 = .ok (.getfield 21, 3) := by decide +kernel
theorem dX0_lastDay_9 : decode cX0_lastDay 9 = .ok (.if_icmp .ge 22, 3) := by decide +kernel
theorem dX0_lastDay_12 : decode cX0_lastDay 12 = .ok (.iload_n 1, 1) := by decide +kernel
theorem dX0_lastDay_13 : decode cX0_lastDay 13 = .ok (.aload_n 0, 1) := by decide +kernel
theorem dX0_lastDay_14 : decode cX0_lastDay 14 = .ok (.getfield 18, 3) := by decide +kernel
theorem dX0_lastDay_17 : decode cX0_lastDay 17 = .ok (.iload_n 2, 1) := by decide +kernel
theorem dX0_lastDay_18 : decode cX0_lastDay 18 = .ok (.invokestatic 29, 3) := by decide +kernel
theorem dX0_lastDay_21 : decode cX0_lastDay 21 = .ok (.invokestatic 33, 3) := by decide +kernel
theorem dX0_lastDay_24 : decode cX0_lastDay 24 = .ok (.istore_n 1, 1) := by decide +kernel
theorem dX0_lastDay_25 : decode cX0_lastDay 25 = .ok (.iinc 2 1, 3) := by decide +kernel
theorem dX0_lastDay_28 : decode cX0_lastDay 28 = .ok (.goto (-24), 3) := by decide +kernel
theorem dX0_lastDay_31 : decode cX0_lastDay 31 = .ok (.iload_n 1, 1) := by decide +kernel
theorem dX0_lastDay_32 : decode cX0_lastDay 32 = .ok (.ireturn, 1) := by decide +kernel
theorem dX0_fitting_0 : decode cX0_fitting 0 = .ok (.aload_n 1, 1) := by decide +kernel
theorem dX0_fitting_1 : decode cX0_fitting 1 = .ok (.ifnonnull 5, 3) := by decide +kernel
theorem dX0_fitting_4 : decode cX0_fitting 4 = .ok (.iconst 0, 1) := by decide +kernel
theorem dX0_fitting_5 : decode cX0_fitting 5 = .ok (.ireturn, 1) := by decide +kernel
theorem dX0_fitting_6 : decode cX0_fitting 6 = .ok (.iconst 1, 1) := by decide +kernel
theorem dX0_fitting_7 : decode cX0_fitting 7 = .ok (.aload_n 1, 1) := by decide +kernel
theorem dX0_fitting_8 : decode cX0_fitting 8 = .ok (.getfield 39, 3) := by decide +kernel
theorem dX0_fitting_11 : decode cX0_fitting 11 = .ok (.ishl, 1) := by decide +kernel
theorem dX0_fitting_12 : decode cX0_fitting 12 = .ok (.iconst 1, 1) := by decide +kernel
theorem dX0_fitting_13 : decode cX0_fitting 13 = .ok (.isub, 1) := by decide +kernel
theorem dX0_fitting_14 : decode cX0_fitting 14 = .ok (.istore_n 2, 1) := by decide +kernel
theorem dX0_fitting_15 : decode cX0_fitting 15 = .ok (.aload_n 0, 1) := by decide +kernel
theorem dX0_fitting_16 : decode cX0_fitting 16 = .ok (.invokevirtual 44, 3) := by decide +kernel
theorem dX0_fitting_19 : decode cX0_fitting 19 = .ok (.istore_n 3, 1) := by decide +kernel
theorem dX0_fitting_20 : decode cX0_fitting 20 = .ok (.iconst 0, 1) := by decide +kernel
theorem dX0_fitting_21 : decode cX0_fitting 21 = .ok (.istore 4, 2) := by decide +kernel
theorem dX0_fitting_23 : decode cX0_fitting 23 = .ok (.iload 4, 2) := by decide +kernel
theorem dX0_fitting_25 : decode cX0_fitting 25 = .ok (.iload_n 3, 1) := by decide +kernel
theorem dX0_fitting_26 : decode cX0_fitting 26 = .ok (.if_icmp .gt 71, 3) := by decide +kernel
theorem dX0_fitting_29 : decode cX0_fitting 29 = .ok (.iconst 0, 1) := by decide +kernel
theorem dX0_fitting_30 : decode cX0_fitting 30 = .ok (.istore 5, 2) := by decide +kernel
theorem dX0_fitting_32 : decode cX0_fitting 32 = .ok (.iload 5, 2) := by decide +kernel
theorem dX0_fitting_34 : decode cX0_fitting 34 = .ok (.aload_n 0, 1) := by decide +kernel
theorem dX0_fitting_35 : decode cX0_fitting 35 = .ok (.getfield 21, 3) := by decide +kernel
theorem dX0_fitting_38 : decode cX0_fitting 38 = .ok (.if_icmp .ge 48, 3) := by decide +kernel
theorem dX0_fitting_41 : decode cX0_fitting 41 = .ok (.aload_n 0, 1) := by decide +kernel
theorem dX0_fitting_42 : decode cX0_fitting 42 = .ok (.getfield 18, 3) := by decide +kernel
theorem dX0_fitting_45 : decode cX0_fitting 45 = .ok (.iload 5, 2) := by decide +kernel
theorem dX0_fitting_47 : decode cX0_fitting 47 = .ok (.invokestatic 29, 3) := by decide +kernel
theorem dX0_fitting_50 : decode cX0_fitting 50 = .ok (.iload 4, 2) := by decide +kernel
theorem dX0_fitting_52 : decode cX0_fitting 52 = .ok (.if_icmp .ne 28, 3) := by decide +kernel
theorem dX0_fitting_55 : decode cX0_fitting 55 = .ok (.iload_n 2, 1) := by decide +kernel
theorem dX0_fitting_56 : decode cX0_fitting 56 = .ok (.aload_n 1, 1) := by decide +kernel
theorem dX0_fitting_57 : decode cX0_fitting 57 = .ok (.aload_n 0, 1) := by decide +kernel
theorem dX0_fitting_58 : decode cX0_fitting 58 = .ok (.getfield 9, 3) := by decide +kernel
theorem dX0_fitting_61 : decode cX0_fitting 61 = .ok (.iload 5, 2) := by decide +kernel
theorem dX0_fitting_63 : decode cX0_fitting 63 = .ok (.invokestatic 29, 3) := by decide +kernel
theorem dX0_fitting_66 : decode cX0_fitting 66 = .ok (.aload_n 0, 1) := by decide +kernel
theorem dX0_fitting_67 : decode cX0_fitting 67 = .ok (.getfield 15, 3) := by decide +kernel
theorem dX0_fitting_70 : decode cX0_fitting 70 = .ok (.iload 5, 2) := by decide +kernel
theorem dX0_fitting_72 : decode cX0_fitting 72 = .ok (.invokestatic 29, 3) := by decide +kernel
theorem dX0_fitting_75 : decode cX0_fitting 75 = .ok (.invokevirtual 48, 3) := by decide +kernel
theorem dX0_fitting_78 : decode cX0_fitting 78 = .ok (.iand, 1) := by decide +kernel
theorem dX0_fitting_79 : decode cX0_fitting 79 = .ok (.istore_n 2, 1) := by decide +kernel
theorem dX0_fitting_80 : decode cX0_fitting 80 = .ok (.iinc 5 1, 3) := by decide +kernel
theorem dX0_fitting_83 : decode cX0_fitting 83 = .ok (.goto (-51), 3) := by decide +kernel
theorem dX0_fitting_86 : decode cX0_fitting 86 = .ok (.aload_n 1, 1) := by decide +kernel
theorem dX0_fitting_87 : decode cX0_fitting 87 = .ok (.iconst 1, 1) := by decide +kernel
theorem dX0_fitting_88 : decode cX0_fitting 88 = .ok (.invokevirtual 51, 3) := by decide +kernel
theorem dX0_fitting_91 : decode cX0_fitting 91 = .ok (.iinc 4 1, 3) := by decide +kernel
theorem dX0_fitting_94 : decode cX0_fitting 94 = .ok (.goto (-71), 3) := by decide +kernel
theorem dX0_fitting_97 : decode cX0_fitting 97 = .ok (.iload_n 2, 1) := by decide +kernel
theorem dX0_fitting_98 : decode cX0_fitting 98 = .ok (.ireturn, 1) := by decide +kernel
theorem dX1_init_0 : decode cX1_init 0 = .ok (.aload_n 0, 1) := by decide +kernel
theorem dX1_init_1 : decode cX1_init 1 = .ok (.invokespecial 3, 3) := by decide +kernel
theorem dX1_init_4 : decode cX1_init 4 = .ok (.aload_n 0, 1) := by decide +kernel
theorem dX1_init_5 : decode cX1_init 5 = .ok (.bipush 8, 2) := by decide +kernel
theorem dX1_init_7 : decode cX1_init 7 = .ok (.newarray .int, 2) := by decide +kernel
theorem dX1_init_9 : decode cX1_init 9 = .ok (.putfield 9, 3) := by decide +kernel
theorem dX1_init_12 : decode cX1_init 12 = .ok (.aload_n 0, 1) := by decide +kernel
theorem dX1_init_13 : decode cX1_init 13 = .ok (.iconst 5, 1) := by decide +kernel
theorem dX1_init_14 : decode cX1_init 14 = .ok (.newarray .int, 2) := by decide +kernel
theorem dX1_init_16 : decode cX1_init 16 = .ok (.putfield 15, 3) := by decide +kernel
theorem dX1_init_19 : decode cX1_init 19 = .ok (.aload_n 0, 1) := by decide +kernel
theorem dX1_init_20 : decode cX1_init 20 = .ok (.iconst 5, 1) := by decide +kernel
theorem dX1_init_21 : decode cX1_init 21 = .ok (.newarray .int, 2) := by decide +kernel
theorem dX1_init_23 : decode cX1_init 23 = .ok (.putfield 18, 3) := by decide +kernel
theorem dX1_init_26 : decode cX1_init 26 = .ok (.aload_n 0, 1) := by decide +kernel
theorem dX1_init_27 : decode cX1_init 27 = .ok (.iconst 5, 1) := by decide +kernel
theorem dX1_init_28 : decode cX1_init 28 = .ok (.newarray .int, 2) := by decide +kernel
theorem dX1_init_30 : decode cX1_init 30 = .ok (.putfield 21, 3) := by decide +kernel
theorem dX1_init_33 : decode cX1_init 33 = .ok (.aload_n 0, 1) := by decide +kernel
theorem dX1_init_34 : decode cX1_init 34 = .ok (.iconst 5, 1) := by decide +kernel
theorem dX1_init_35 : decode cX1_init 35 = .ok (.newarray .int, 2) := by decide +kernel
theorem dX1_init_37 : decode cX1_init 37 = .ok (.putfield 24, 3) := by decide +kernel
theorem dX1_init_40 : decode cX1_init 40 = .ok (.aload_n 0, 1) := by decide +kernel
theorem dX1_init_41 : decode cX1_init 41 = .ok (.bipush 40, 2) := by decide +kernel
theorem dX1_init_43 : decode cX1_init 43 = .ok (.newarray .int, 2) := by decide +kernel
theorem dX1_init_45 : decode cX1_init 45 = .ok (.putfield 27, 3) := by decide +kernel
theorem dX1_init_48 : decode cX1_init 48 = .ok (.aload_n 0, 1) := by decide +kernel
theorem dX1_init_49 : decode cX1_init 49 = .ok (.bipush 40, 2) := by decide +kernel
theorem dX1_init_51 : decode cX1_init 51 = .ok (.newarray .int, 2) := by decide +kernel
theorem dX1_init_53 : decode cX1_init 53 = .ok (.putfield 30, 3) := by decide +kernel
theorem dX1_init_56 : decode cX1_init 56 = .ok (.aload_n 0, 1) := by decide +kernel
theorem dX1_init_57 : decode cX1_init 57 = .ok (.iconst 5, 1) := by decide +kernel
theorem dX1_init_58 : decode cX1_init 58 = .ok (.newarray .int, 2) := by decide +kernel
theorem dX1_init_60 : decode cX1_init 60 = .ok (.putfield 33, 3) := by decide +kernel
theorem dX1_init_63 : decode cX1_init 63 = .ok (.aload_n 0, 1) := by decide +kernel
theorem dX1_init_64 : decode cX1_init 64 = .ok (.iconst 0, 1) := by decide +kernel
theorem dX1_init_65 : decode cX1_init 65 = .ok (.putfield 36, 3) := by decide +kernel
theorem dX1_init_68 : decode cX1_init 68 = .ok (.aload_n 0, 1) := by decide +kernel
theorem dX1_init_69 : decode cX1_init 69 = .ok (.iconst 0, 1) := by decide +kernel
theorem dX1_init_70 : decode cX1_init 70 = .ok (.putfield 40, 3) := by decide +kernel
theorem dX1_init_73 : decode cX1_init 73 = .ok (.aload_n 0, 1) := by decide +kernel
theorem dX1_init_74 : decode cX1_init 74 = .ok (.iconst 3, 1) := by decide +kernel
theorem dX1_init_75 : decode cX1_init 75 = .ok (.putfield 43, 3) := by decide +kernel
theorem dX1_init_78 : decode cX1_init 78 = .ok (.aload_n 0, 1) := by decide +kernel
theorem dX1_init_79 : decode cX1_init 79 = .ok (.iconst 0, 1) := by decide +kernel
theorem dX1_init_80 : decode cX1_init 80 = .ok (.putfield 46, 3) := by decide +kernel
theorem dX1_init_83 : decode cX1_init 83 = .ok (.return_, 1) := by decide +kernel
theorem dX1_clear_0 : decode cX1_clear 0 = .ok (.aload_n 0, 1) := by decide +kernel
theorem dX1_clear_1 : decode cX1_clear 1 = .ok (.iconst 0, 1) := by decide +kernel
theorem dX1_clear_2 : decode cX1_clear 2 = .ok (.putfield 36, 3) := by decide +kernel
theorem dX1_clear_5 : decode cX1_clear 5 = .ok (.aload_n 0, 1) := by decide +kernel
theorem dX1_clear_6 : decode cX1_clear 6 = .ok (.iconst 0, 1) := by decide +kernel
theorem dX1_clear_7 : decode cX1_clear 7 = .ok (.putfield 40, 3) := by decide +kernel
theorem dX1_clear_10 : decode cX1_clear 10 = .ok (.aload_n 0, 1) := by decide +kernel
theorem dX1_clear_11 : decode cX1_clear 11 = .ok (.iconst 3, 1) := by decide +kernel
theorem dX1_clear_12 : decode cX1_clear 12 = .ok (.putfield 43, 3) := by decide +kernel
theorem dX1_clear_15 : decode cX1_clear 15 = .ok (.aload_n 0, 1) := by decide +kernel
theorem dX1_clear_16 : decode cX1_clear 16 = .ok (.iconst 0, 1) := by decide +kernel
theorem dX1_clear_17 : decode cX1_clear 17 = .ok (.putfield 46, 3) := by decide +kernel
theorem dX1_clear_20 : decode cX1_clear 20 = .ok (.return_, 1) := by decide +kernel
theorem dX1_copy_0 : decode cX1_copy 0 = .ok (.aload_n 1, 1) := by decide +kernel
theorem dX1_copy_1 : decode cX1_copy 1 = .ok (.ifnonnull 4, 3) := by decide +kernel
theorem dX1_copy_4 : decode cX1_copy 4 = .ok (.return_, 1) := by decide +kernel
theorem dX1_copy_5 : decode cX1_copy 5 = .ok (.aload_n 1, 1) := by decide +kernel
theorem dX1_copy_6 : decode cX1_copy 6 = .ok (.getfield 9, 3) := by decide +kernel
theorem dX1_copy_9 : decode cX1_copy 9 = .ok (.aload_n 0, 1) := by decide +kernel
theorem dX1_copy_10 : decode cX1_copy 10 = .ok (.getfield 9, 3) := by decide +kernel
theorem dX1_copy_13 : decode cX1_copy 13 = .ok (.invokestatic 49, 3) := by decide +kernel
theorem dX1_copy_16 : decode cX1_copy 16 = .ok (.aload_n 1, 1) := by decide +kernel
theorem dX1_copy_17 : decode cX1_copy 17 = .ok (.getfield 15, 3) := by decide +kernel
theorem dX1_copy_20 : decode cX1_copy 20 = .ok (.aload_n 0, 1) := by decide +kernel
theorem dX1_copy_21 : decode cX1_copy 21 = .ok (.getfield 15, 3) := by decide +kernel
theorem dX1_copy_24 : decode cX1_copy 24 = .ok (.invokestatic 49, 3) := by decide +kernel
theorem dX1_copy_27 : decode cX1_copy 27 = .ok (.aload_n 1, 1) := by decide +kernel
theorem dX1_copy_28 : decode cX1_copy 28 = .ok (.getfield 18, 3) := by decide +kernel
theorem dX1_copy_31 : decode cX1_copy 31 = .ok (.aload_n 0, 1) := by decide +kernel
theorem dX1_copy_32 : decode cX1_copy 32 = .ok (.getfield 18, 3) := by decide +kernel
theorem dX1_copy_35 : decode cX1_copy 35 = .ok (.invokestatic 49, 3) := by decide +kernel
theorem dX1_copy_38 : decode cX1_copy 38 = .ok (.aload_n 1, 1) := by decide +kernel
theorem dX1_copy_39 : decode cX1_copy 39 = .ok (.getfield 21, 3) := by decide +kernel
theorem dX1_copy_42 : decode cX1_copy 42 = .ok (.aload_n 0, 1) := by decide +kernel
theorem dX1_copy_43 : decode cX1_copy 43 = .ok (.getfield 21, 3) := by decide +kernel
theorem dX1_copy_46 : decode cX1_copy 46 = .ok (.invokestatic 49, 3) := by decide +kernel
theorem dX1_copy_49 : decode cX1_copy 49 = .ok (.aload_n 1, 1) := by decide +kernel
theorem dX1_copy_50 : decode cX1_copy 50 = .ok (.getfield 24, 3) := by decide +kernel
theorem dX1_copy_53 : decode cX1_copy 53 = .ok (.aload_n 0, 1) := by decide +kernel
theorem dX1_copy_54 : decode cX1_copy 54 = .ok (.getfield 24, 3) := by decide +kernel
theorem dX1_copy_57 : decode cX1_copy 57 = .ok (.invokestatic 49, 3) := by decide +kernel
theorem dX1_copy_60 : decode cX1_copy 60 = .ok (.aload_n 1, 1) := by decide +kernel
theorem dX1_copy_61 : decode cX1_copy 61 = .ok (.getfield 27, 3) := by decide +kernel
theorem dX1_copy_64 : decode cX1_copy 64 = .ok (.aload_n 0, 1) := by decide +kernel
theorem dX1_copy_65 : decode cX1_copy 65 = .ok (.getfield 27, 3) := by decide +kernel
theorem dX1_copy_68 : decode cX1_copy 68 = .ok (.invokestatic 49, 3) := by decide +kernel
theorem dX1_copy_71 : decode cX1_copy 71 = .ok (.aload_n 1, 1) := by decide +kernel
theorem dX1_copy_72 : decode cX1_copy 72 = .ok (.getfield 30, 3) := by decide +kernel
theorem dX1_copy_75 : decode cX1_copy 75 = .ok (.aload_n 0, 1) := by decide +kernel
theorem dX1_copy_76 : decode cX1_copy 76 = .ok (.getfield 30, 3) := by decide +kernel
theorem dX1_copy_79 : decode cX1_copy 79 = .ok (.invokestatic 49, 3) := by decide +kernel
theorem dX1_copy_82 : decode cX1_copy 82 = .ok (.aload_n 0, 1) := by decide +kernel
theorem dX1_copy_83 : decode cX1_copy 83 = .ok (.aload_n 1, 1) := by decide +kernel
theorem dX1_copy_84 : decode cX1_copy 84 = .ok (.getfield 36, 3) := by decide +kernel
theorem dX1_copy_87 : decode cX1_copy 87 = .ok (.putfield 36, 3) := by decide +kernel
theorem dX1_copy_90 : decode cX1_copy 90 = .ok (.aload_n 0, 1) := by decide +kernel
theorem dX1_copy_91 : decode cX1_copy 91 = .ok (.aload_n 1, 1) := by decide +kernel
theorem dX1_copy_92 : decode cX1_copy 92 = .ok (.getfield 40, 3) := by decide +kernel
theorem dX1_copy_95 : decode cX1_copy 95 = .ok (.putfield 40, 3) := by decide +kernel
theorem dX1_copy_98 : decode cX1_copy 98 = .ok (.aload_n 0, 1) := by decide +kernel
theorem dX1_copy_99 : decode cX1_copy 99 = .ok (.aload_n 1, 1) := by decide +kernel
theorem dX1_copy_100 : decode cX1_copy 100 = .ok (.getfield 43, 3) := by decide +kernel
theorem dX1_copy_103 : decode cX1_copy 103 = .ok (.putfield 43, 3) := by decide +kernel
theorem dX1_copy_106 : decode cX1_copy 106 = .ok (.aload_n 0, 1) := by decide +kernel
theorem dX1_copy_107 : decode cX1_copy 107 = .ok (.aload_n 1, 1) := by decide +kernel
theorem dX1_copy_108 : decode cX1_copy 108 = .ok (.getfield 46, 3) := by decide +kernel
theorem dX1_copy_111 : decode cX1_copy 111 = .ok (.putfield 46, 3) := by decide +kernel
theorem dX1_copy_114 : decode cX1_copy 114 = .ok (.return_, 1) := by decide +kernel
theorem dX1_isWord_0 : decode cX1_isWord 0 = .ok (.iload_n 1, 1) := by decide +kernel
theorem dX1_isWord_1 : decode cX1_isWord 1 = .ok (.ifCond .lt 15, 3) := by decide +kernel
theorem dX1_isWord_4 : decode cX1_isWord 4 = .ok (.iload_n 1, 1) := by decide +kernel
theorem dX1_isWord_5 : decode cX1_isWord 5 = .ok (.aload_n 0, 1) := by decide +kernel
theorem dX1_isWord_6 : decode cX1_isWord 6 = .ok (.getfield 36, 3) := by decide +kernel
theorem dX1_isWord_9 : decode cX1_isWord 9 = .ok (.if_icmp .ge 7, 3) := by decide +kernel
theorem dX1_isWord_12 : decode cX1_isWord 12 = .ok (.iconst 1, 1) := by decide +kernel
theorem dX1_isWord_13 : decode cX1_isWord 13 = .ok (.goto 4, 3) := by decide +kernel
theorem dX1_isWord_16 : decode cX1_isWord 16 = .ok (.iconst 0, 1) := by decide +kernel
theorem dX1_isWord_17 : decode cX1_isWord 17 = .ok (.ireturn, 1) := by decide +kernel
theorem dX1_isWooer_0 : decode cX1_isWooer 0 = .ok (.iload_n 1, 1) := by decide +kernel
theorem dX1_isWooer_1 : decode cX1_isWooer 1 = .ok (.ifCond .lt 15, 3) := by decide +kernel
theorem dX1_isWooer_4 : decode cX1_isWooer 4 = .ok (.iload_n 1, 1) := by decide +kernel
theorem dX1_isWooer_5 : decode cX1_isWooer 5 = .ok (.aload_n 0, 1) := by decide +kernel
theorem dX1_isWooer_6 : decode cX1_isWooer 6 = .ok (.getfield 40, 3) := by decide +kernel
theorem dX1_isWooer_9 : decode cX1_isWooer 9 = .ok (.if_icmp .ge 7, 3) := by decide +kernel
theorem dX1_isWooer_12 : decode cX1_isWooer 12 = .ok (.iconst 1, 1) := by decide +kernel
theorem dX1_isWooer_13 : decode cX1_isWooer 13 = .ok (.goto 4, 3) := by decide +kernel
theorem dX1_isWooer_16 : decode cX1_isWooer 16 = .ok (.iconst 0, 1) := by decide +kernel
theorem dX1_isWooer_17 : decode cX1_isWooer 17 = .ok (.ireturn, 1) := by decide +kernel
theorem dX1_holds_0 : decode cX1_holds 0 = .ok (.aload_n 0, 1) := by decide +kernel
theorem dX1_holds_1 : decode cX1_holds 1 = .ok (.getfield 21, 3) := by decide +kernel
theorem dX1_holds_4 : decode cX1_holds 4 = .ok (.iload_n 1, 1) := by decide +kernel
theorem dX1_holds_5 : decode cX1_holds 5 = .ok (.invokestatic 53, 3) := by decide +kernel
theorem dX1_holds_8 : decode cX1_holds 8 = .ok (.iload_n 2, 1) := by decide +kernel
theorem dX1_holds_9 : decode cX1_holds 9 = .ok (.ishr, 1) := by decide +kernel
theorem dX1_holds_10 : decode cX1_holds 10 = .ok (.iconst 1, 1) := by decide +kernel
theorem dX1_holds_11 : decode cX1_holds 11 = .ok (.iand, 1) := by decide +kernel
theorem dX1_holds_12 : decode cX1_holds 12 = .ok (.iconst 1, 1) := by decide +kernel
theorem dX1_holds_13 : decode cX1_holds 13 = .ok (.if_icmp .ne 7, 3) := by decide +kernel
theorem dX1_holds_16 : decode cX1_holds 16 = .ok (.iconst 1, 1) := by decide +kernel
theorem dX1_holds_17 : decode cX1_holds 17 = .ok (.goto 4, 3) := by decide +kernel
theorem dX1_holds_20 : decode cX1_holds 20 = .ok (.iconst 0, 1) := by decide +kernel
theorem dX1_holds_21 : decode cX1_holds 21 = .ok (.ireturn, 1) := by decide +kernel
theorem dX1_isRight_0 : decode cX1_isRight 0 = .ok (.aload_n 0, 1) := by decide +kernel
theorem dX1_isRight_1 : decode cX1_isRight 1 = .ok (.getfield 24, 3) := by decide +kernel
theorem dX1_isRight_4 : decode cX1_isRight 4 = .ok (.iload_n 1, 1) := by decide +kernel
theorem dX1_isRight_5 : decode cX1_isRight 5 = .ok (.invokestatic 53, 3) := by decide +kernel
theorem dX1_isRight_8 : decode cX1_isRight 8 = .ok (.iload_n 2, 1) := by decide +kernel
theorem dX1_isRight_9 : decode cX1_isRight 9 = .ok (.ishr, 1) := by decide +kernel
theorem dX1_isRight_10 : decode cX1_isRight 10 = .ok (.iconst 1, 1) := by decide +kernel
theorem dX1_isRight_11 : decode cX1_isRight 11 = .ok (.iand, 1) := by decide +kernel
theorem dX1_isRight_12 : decode cX1_isRight 12 = .ok (.iconst 1, 1) := by decide +kernel
theorem dX1_isRight_13 : decode cX1_isRight 13 = .ok (.if_icmp .ne 7, 3) := by decide +kernel
theorem dX1_isRight_16 : decode cX1_isRight 16 = .ok (.iconst 1, 1) := by decide +kernel
theorem dX1_isRight_17 : decode cX1_isRight 17 = .ok (.goto 4, 3) := by decide +kernel
theorem dX1_isRight_20 : decode cX1_isRight 20 = .ok (.iconst 0, 1) := by decide +kernel
theorem dX1_isRight_21 : decode cX1_isRight 21 = .ok (.ireturn, 1) := by decide +kernel
theorem dX1_wayOf_0 : decode cX1_wayOf 0 = .ok (.aload_n 0, 1) := by decide +kernel
theorem dX1_wayOf_1 : decode cX1_wayOf 1 = .ok (.getfield 27, 3) := by decide +kernel
theorem dX1_wayOf_4 : decode cX1_wayOf 4 = .ok (.bipush 8, 2) := by decide +kernel
theorem dX1_wayOf_6 : decode cX1_wayOf 6 = .ok (.iload_n 1, 1) := by decide +kernel
theorem dX1_wayOf_7 : decode cX1_wayOf 7 = .ok (.imul, 1) := by decide +kernel
theorem dX1_wayOf_8 : decode cX1_wayOf 8 = .ok (.iload_n 2, 1) := by decide +kernel
theorem dX1_wayOf_9 : decode cX1_wayOf 9 = .ok (.iadd, 1) := by decide +kernel
theorem dX1_wayOf_10 : decode cX1_wayOf 10 = .ok (.invokestatic 53, 3) := by decide +kernel
theorem dX1_wayOf_13 : decode cX1_wayOf 13 = .ok (.ireturn, 1) := by decide +kernel
theorem dX1_ageOf_0 : decode cX1_ageOf 0 = .ok (.aload_n 0, 1) := by decide +kernel
theorem dX1_ageOf_1 : decode cX1_ageOf 1 = .ok (.getfield 30, 3) := by decide +kernel
theorem dX1_ageOf_4 : decode cX1_ageOf 4 = .ok (.bipush 8, 2) := by decide +kernel
theorem dX1_ageOf_6 : decode cX1_ageOf 6 = .ok (.iload_n 1, 1) := by decide +kernel
theorem dX1_ageOf_7 : decode cX1_ageOf 7 = .ok (.imul, 1) := by decide +kernel
theorem dX1_ageOf_8 : decode cX1_ageOf 8 = .ok (.iload_n 2, 1) := by decide +kernel
theorem dX1_ageOf_9 : decode cX1_ageOf 9 = .ok (.iadd, 1) := by decide +kernel
theorem dX1_ageOf_10 : decode cX1_ageOf 10 = .ok (.invokestatic 53, 3) := by decide +kernel
theorem dX1_ageOf_13 : decode cX1_ageOf 13 = .ok (.ireturn, 1) := by decide +kernel
theorem dX1_rightOf_0 : decode cX1_rightOf 0 = .ok (.aload_n 0, 1) := by decide +kernel
theorem dX1_rightOf_1 : decode cX1_rightOf 1 = .ok (.getfield 24, 3) := by decide +kernel
theorem dX1_rightOf_4 : decode cX1_rightOf 4 = .ok (.iload_n 1, 1) := by decide +kernel
theorem dX1_rightOf_5 : decode cX1_rightOf 5 = .ok (.invokestatic 53, 3) := by decide +kernel
theorem dX1_rightOf_8 : decode cX1_rightOf 8 = .ok (.invokestatic 57, 3) := by decide +kernel
theorem dX1_rightOf_11 : decode cX1_rightOf 11 = .ok (.ireturn, 1) := by decide +kernel
theorem dX1_isSpeaker_0 : decode cX1_isSpeaker 0 = .ok (.aload_n 0, 1) := by decide +kernel
theorem dX1_isSpeaker_1 : decode cX1_isSpeaker 1 = .ok (.iload_n 1, 1) := by decide +kernel
theorem dX1_isSpeaker_2 : decode cX1_isSpeaker 2 = .ok (.invokevirtual 63, 3) := by decide +kernel
theorem dX1_isSpeaker_5 : decode cX1_isSpeaker 5 = .ok (.aload_n 0, 1) := by decide +kernel
theorem dX1_isSpeaker_6 : decode cX1_isSpeaker 6 = .ok (.getfield 43, 3) := by decide +kernel
theorem dX1_isSpeaker_9 : decode cX1_isSpeaker 9 = .ok (.if_icmp .lt 7, 3) := by decide +kernel
theorem dX1_isSpeaker_12 : decode cX1_isSpeaker 12 = .ok (.iconst 1, 1) := by decide +kernel
theorem dX1_isSpeaker_13 : decode cX1_isSpeaker 13 = .ok (.goto 4, 3) := by decide +kernel
theorem dX1_isSpeaker_16 : decode cX1_isSpeaker 16 = .ok (.iconst 0, 1) := by decide +kernel
theorem dX1_isSpeaker_17 : decode cX1_isSpeaker 17 = .ok (.ireturn, 1) := by decide +kernel
theorem dX1_speakers_0 : decode cX1_speakers 0 = .ok (.iconst 0, 1) := by decide +kernel
theorem dX1_speakers_1 : decode cX1_speakers 1 = .ok (.istore_n 1, 1) := by decide +kernel
theorem dX1_speakers_2 : decode cX1_speakers 2 = .ok (.iconst 0, 1) := by decide +kernel
theorem dX1_speakers_3 : decode cX1_speakers 3 = .ok (.istore_n 2, 1) := by decide +kernel
theorem dX1_speakers_4 : decode cX1_speakers 4 = .ok (.iload_n 2, 1) := by decide +kernel
theorem dX1_speakers_5 : decode cX1_speakers 5 = .ok (.aload_n 0, 1) := by decide +kernel
theorem dX1_speakers_6 : decode cX1_speakers 6 = .ok (.getfield 40, 3) := by decide +kernel
theorem dX1_speakers_9 : decode cX1_speakers 9 = .ok (.if_icmp .ge 20, 3) := by decide +kernel
theorem dX1_speakers_12 : decode cX1_speakers 12 = .ok (.aload_n 0, 1) := by decide +kernel
theorem dX1_speakers_13 : decode cX1_speakers 13 = .ok (.iload_n 2, 1) := by decide +kernel
theorem dX1_speakers_14 : decode cX1_speakers 14 = .ok (.invokevirtual 66, 3) := by decide +kernel
theorem dX1_speakers_17 : decode cX1_speakers 17 = .ok (.ifCond .eq 6, 3) := by decide +kernel
theorem dX1_speakers_20 : decode cX1_speakers 20 = .ok (.iinc 1 1, 3) := by decide +kernel
theorem dX1_speakers_23 : decode cX1_speakers 23 = .ok (.iinc 2 1, 3) := by decide +kernel
theorem dX1_speakers_26 : decode cX1_speakers 26 = .ok (.goto (-22), 3) := by decide +kernel
theorem dX1_speakers_29 : decode cX1_speakers 29 = .ok (.iload_n 1, 1) := by decide +kernel
theorem dX1_speakers_30 : decode cX1_speakers 30 = .ok (.ireturn, 1) := by decide +kernel
theorem dX1_allRight_0 : decode cX1_allRight 0 = .ok (.iconst 0, 1) := by decide +kernel
theorem dX1_allRight_1 : decode cX1_allRight 1 = .ok (.istore_n 1, 1) := by decide +kernel
theorem dX1_allRight_2 : decode cX1_allRight 2 = .ok (.iconst 0, 1) := by decide +kernel
theorem dX1_allRight_3 : decode cX1_allRight 3 = .ok (.istore_n 2, 1) := by decide +kernel
theorem dX1_allRight_4 : decode cX1_allRight 4 = .ok (.iload_n 2, 1) := by decide +kernel
theorem dX1_allRight_5 : decode cX1_allRight 5 = .ok (.aload_n 0, 1) := by decide +kernel
theorem dX1_allRight_6 : decode cX1_allRight 6 = .ok (.getfield 40, 3) := by decide +kernel
theorem dX1_allRight_9 : decode cX1_allRight 9 = .ok (.if_icmp .ge 17, 3) := by decide +kernel
theorem dX1_allRight_12 : decode cX1_allRight 12 = .ok (.iload_n 1, 1) := by decide +kernel
theorem dX1_allRight_13 : decode cX1_allRight 13 = .ok (.aload_n 0, 1) := by decide +kernel
theorem dX1_allRight_14 : decode cX1_allRight 14 = .ok (.iload_n 2, 1) := by decide +kernel
theorem dX1_allRight_15 : decode cX1_allRight 15 = .ok (.invokevirtual 63, 3) := by decide +kernel
theorem dX1_allRight_18 : decode cX1_allRight 18 = .ok (.iadd, 1) := by decide +kernel
theorem dX1_allRight_19 : decode cX1_allRight 19 = .ok (.istore_n 1, 1) := by decide +kernel
theorem dX1_allRight_20 : decode cX1_allRight 20 = .ok (.iinc 2 1, 3) := by decide +kernel
theorem dX1_allRight_23 : decode cX1_allRight 23 = .ok (.goto (-19), 3) := by decide +kernel
theorem dX1_allRight_26 : decode cX1_allRight 26 = .ok (.iload_n 1, 1) := by decide +kernel
theorem dX1_allRight_27 : decode cX1_allRight 27 = .ok (.ireturn, 1) := by decide +kernel
theorem dX1_allHad_0 : decode cX1_allHad 0 = .ok (.iconst 0, 1) := by decide +kernel
theorem dX1_allHad_1 : decode cX1_allHad 1 = .ok (.istore_n 1, 1) := by decide +kernel
theorem dX1_allHad_2 : decode cX1_allHad 2 = .ok (.iconst 0, 1) := by decide +kernel
theorem dX1_allHad_3 : decode cX1_allHad 3 = .ok (.istore_n 2, 1) := by decide +kernel
theorem dX1_allHad_4 : decode cX1_allHad 4 = .ok (.iload_n 2, 1) := by decide +kernel
theorem dX1_allHad_5 : decode cX1_allHad 5 = .ok (.aload_n 0, 1) := by decide +kernel
theorem dX1_allHad_6 : decode cX1_allHad 6 = .ok (.getfield 40, 3) := by decide +kernel
theorem dX1_allHad_9 : decode cX1_allHad 9 = .ok (.if_icmp .ge 23, 3) := by decide +kernel
theorem dX1_allHad_12 : decode cX1_allHad 12 = .ok (.iload_n 1, 1) := by decide +kernel
theorem dX1_allHad_13 : decode cX1_allHad 13 = .ok (.aload_n 0, 1) := by decide +kernel
theorem dX1_allHad_14 : decode cX1_allHad 14 = .ok (.getfield 21, 3) := by decide +kernel
theorem dX1_allHad_17 : decode cX1_allHad 17 = .ok (.iload_n 2, 1) := by decide +kernel
theorem dX1_allHad_18 : decode cX1_allHad 18 = .ok (.invokestatic 53, 3) := by decide +kernel
theorem dX1_allHad_21 : decode cX1_allHad 21 = .ok (.invokestatic 57, 3) := by decide +kernel
theorem dX1_allHad_24 : decode cX1_allHad 24 = .ok (.iadd, 1) := by decide +kernel
theorem dX1_allHad_25 : decode cX1_allHad 25 = .ok (.istore_n 1, 1) := by decide +kernel
theorem dX1_allHad_26 : decode cX1_allHad 26 = .ok (.iinc 2 1, 3) := by decide +kernel
theorem dX1_allHad_29 : decode cX1_allHad 29 = .ok (.goto (-25), 3) := by decide +kernel
theorem dX1_allHad_32 : decode cX1_allHad 32 = .ok (.iload_n 1, 1) := by decide +kernel
theorem dX1_allHad_33 : decode cX1_allHad 33 = .ok (.ireturn, 1) := by decide +kernel
theorem dX1_seat_0 : decode cX1_seat 0 = .ok (.aload_n 0, 1) := by decide +kernel
theorem dX1_seat_1 : decode cX1_seat 1 = .ok (.getfield 40, 3) := by decide +kernel
theorem dX1_seat_4 : decode cX1_seat 4 = .ok (.istore_n 3, 1) := by decide +kernel
theorem dX1_seat_5 : decode cX1_seat 5 = .ok (.aload_n 0, 1) := by decide +kernel
theorem dX1_seat_6 : decode cX1_seat 6 = .ok (.getfield 15, 3) := by decide +kernel
theorem dX1_seat_9 : decode cX1_seat 9 = .ok (.iload_n 3, 1) := by decide +kernel
theorem dX1_seat_10 : decode cX1_seat 10 = .ok (.iload_n 1, 1) := by decide +kernel
theorem dX1_seat_11 : decode cX1_seat 11 = .ok (.invokestatic 70, 3) := by decide +kernel
theorem dX1_seat_14 : decode cX1_seat 14 = .ok (.aload_n 0, 1) := by decide +kernel
theorem dX1_seat_15 : decode cX1_seat 15 = .ok (.getfield 18, 3) := by decide +kernel
theorem dX1_seat_18 : decode cX1_seat 18 = .ok (.iload_n 3, 1) := by decide +kernel
theorem dX1_seat_19 : decode cX1_seat 19 = .ok (.iload_n 2, 1) := by decide +kernel
theorem dX1_seat_20 : decode cX1_seat 20 = .ok (.invokestatic 70, 3) := by decide +kernel
theorem dX1_seat_23 : decode cX1_seat 23 = .ok (.aload_n 0, 1) := by decide +kernel
theorem dX1_seat_24 : decode cX1_seat 24 = .ok (.getfield 21, 3) := by decide +kernel
theorem dX1_seat_27 : decode cX1_seat 27 = .ok (.iload_n 3, 1) := by decide +kernel
theorem dX1_seat_28 : decode cX1_seat 28 = .ok (.iconst 0, 1) := by decide +kernel
theorem dX1_seat_29 : decode cX1_seat 29 = .ok (.invokestatic 70, 3) := by decide +kernel
theorem dX1_seat_32 : decode cX1_seat 32 = .ok (.aload_n 0, 1) := by decide +kernel
theorem dX1_seat_33 : decode cX1_seat 33 = .ok (.getfield 24, 3) := by decide +kernel
theorem dX1_seat_36 : decode cX1_seat 36 = .ok (.iload_n 3, 1) := by decide +kernel
theorem dX1_seat_37 : decode cX1_seat 37 = .ok (.iconst 0, 1) := by decide +kernel
theorem dX1_seat_38 : decode cX1_seat 38 = .ok (.invokestatic 70, 3) := by decide +kernel
theorem dX1_seat_41 : decode cX1_seat 41 = .ok (.aload_n 0, 1) := by decide +kernel
theorem dX1_seat_42 : decode cX1_seat 42 = .ok (.dup, 1) := by decide +kernel
theorem dX1_seat_43 : decode cX1_seat 43 = .ok (.getfield 40, 3) := by decide +kernel
theorem dX1_seat_46 : decode cX1_seat 46 = .ok (.iconst 1, 1) := by decide +kernel
theorem dX1_seat_47 : decode cX1_seat 47 = .ok (.iadd, 1) := by decide +kernel
theorem dX1_seat_48 : decode cX1_seat 48 = .ok (.putfield 40, 3) := by decide +kernel
theorem dX1_seat_51 : decode cX1_seat 51 = .ok (.iload_n 3, 1) := by decide +kernel
theorem dX1_seat_52 : decode cX1_seat 52 = .ok (.ireturn, 1) := by decide +kernel
theorem dX1_give_0 : decode cX1_give 0 = .ok (.iconst 1, 1) := by decide +kernel
theorem dX1_give_1 : decode cX1_give 1 = .ok (.iload_n 2, 1) := by decide +kernel
theorem dX1_give_2 : decode cX1_give 2 = .ok (.ishl, 1) := by decide +kernel
theorem dX1_give_3 : decode cX1_give 3 = .ok (.istore 4, 2) := by decide +kernel
theorem dX1_give_5 : decode cX1_give 5 = .ok (.aload_n 0, 1) := by decide +kernel
theorem dX1_give_6 : decode cX1_give 6 = .ok (.getfield 21, 3) := by decide +kernel
theorem dX1_give_9 : decode cX1_give 9 = .ok (.iload_n 1, 1) := by decide +kernel
theorem dX1_give_10 : decode cX1_give 10 = .ok (.aload_n 0, 1) := by decide +kernel
theorem dX1_give_11 : decode cX1_give 11 = .ok (.getfield 21, 3) := by decide +kernel
theorem dX1_give_14 : decode cX1_give 14 = .ok (.iload_n 1, 1) := by decide +kernel
theorem dX1_give_15 : decode cX1_give 15 = .ok (.invokestatic 53, 3) := by decide +kernel
theorem dX1_give_18 : decode cX1_give 18 = .ok (.iload 4, 2) := by decide +kernel
theorem dX1_give_20 : decode cX1_give 20 = .ok (.ior, 1) := by decide +kernel
theorem dX1_give_21 : decode cX1_give 21 = .ok (.invokestatic 70, 3) := by decide +kernel
theorem dX1_give_24 : decode cX1_give 24 = .ok (.aload_n 0, 1) := by decide +kernel
theorem dX1_give_25 : decode cX1_give 25 = .ok (.getfield 24, 3) := by decide +kernel
theorem dX1_give_28 : decode cX1_give 28 = .ok (.iload_n 1, 1) := by decide +kernel
theorem dX1_give_29 : decode cX1_give 29 = .ok (.iload_n 3, 1) := by decide +kernel
theorem dX1_give_30 : decode cX1_give 30 = .ok (.aload_n 0, 1) := by decide +kernel
theorem dX1_give_31 : decode cX1_give 31 = .ok (.getfield 9, 3) := by decide +kernel
theorem dX1_give_34 : decode cX1_give 34 = .ok (.iload_n 2, 1) := by decide +kernel
theorem dX1_give_35 : decode cX1_give 35 = .ok (.invokestatic 53, 3) := by decide +kernel
theorem dX1_give_38 : decode cX1_give 38 = .ok (.if_icmp .ne 17, 3) := by decide +kernel
theorem dX1_give_41 : decode cX1_give 41 = .ok (.aload_n 0, 1) := by decide +kernel
theorem dX1_give_42 : decode cX1_give 42 = .ok (.getfield 24, 3) := by decide +kernel
theorem dX1_give_45 : decode cX1_give 45 = .ok (.iload_n 1, 1) := by decide +kernel
theorem dX1_give_46 : decode cX1_give 46 = .ok (.invokestatic 53, 3) := by decide +kernel
theorem dX1_give_49 : decode cX1_give 49 = .ok (.iload 4, 2) := by decide +kernel
theorem dX1_give_51 : decode cX1_give 51 = .ok (.ior, 1) := by decide +kernel
theorem dX1_give_52 : decode cX1_give 52 = .ok (.goto 16, 3) := by decide +kernel
theorem dX1_give_55 : decode cX1_give 55 = .ok (.aload_n 0, 1) := by decide +kernel
theorem dX1_give_56 : decode cX1_give 56 = .ok (.getfield 24, 3) := by decide +kernel
theorem dX1_give_59 : decode cX1_give 59 = .ok (.iload_n 1, 1) := by decide +kernel
theorem dX1_give_60 : decode cX1_give 60 = .ok (.invokestatic 53, 3) := by decide +kernel
theorem dX1_give_63 : decode cX1_give 63 = .ok (.iload 4, 2) := by decide +kernel
theorem dX1_give_65 : decode cX1_give 65 = .ok (.iconst (-1), 1) := by decide +kernel
theorem dX1_give_66 : decode cX1_give 66 = .ok (.ixor, 1) := by decide +kernel
theorem dX1_give_67 : decode cX1_give 67 = .ok (.iand, 1) := by decide +kernel
theorem dX1_give_68 : decode cX1_give 68 = .ok (.invokestatic 70, 3) := by decide +kernel
theorem dX1_give_71 : decode cX1_give 71 = .ok (.aload_n 0, 1) := by decide +kernel
theorem dX1_give_72 : decode cX1_give 72 = .ok (.getfield 27, 3) := by decide +kernel
theorem dX1_give_75 : decode cX1_give 75 = .ok (.bipush 8, 2) := by decide +kernel
theorem dX1_give_77 : decode cX1_give 77 = .ok (.iload_n 1, 1) := by decide +kernel
theorem dX1_give_78 : decode cX1_give 78 = .ok (.imul, 1) := by decide +kernel
theorem dX1_give_79 : decode cX1_give 79 = .ok (.iload_n 2, 1) := by decide +kernel
theorem dX1_give_80 : decode cX1_give 80 = .ok (.iadd, 1) := by decide +kernel
theorem dX1_give_81 : decode cX1_give 81 = .ok (.iload_n 3, 1) := by decide +kernel
theorem dX1_give_82 : decode cX1_give 82 = .ok (.invokestatic 70, 3) := by decide +kernel
theorem dX1_give_85 : decode cX1_give 85 = .ok (.aload_n 0, 1) := by decide +kernel
theorem dX1_give_86 : decode cX1_give 86 = .ok (.getfield 30, 3) := by decide +kernel
theorem dX1_give_89 : decode cX1_give 89 = .ok (.bipush 8, 2) := by decide +kernel
theorem dX1_give_91 : decode cX1_give 91 = .ok (.iload_n 1, 1) := by decide +kernel
theorem dX1_give_92 : decode cX1_give 92 = .ok (.imul, 1) := by decide +kernel
theorem dX1_give_93 : decode cX1_give 93 = .ok (.iload_n 2, 1) := by decide +kernel
theorem dX1_give_94 : decode cX1_give 94 = .ok (.iadd, 1) := by decide +kernel
theorem dX1_give_95 : decode cX1_give 95 = .ok (.iconst 0, 1) := by decide +kernel
theorem dX1_give_96 : decode cX1_give 96 = .ok (.invokestatic 70, 3) := by decide +kernel
theorem dX1_give_99 : decode cX1_give 99 = .ok (.return_, 1) := by decide +kernel
theorem dX1_drop_0 : decode cX1_drop 0 = .ok (.iconst 1, 1) := by decide +kernel
theorem dX1_drop_1 : decode cX1_drop 1 = .ok (.iload_n 2, 1) := by decide +kernel
theorem dX1_drop_2 : decode cX1_drop 2 = .ok (.ishl, 1) := by decide +kernel
theorem dX1_drop_3 : decode cX1_drop 3 = .ok (.istore_n 3, 1) := by decide +kernel
theorem dX1_drop_4 : decode cX1_drop 4 = .ok (.aload_n 0, 1) := by decide +kernel
theorem dX1_drop_5 : decode cX1_drop 5 = .ok (.getfield 21, 3) := by decide +kernel
theorem dX1_drop_8 : decode cX1_drop 8 = .ok (.iload_n 1, 1) := by decide +kernel
theorem dX1_drop_9 : decode cX1_drop 9 = .ok (.aload_n 0, 1) := by decide +kernel
theorem dX1_drop_10 : decode cX1_drop 10 = .ok (.getfield 21, 3) := by decide +kernel
theorem dX1_drop_13 : decode cX1_drop 13 = .ok (.iload_n 1, 1) := by decide +kernel
theorem dX1_drop_14 : decode cX1_drop 14 = .ok (.invokestatic 53, 3) := by decide +kernel
theorem dX1_drop_17 : decode cX1_drop 17 = .ok (.iload_n 3, 1) := by decide +kernel
theorem dX1_drop_18 : decode cX1_drop 18 = .ok (.iconst (-1), 1) := by decide +kernel
theorem dX1_drop_19 : decode cX1_drop 19 = .ok (.ixor, 1) := by decide +kernel
theorem dX1_drop_20 : decode cX1_drop 20 = .ok (.iand, 1) := by decide +kernel
theorem dX1_drop_21 : decode cX1_drop 21 = .ok (.invokestatic 70, 3) := by decide +kernel
theorem dX1_drop_24 : decode cX1_drop 24 = .ok (.aload_n 0, 1) := by decide +kernel
theorem dX1_drop_25 : decode cX1_drop 25 = .ok (.getfield 24, 3) := by decide +kernel
theorem dX1_drop_28 : decode cX1_drop 28 = .ok (.iload_n 1, 1) := by decide +kernel
theorem dX1_drop_29 : decode cX1_drop 29 = .ok (.aload_n 0, 1) := by decide +kernel
theorem dX1_drop_30 : decode cX1_drop 30 = .ok (.getfield 24, 3) := by decide +kernel
theorem dX1_drop_33 : decode cX1_drop 33 = .ok (.iload_n 1, 1) := by decide +kernel
theorem dX1_drop_34 : decode cX1_drop 34 = .ok (.invokestatic 53, 3) := by decide +kernel
theorem dX1_drop_37 : decode cX1_drop 37 = .ok (.iload_n 3, 1) := by decide +kernel
theorem dX1_drop_38 : decode cX1_drop 38 = .ok (.iconst (-1), 1) := by decide +kernel
theorem dX1_drop_39 : decode cX1_drop 39 = .ok (.ixor, 1) := by decide +kernel
theorem dX1_drop_40 : decode cX1_drop 40 = .ok (.iand, 1) := by decide +kernel
theorem dX1_drop_41 : decode cX1_drop 41 = .ok (.invokestatic 70, 3) := by decide +kernel
theorem dX1_drop_44 : decode cX1_drop 44 = .ok (.return_, 1) := by decide +kernel
theorem dX1_asHeardBy_0 : decode cX1_asHeardBy 0 = .ok (.aload_n 0, 1) := by decide +kernel
theorem dX1_asHeardBy_1 : decode cX1_asHeardBy 1 = .ok (.getfield 15, 3) := by decide +kernel
theorem dX1_asHeardBy_4 : decode cX1_asHeardBy 4 = .ok (.iload_n 1, 1) := by decide +kernel
theorem dX1_asHeardBy_5 : decode cX1_asHeardBy 5 = .ok (.invokestatic 53, 3) := by decide +kernel
theorem dX1_asHeardBy_8 : decode cX1_asHeardBy 8 = .ok (.iconst 1, 1) := by decide +kernel
theorem dX1_asHeardBy_9 : decode cX1_asHeardBy 9 = .ok (.if_icmp .ne 19, 3) := by decide +kernel
theorem dX1_asHeardBy_12 : decode cX1_asHeardBy 12 = .ok (.iload_n 2, 1) := by decide +kernel
theorem dX1_asHeardBy_13 : decode cX1_asHeardBy 13 = .ok (.iconst 2, 1) := by decide +kernel
theorem dX1_asHeardBy_14 : decode cX1_asHeardBy 14 = .ok (.irem, 1) := by decide +kernel
theorem dX1_asHeardBy_15 : decode cX1_asHeardBy 15 = .ok (.iconst 1, 1) := by decide +kernel
theorem dX1_asHeardBy_16 : decode cX1_asHeardBy 16 = .ok (.if_icmp .ne 12, 3) := by decide +kernel
theorem dX1_asHeardBy_19 : decode cX1_asHeardBy 19 = .ok (.iload_n 2, 1) := by decide +kernel
theorem dX1_asHeardBy_20 : decode cX1_asHeardBy 20 = .ok (.iconst 1, 1) := by decide +kernel
theorem dX1_asHeardBy_21 : decode cX1_asHeardBy 21 = .ok (.iadd, 1) := by decide +kernel
theorem dX1_asHeardBy_22 : decode cX1_asHeardBy 22 = .ok (.bipush 10, 2) := by decide +kernel
theorem dX1_asHeardBy_24 : decode cX1_asHeardBy 24 = .ok (.irem, 1) := by decide +kernel
theorem dX1_asHeardBy_25 : decode cX1_asHeardBy 25 = .ok (.goto 4, 3) := by decide +kernel
theorem dX1_asHeardBy_28 : decode cX1_asHeardBy 28 = .ok (.iload_n 2, 1) := by decide +kernel
theorem dX1_asHeardBy_29 : decode cX1_asHeardBy 29 = .ok (.ireturn, 1) := by decide +kernel
theorem dX1_teach_0 : decode cX1_teach 0 = .ok (.aload_n 0, 1) := by decide +kernel
theorem dX1_teach_1 : decode cX1_teach 1 = .ok (.getfield 15, 3) := by decide +kernel
theorem dX1_teach_4 : decode cX1_teach 4 = .ok (.iload_n 1, 1) := by decide +kernel
theorem dX1_teach_5 : decode cX1_teach 5 = .ok (.invokestatic 53, 3) := by decide +kernel
theorem dX1_teach_8 : decode cX1_teach 8 = .ok (.iconst 3, 1) := by decide +kernel
theorem dX1_teach_9 : decode cX1_teach 9 = .ok (.if_icmp .ne 25, 3) := by decide +kernel
theorem dX1_teach_12 : decode cX1_teach 12 = .ok (.aload_n 0, 1) := by decide +kernel
theorem dX1_teach_13 : decode cX1_teach 13 = .ok (.iload_n 1, 1) := by decide +kernel
theorem dX1_teach_14 : decode cX1_teach 14 = .ok (.iload_n 2, 1) := by decide +kernel
theorem dX1_teach_15 : decode cX1_teach 15 = .ok (.invokevirtual 74, 3) := by decide +kernel
theorem dX1_teach_18 : decode cX1_teach 18 = .ok (.ifCond .eq 16, 3) := by decide +kernel
theorem dX1_teach_21 : decode cX1_teach 21 = .ok (.aload_n 0, 1) := by decide +kernel
theorem dX1_teach_22 : decode cX1_teach 22 = .ok (.iload_n 1, 1) := by decide +kernel
theorem dX1_teach_23 : decode cX1_teach 23 = .ok (.iload_n 2, 1) := by decide +kernel
theorem dX1_teach_24 : decode cX1_teach 24 = .ok (.aload_n 0, 1) := by decide +kernel
theorem dX1_teach_25 : decode cX1_teach 25 = .ok (.iload_n 1, 1) := by decide +kernel
theorem dX1_teach_26 : decode cX1_teach 26 = .ok (.iload_n 2, 1) := by decide +kernel
theorem dX1_teach_27 : decode cX1_teach 27 = .ok (.invokevirtual 78, 3) := by decide +kernel
theorem dX1_teach_30 : decode cX1_teach 30 = .ok (.invokevirtual 82, 3) := by decide +kernel
theorem dX1_teach_33 : decode cX1_teach 33 = .ok (.return_, 1) := by decide +kernel
theorem dX1_teach_34 : decode cX1_teach 34 = .ok (.aload_n 0, 1) := by decide +kernel
theorem dX1_teach_35 : decode cX1_teach 35 = .ok (.iload_n 1, 1) := by decide +kernel
theorem dX1_teach_36 : decode cX1_teach 36 = .ok (.iload_n 2, 1) := by decide +kernel
theorem dX1_teach_37 : decode cX1_teach 37 = .ok (.aload_n 0, 1) := by decide +kernel
theorem dX1_teach_38 : decode cX1_teach 38 = .ok (.iload_n 1, 1) := by decide +kernel
theorem dX1_teach_39 : decode cX1_teach 39 = .ok (.aload_n 0, 1) := by decide +kernel
theorem dX1_teach_40 : decode cX1_teach 40 = .ok (.getfield 9, 3) := by decide +kernel
theorem dX1_teach_43 : decode cX1_teach 43 = .ok (.iload_n 2, 1) := by decide +kernel
theorem dX1_teach_44 : decode cX1_teach 44 = .ok (.invokestatic 53, 3) := by decide +kernel
theorem dX1_teach_47 : decode cX1_teach 47 = .ok (.invokevirtual 86, 3) := by decide +kernel
theorem dX1_teach_50 : decode cX1_teach 50 = .ok (.invokevirtual 82, 3) := by decide +kernel
theorem dX1_teach_53 : decode cX1_teach 53 = .ok (.iload_n 2, 1) := by decide +kernel
theorem dX1_teach_54 : decode cX1_teach 54 = .ok (.iconst 1, 1) := by decide +kernel
theorem dX1_teach_55 : decode cX1_teach 55 = .ok (.iadd, 1) := by decide +kernel
theorem dX1_teach_56 : decode cX1_teach 56 = .ok (.aload_n 0, 1) := by decide +kernel
theorem dX1_teach_57 : decode cX1_teach 57 = .ok (.getfield 36, 3) := by decide +kernel
theorem dX1_teach_60 : decode cX1_teach 60 = .ok (.if_icmp .ge 9, 3) := by decide +kernel
theorem dX1_teach_63 : decode cX1_teach 63 = .ok (.iload_n 2, 1) := by decide +kernel
theorem dX1_teach_64 : decode cX1_teach 64 = .ok (.iconst 1, 1) := by decide +kernel
theorem dX1_teach_65 : decode cX1_teach 65 = .ok (.iadd, 1) := by decide +kernel
theorem dX1_teach_66 : decode cX1_teach 66 = .ok (.goto 4, 3) := by decide +kernel
theorem dX1_teach_69 : decode cX1_teach 69 = .ok (.iconst 0, 1) := by decide +kernel
theorem dX1_teach_70 : decode cX1_teach 70 = .ok (.istore_n 3, 1) := by decide +kernel
theorem dX1_teach_71 : decode cX1_teach 71 = .ok (.aload_n 0, 1) := by decide +kernel
theorem dX1_teach_72 : decode cX1_teach 72 = .ok (.getfield 15, 3) := by decide +kernel
theorem dX1_teach_75 : decode cX1_teach 75 = .ok (.iload_n 1, 1) := by decide +kernel
theorem dX1_teach_76 : decode cX1_teach 76 = .ok (.invokestatic 53, 3) := by decide +kernel
theorem dX1_teach_79 : decode cX1_teach 79 = .ok (.iconst 2, 1) := by decide +kernel
theorem dX1_teach_80 : decode cX1_teach 80 = .ok (.if_icmp .ne 26, 3) := by decide +kernel
theorem dX1_teach_83 : decode cX1_teach 83 = .ok (.aload_n 0, 1) := by decide +kernel
theorem dX1_teach_84 : decode cX1_teach 84 = .ok (.iload_n 1, 1) := by decide +kernel
theorem dX1_teach_85 : decode cX1_teach 85 = .ok (.iload_n 3, 1) := by decide +kernel
theorem dX1_teach_86 : decode cX1_teach 86 = .ok (.invokevirtual 74, 3) := by decide +kernel
theorem dX1_teach_89 : decode cX1_teach 89 = .ok (.ifCond .ne 17, 3) := by decide +kernel
theorem dX1_teach_92 : decode cX1_teach 92 = .ok (.aload_n 0, 1) := by decide +kernel
theorem dX1_teach_93 : decode cX1_teach 93 = .ok (.iload_n 1, 1) := by decide +kernel
theorem dX1_teach_94 : decode cX1_teach 94 = .ok (.iload_n 3, 1) := by decide +kernel
theorem dX1_teach_95 : decode cX1_teach 95 = .ok (.aload_n 0, 1) := by decide +kernel
theorem dX1_teach_96 : decode cX1_teach 96 = .ok (.getfield 9, 3) := by decide +kernel
theorem dX1_teach_99 : decode cX1_teach 99 = .ok (.iload_n 3, 1) := by decide +kernel
theorem dX1_teach_100 : decode cX1_teach 100 = .ok (.invokestatic 53, 3) := by decide +kernel
theorem dX1_teach_103 : decode cX1_teach 103 = .ok (.invokevirtual 82, 3) := by decide +kernel
theorem dX1_teach_106 : decode cX1_teach 106 = .ok (.return_, 1) := by decide +kernel
theorem dX1_canRepair_0 : decode cX1_canRepair 0 = .ok (.aload_n 0, 1) := by decide +kernel
theorem dX1_canRepair_1 : decode cX1_canRepair 1 = .ok (.iload_n 1, 1) := by decide +kernel
theorem dX1_canRepair_2 : decode cX1_canRepair 2 = .ok (.iload_n 2, 1) := by decide +kernel
theorem dX1_canRepair_3 : decode cX1_canRepair 3 = .ok (.invokevirtual 74, 3) := by decide +kernel
theorem dX1_canRepair_6 : decode cX1_canRepair 6 = .ok (.ifCond .eq 16, 3) := by decide +kernel
theorem dX1_canRepair_9 : decode cX1_canRepair 9 = .ok (.aload_n 0, 1) := by decide +kernel
theorem dX1_canRepair_10 : decode cX1_canRepair 10 = .ok (.iload_n 1, 1) := by decide +kernel
theorem dX1_canRepair_11 : decode cX1_canRepair 11 = .ok (.iload_n 2, 1) := by decide +kernel
theorem dX1_canRepair_12 : decode cX1_canRepair 12 = .ok (.invokevirtual 89, 3) := by decide +kernel
theorem dX1_canRepair_15 : decode cX1_canRepair 15 = .ok (.ifCond .ne 7, 3) := by decide +kernel
theorem dX1_canRepair_18 : decode cX1_canRepair 18 = .ok (.iconst 1, 1) := by decide +kernel
theorem dX1_canRepair_19 : decode cX1_canRepair 19 = .ok (.goto 4, 3) := by decide +kernel
theorem dX1_canRepair_22 : decode cX1_canRepair 22 = .ok (.iconst 0, 1) := by decide +kernel
theorem dX1_canRepair_23 : decode cX1_canRepair 23 = .ok (.ireturn, 1) := by decide +kernel
theorem dX1_repair_0 : decode cX1_repair 0 = .ok (.aload_n 0, 1) := by decide +kernel
theorem dX1_repair_1 : decode cX1_repair 1 = .ok (.iload_n 1, 1) := by decide +kernel
theorem dX1_repair_2 : decode cX1_repair 2 = .ok (.iload_n 2, 1) := by decide +kernel
theorem dX1_repair_3 : decode cX1_repair 3 = .ok (.aload_n 0, 1) := by decide +kernel
theorem dX1_repair_4 : decode cX1_repair 4 = .ok (.getfield 9, 3) := by decide +kernel
theorem dX1_repair_7 : decode cX1_repair 7 = .ok (.iload_n 2, 1) := by decide +kernel
theorem dX1_repair_8 : decode cX1_repair 8 = .ok (.invokestatic 53, 3) := by decide +kernel
theorem dX1_repair_11 : decode cX1_repair 11 = .ok (.invokevirtual 82, 3) := by decide +kernel
theorem dX1_repair_14 : decode cX1_repair 14 = .ok (.return_, 1) := by decide +kernel
theorem dX1_swapSeats_0 : decode cX1_swapSeats 0 = .ok (.aload_n 0, 1) := by decide +kernel
theorem dX1_swapSeats_1 : decode cX1_swapSeats 1 = .ok (.getfield 15, 3) := by decide +kernel
theorem dX1_swapSeats_4 : decode cX1_swapSeats 4 = .ok (.iload_n 1, 1) := by decide +kernel
theorem dX1_swapSeats_5 : decode cX1_swapSeats 5 = .ok (.iload_n 2, 1) := by decide +kernel
theorem dX1_swapSeats_6 : decode cX1_swapSeats 6 = .ok (.invokestatic 92, 3) := by decide +kernel
theorem dX1_swapSeats_9 : decode cX1_swapSeats 9 = .ok (.aload_n 0, 1) := by decide +kernel
theorem dX1_swapSeats_10 : decode cX1_swapSeats 10 = .ok (.getfield 18, 3) := by decide +kernel
theorem dX1_swapSeats_13 : decode cX1_swapSeats 13 = .ok (.iload_n 1, 1) := by decide +kernel
theorem dX1_swapSeats_14 : decode cX1_swapSeats 14 = .ok (.iload_n 2, 1) := by decide +kernel
theorem dX1_swapSeats_15 : decode cX1_swapSeats 15 = .ok (.invokestatic 92, 3) := by decide +kernel
theorem dX1_swapSeats_18 : decode cX1_swapSeats 18 = .ok (.aload_n 0, 1) := by decide +kernel
theorem dX1_swapSeats_19 : decode cX1_swapSeats 19 = .ok (.getfield 21, 3) := by decide +kernel
theorem dX1_swapSeats_22 : decode cX1_swapSeats 22 = .ok (.iload_n 1, 1) := by decide +kernel
theorem dX1_swapSeats_23 : decode cX1_swapSeats 23 = .ok (.iload_n 2, 1) := by decide +kernel
theorem dX1_swapSeats_24 : decode cX1_swapSeats 24 = .ok (.invokestatic 92, 3) := by decide +kernel
theorem dX1_swapSeats_27 : decode cX1_swapSeats 27 = .ok (.aload_n 0, 1) := by decide +kernel
theorem dX1_swapSeats_28 : decode cX1_swapSeats 28 = .ok (.getfield 24, 3) := by decide +kernel
theorem dX1_swapSeats_31 : decode cX1_swapSeats 31 = .ok (.iload_n 1, 1) := by decide +kernel
theorem dX1_swapSeats_32 : decode cX1_swapSeats 32 = .ok (.iload_n 2, 1) := by decide +kernel
theorem dX1_swapSeats_33 : decode cX1_swapSeats 33 = .ok (.invokestatic 92, 3) := by decide +kernel
theorem dX1_swapSeats_36 : decode cX1_swapSeats 36 = .ok (.iconst 0, 1) := by decide +kernel
theorem dX1_swapSeats_37 : decode cX1_swapSeats 37 = .ok (.istore_n 3, 1) := by decide +kernel
theorem dX1_swapSeats_38 : decode cX1_swapSeats 38 = .ok (.iload_n 3, 1) := by decide +kernel
theorem dX1_swapSeats_39 : decode cX1_swapSeats 39 = .ok (.aload_n 0, 1) := by decide +kernel
theorem dX1_swapSeats_40 : decode cX1_swapSeats 40 = .ok (.getfield 36, 3) := by decide +kernel
theorem dX1_swapSeats_43 : decode cX1_swapSeats 43 = .ok (.if_icmp .ge 47, 3) := by decide +kernel
theorem dX1_swapSeats_46 : decode cX1_swapSeats 46 = .ok (.aload_n 0, 1) := by decide +kernel
theorem dX1_swapSeats_47 : decode cX1_swapSeats 47 = .ok (.getfield 27, 3) := by decide +kernel
theorem dX1_swapSeats_50 : decode cX1_swapSeats 50 = .ok (.bipush 8, 2) := by decide +kernel
theorem dX1_swapSeats_52 : decode cX1_swapSeats 52 = .ok (.iload_n 1, 1) := by decide +kernel
theorem dX1_swapSeats_53 : decode cX1_swapSeats 53 = .ok (.imul, 1) := by decide +kernel
theorem dX1_swapSeats_54 : decode cX1_swapSeats 54 = .ok (.iload_n 3, 1) := by decide +kernel
theorem dX1_swapSeats_55 : decode cX1_swapSeats 55 = .ok (.iadd, 1) := by decide +kernel
theorem dX1_swapSeats_56 : decode cX1_swapSeats 56 = .ok (.bipush 8, 2) := by decide +kernel
theorem dX1_swapSeats_58 : decode cX1_swapSeats 58 = .ok (.iload_n 2, 1) := by decide +kernel
theorem dX1_swapSeats_59 : decode cX1_swapSeats 59 = .ok (.imul, 1) := by decide +kernel
theorem dX1_swapSeats_60 : decode cX1_swapSeats 60 = .ok (.iload_n 3, 1) := by decide +kernel
theorem dX1_swapSeats_61 : decode cX1_swapSeats 61 = .ok (.iadd, 1) := by decide +kernel
theorem dX1_swapSeats_62 : decode cX1_swapSeats 62 = .ok (.invokestatic 92, 3) := by decide +kernel
theorem dX1_swapSeats_65 : decode cX1_swapSeats 65 = .ok (.aload_n 0, 1) := by decide +kernel
theorem dX1_swapSeats_66 : decode cX1_swapSeats 66 = .ok (.getfield 30, 3) := by decide +kernel
theorem dX1_swapSeats_69 : decode cX1_swapSeats 69 = .ok (.bipush 8, 2) := by decide +kernel
theorem dX1_swapSeats_71 : decode cX1_swapSeats 71 = .ok (.iload_n 1, 1) := by decide +kernel
theorem dX1_swapSeats_72 : decode cX1_swapSeats 72 = .ok (.imul, 1) := by decide +kernel
theorem dX1_swapSeats_73 : decode cX1_swapSeats 73 = .ok (.iload_n 3, 1) := by decide +kernel
theorem dX1_swapSeats_74 : decode cX1_swapSeats 74 = .ok (.iadd, 1) := by decide +kernel
theorem dX1_swapSeats_75 : decode cX1_swapSeats 75 = .ok (.bipush 8, 2) := by decide +kernel
theorem dX1_swapSeats_77 : decode cX1_swapSeats 77 = .ok (.iload_n 2, 1) := by decide +kernel
theorem dX1_swapSeats_78 : decode cX1_swapSeats 78 = .ok (.imul, 1) := by decide +kernel
theorem dX1_swapSeats_79 : decode cX1_swapSeats 79 = .ok (.iload_n 3, 1) := by decide +kernel
theorem dX1_swapSeats_80 : decode cX1_swapSeats 80 = .ok (.iadd, 1) := by decide +kernel
theorem dX1_swapSeats_81 : decode cX1_swapSeats 81 = .ok (.invokestatic 92, 3) := by decide +kernel
theorem dX1_swapSeats_84 : decode cX1_swapSeats 84 = .ok (.iinc 3 1, 3) := by decide +kernel
theorem dX1_swapSeats_87 : decode cX1_swapSeats 87 = .ok (.goto (-49), 3) := by decide +kernel
theorem dX1_swapSeats_90 : decode cX1_swapSeats 90 = .ok (.return_, 1) := by decide +kernel
theorem dX1_spend_0 : decode cX1_spend 0 = .ok (.iconst 0, 1) := by decide +kernel
theorem dX1_spend_1 : decode cX1_spend 1 = .ok (.istore_n 2, 1) := by decide +kernel
theorem dX1_spend_2 : decode cX1_spend 2 = .ok (.iload_n 2, 1) := by decide +kernel
theorem dX1_spend_3 : decode cX1_spend 3 = .ok (.iload_n 1, 1) := by decide +kernel
theorem dX1_spend_4 : decode cX1_spend 4 = .ok (.if_icmp .ge 14, 3) := by decide +kernel
theorem dX1_spend_7 : decode cX1_spend 7 = .ok (.aload_n 0, 1) := by decide +kernel
theorem dX1_spend_8 : decode cX1_spend 8 = .ok (.iconst 1, 1) := by decide +kernel
theorem dX1_spend_9 : decode cX1_spend 9 = .ok (.invokevirtual 95, 3) := by decide +kernel
theorem dX1_spend_12 : decode cX1_spend 12 = .ok (.iinc 2 1, 3) := by decide +kernel
theorem dX1_spend_15 : decode cX1_spend 15 = .ok (.goto (-13), 3) := by decide +kernel
theorem dX1_spend_18 : decode cX1_spend 18 = .ok (.return_, 1) := by decide +kernel
theorem dX1_spendDay_0 : decode cX1_spendDay 0 = .ok (.iconst 0, 1) := by decide +kernel
theorem dX1_spendDay_1 : decode cX1_spendDay 1 = .ok (.istore_n 2, 1) := by decide +kernel
theorem dX1_spendDay_2 : decode cX1_spendDay 2 = .ok (.iload_n 2, 1) := by decide +kernel
theorem dX1_spendDay_3 : decode cX1_spendDay 3 = .ok (.aload_n 0, 1) := by decide +kernel
theorem dX1_spendDay_4 : decode cX1_spendDay 4 = .ok (.getfield 40, 3) := by decide +kernel
theorem dX1_spendDay_7 : decode cX1_spendDay 7 = .ok (.if_icmp .ge 53, 3) := by decide +kernel
theorem dX1_spendDay_10 : decode cX1_spendDay 10 = .ok (.aload_n 0, 1) := by decide +kernel
theorem dX1_spendDay_11 : decode cX1_spendDay 11 = .ok (.getfield 33, 3) := by decide +kernel
theorem dX1_spendDay_14 : decode cX1_spendDay 14 = .ok (.iload_n 2, 1) := by decide +kernel
theorem dX1_spendDay_15 : decode cX1_spendDay 15 = .ok (.iload_n 1, 1) := by decide +kernel
theorem dX1_spendDay_16 : decode cX1_spendDay 16 = .ok (.ifCond .eq 33, 3) := by decide +kernel
theorem dX1_spendDay_19 : decode cX1_spendDay 19 = .ok (.aload_n 0, 1) := by decide +kernel
theorem dX1_spendDay_20 : decode cX1_spendDay 20 = .ok (.aload_n 0, 1) := by decide +kernel
theorem dX1_spendDay_21 : decode cX1_spendDay 21 = .ok (.getfield 21, 3) := by decide +kernel
theorem dX1_spendDay_24 : decode cX1_spendDay 24 = .ok (.iload_n 2, 1) := by decide +kernel
theorem dX1_spendDay_25 : decode cX1_spendDay 25 = .ok (.invokestatic 53, 3) := by decide +kernel
theorem dX1_spendDay_28 : decode cX1_spendDay 28 = .ok (.aload_n 0, 1) := by decide +kernel
theorem dX1_spendDay_29 : decode cX1_spendDay 29 = .ok (.getfield 21, 3) := by decide +kernel
theorem dX1_spendDay_32 : decode cX1_spendDay 32 = .ok (.aload_n 0, 1) := by decide +kernel
theorem dX1_spendDay_33 : decode cX1_spendDay 33 = .ok (.iload_n 2, 1) := by decide +kernel
theorem dX1_spendDay_34 : decode cX1_spendDay 34 = .ok (.invokevirtual 99, 3) := by decide +kernel
theorem dX1_spendDay_37 : decode cX1_spendDay 37 = .ok (.invokestatic 53, 3) := by decide +kernel
theorem dX1_spendDay_40 : decode cX1_spendDay 40 = .ok (.iconst (-1), 1) := by decide +kernel
theorem dX1_spendDay_41 : decode cX1_spendDay 41 = .ok (.ixor, 1) := by decide +kernel
theorem dX1_spendDay_42 : decode cX1_spendDay 42 = .ok (.iand, 1) := by decide +kernel
theorem dX1_spendDay_43 : decode cX1_spendDay 43 = .ok (.invokevirtual 102, 3) := by decide +kernel
theorem dX1_spendDay_46 : decode cX1_spendDay 46 = .ok (.goto 5, 3) := by decide +kernel
theorem dX1_spendDay_49 : decode cX1_spendDay 49 = .ok (.bipush (-4), 2) := by decide +kernel
theorem dX1_spendDay_51 : decode cX1_spendDay 51 = .ok (.invokestatic 70, 3) := by decide +kernel
theorem dX1_spendDay_54 : decode cX1_spendDay 54 = .ok (.iinc 2 1, 3) := by decide +kernel
theorem dX1_spendDay_57 : decode cX1_spendDay 57 = .ok (.goto (-55), 3) := by decide +kernel
theorem dX1_spendDay_60 : decode cX1_spendDay 60 = .ok (.iconst 0, 1) := by decide +kernel
theorem dX1_spendDay_61 : decode cX1_spendDay 61 = .ok (.istore_n 2, 1) := by decide +kernel
theorem dX1_spendDay_62 : decode cX1_spendDay 62 = .ok (.iload_n 2, 1) := by decide +kernel
theorem dX1_spendDay_63 : decode cX1_spendDay 63 = .ok (.aload_n 0, 1) := by decide +kernel
theorem dX1_spendDay_64 : decode cX1_spendDay 64 = .ok (.getfield 40, 3) := by decide +kernel
theorem dX1_spendDay_67 : decode cX1_spendDay 67 = .ok (.if_icmp .ge 22, 3) := by decide +kernel
theorem dX1_spendDay_70 : decode cX1_spendDay 70 = .ok (.aload_n 0, 1) := by decide +kernel
theorem dX1_spendDay_71 : decode cX1_spendDay 71 = .ok (.iload_n 2, 1) := by decide +kernel
theorem dX1_spendDay_72 : decode cX1_spendDay 72 = .ok (.aload_n 0, 1) := by decide +kernel
theorem dX1_spendDay_73 : decode cX1_spendDay 73 = .ok (.getfield 33, 3) := by decide +kernel
theorem dX1_spendDay_76 : decode cX1_spendDay 76 = .ok (.iload_n 2, 1) := by decide +kernel
theorem dX1_spendDay_77 : decode cX1_spendDay 77 = .ok (.invokestatic 53, 3) := by decide +kernel
theorem dX1_spendDay_80 : decode cX1_spendDay 80 = .ok (.invokevirtual 105, 3) := by decide +kernel
theorem dX1_spendDay_83 : decode cX1_spendDay 83 = .ok (.iinc 2 1, 3) := by decide +kernel
theorem dX1_spendDay_86 : decode cX1_spendDay 86 = .ok (.goto (-24), 3) := by decide +kernel
theorem dX1_spendDay_89 : decode cX1_spendDay 89 = .ok (.iconst 0, 1) := by decide +kernel
theorem dX1_spendDay_90 : decode cX1_spendDay 90 = .ok (.istore_n 2, 1) := by decide +kernel
theorem dX1_spendDay_91 : decode cX1_spendDay 91 = .ok (.iload_n 2, 1) := by decide +kernel
theorem dX1_spendDay_92 : decode cX1_spendDay 92 = .ok (.aload_n 0, 1) := by decide +kernel
theorem dX1_spendDay_93 : decode cX1_spendDay 93 = .ok (.getfield 40, 3) := by decide +kernel
theorem dX1_spendDay_96 : decode cX1_spendDay 96 = .ok (.if_icmp .ge 22, 3) := by decide +kernel
theorem dX1_spendDay_99 : decode cX1_spendDay 99 = .ok (.aload_n 0, 1) := by decide +kernel
theorem dX1_spendDay_100 : decode cX1_spendDay 100 = .ok (.iload_n 2, 1) := by decide +kernel
theorem dX1_spendDay_101 : decode cX1_spendDay 101 = .ok (.aload_n 0, 1) := by decide +kernel
theorem dX1_spendDay_102 : decode cX1_spendDay 102 = .ok (.getfield 33, 3) := by decide +kernel
theorem dX1_spendDay_105 : decode cX1_spendDay 105 = .ok (.iload_n 2, 1) := by decide +kernel
theorem dX1_spendDay_106 : decode cX1_spendDay 106 = .ok (.invokestatic 53, 3) := by decide +kernel
theorem dX1_spendDay_109 : decode cX1_spendDay 109 = .ok (.invokevirtual 109, 3) := by decide +kernel
theorem dX1_spendDay_112 : decode cX1_spendDay 112 = .ok (.iinc 2 1, 3) := by decide +kernel
theorem dX1_spendDay_115 : decode cX1_spendDay 115 = .ok (.goto (-24), 3) := by decide +kernel
theorem dX1_spendDay_118 : decode cX1_spendDay 118 = .ok (.aload_n 0, 1) := by decide +kernel
theorem dX1_spendDay_119 : decode cX1_spendDay 119 = .ok (.dup, 1) := by decide +kernel
theorem dX1_spendDay_120 : decode cX1_spendDay 120 = .ok (.getfield 46, 3) := by decide +kernel
theorem dX1_spendDay_123 : decode cX1_spendDay 123 = .ok (.iconst 1, 1) := by decide +kernel
theorem dX1_spendDay_124 : decode cX1_spendDay 124 = .ok (.iadd, 1) := by decide +kernel
theorem dX1_spendDay_125 : decode cX1_spendDay 125 = .ok (.putfield 46, 3) := by decide +kernel
theorem dX1_spendDay_128 : decode cX1_spendDay 128 = .ok (.return_, 1) := by decide +kernel
theorem dX1_nextSeat_0 : decode cX1_nextSeat 0 = .ok (.iload_n 1, 1) := by decide +kernel
theorem dX1_nextSeat_1 : decode cX1_nextSeat 1 = .ok (.iconst 1, 1) := by decide +kernel
theorem dX1_nextSeat_2 : decode cX1_nextSeat 2 = .ok (.iadd, 1) := by decide +kernel
theorem dX1_nextSeat_3 : decode cX1_nextSeat 3 = .ok (.aload_n 0, 1) := by decide +kernel
theorem dX1_nextSeat_4 : decode cX1_nextSeat 4 = .ok (.getfield 40, 3) := by decide +kernel
theorem dX1_nextSeat_7 : decode cX1_nextSeat 7 = .ok (.if_icmp .ge 9, 3) := by decide +kernel
theorem dX1_nextSeat_10 : decode cX1_nextSeat 10 = .ok (.iload_n 1, 1) := by decide +kernel
theorem dX1_nextSeat_11 : decode cX1_nextSeat 11 = .ok (.iconst 1, 1) := by decide +kernel
theorem dX1_nextSeat_12 : decode cX1_nextSeat 12 = .ok (.iadd, 1) := by decide +kernel
theorem dX1_nextSeat_13 : decode cX1_nextSeat 13 = .ok (.goto 4, 3) := by decide +kernel
theorem dX1_nextSeat_16 : decode cX1_nextSeat 16 = .ok (.iconst 0, 1) := by decide +kernel
theorem dX1_nextSeat_17 : decode cX1_nextSeat 17 = .ok (.ireturn, 1) := by decide +kernel
theorem dX1_lowest_0 : decode cX1_lowest 0 = .ok (.iload_n 1, 1) := by decide +kernel
theorem dX1_lowest_1 : decode cX1_lowest 1 = .ok (.ifCond .ne 8, 3) := by decide +kernel
theorem dX1_lowest_4 : decode cX1_lowest 4 = .ok (.bipush (-4), 2) := by decide +kernel
theorem dX1_lowest_6 : decode cX1_lowest 6 = .ok (.goto 12, 3) := by decide +kernel
theorem dX1_lowest_9 : decode cX1_lowest 9 = .ok (.iload_n 1, 1) := by decide +kernel
theorem dX1_lowest_10 : decode cX1_lowest 10 = .ok (.iload_n 1, 1) := by decide +kernel
theorem dX1_lowest_11 : decode cX1_lowest 11 = .ok (.ineg, 1) := by decide +kernel
theorem dX1_lowest_12 : decode cX1_lowest 12 = .ok (.iand, 1) := by decide +kernel
theorem dX1_lowest_13 : decode cX1_lowest 13 = .ok (.iconst 1, 1) := by decide +kernel
theorem dX1_lowest_14 : decode cX1_lowest 14 = .ok (.isub, 1) := by decide +kernel
theorem dX1_lowest_15 : decode cX1_lowest 15 = .ok (.invokestatic 57, 3) := by decide +kernel
theorem dX1_lowest_18 : decode cX1_lowest 18 = .ok (.ireturn, 1) := by decide +kernel
theorem dX1_growOlder_0 : decode cX1_growOlder 0 = .ok (.aload_n 0, 1) := by decide +kernel
theorem dX1_growOlder_1 : decode cX1_growOlder 1 = .ok (.getfield 18, 3) := by decide +kernel
theorem dX1_growOlder_4 : decode cX1_growOlder 4 = .ok (.iload_n 1, 1) := by decide +kernel
theorem dX1_growOlder_5 : decode cX1_growOlder 5 = .ok (.invokestatic 53, 3) := by decide +kernel
theorem dX1_growOlder_8 : decode cX1_growOlder 8 = .ok (.istore_n 3, 1) := by decide +kernel
theorem dX1_growOlder_9 : decode cX1_growOlder 9 = .ok (.iconst 0, 1) := by decide +kernel
theorem dX1_growOlder_10 : decode cX1_growOlder 10 = .ok (.istore 4, 2) := by decide +kernel
theorem dX1_growOlder_12 : decode cX1_growOlder 12 = .ok (.iload 4, 2) := by decide +kernel
theorem dX1_growOlder_14 : decode cX1_growOlder 14 = .ok (.aload_n 0, 1) := by decide +kernel
theorem dX1_growOlder_15 : decode cX1_growOlder 15 = .ok (.getfield 36, 3) := by decide +kernel
theorem dX1_growOlder_18 : decode cX1_growOlder 18 = .ok (.if_icmp .ge 69, 3) := by decide +kernel
theorem dX1_growOlder_21 : decode cX1_growOlder 21 = .ok (.aload_n 0, 1) := by decide +kernel
theorem dX1_growOlder_22 : decode cX1_growOlder 22 = .ok (.iload_n 1, 1) := by decide +kernel
theorem dX1_growOlder_23 : decode cX1_growOlder 23 = .ok (.iload 4, 2) := by decide +kernel
theorem dX1_growOlder_25 : decode cX1_growOlder 25 = .ok (.invokevirtual 74, 3) := by decide +kernel
theorem dX1_growOlder_28 : decode cX1_growOlder 28 = .ok (.ifCond .eq 53, 3) := by decide +kernel
theorem dX1_growOlder_31 : decode cX1_growOlder 31 = .ok (.iload 4, 2) := by decide +kernel
theorem dX1_growOlder_33 : decode cX1_growOlder 33 = .ok (.iload_n 2, 1) := by decide +kernel
theorem dX1_growOlder_34 : decode cX1_growOlder 34 = .ok (.if_icmp .ne 7, 3) := by decide +kernel
theorem dX1_growOlder_37 : decode cX1_growOlder 37 = .ok (.iconst 0, 1) := by decide +kernel
theorem dX1_growOlder_38 : decode cX1_growOlder 38 = .ok (.goto 12, 3) := by decide +kernel
theorem dX1_growOlder_41 : decode cX1_growOlder 41 = .ok (.aload_n 0, 1) := by decide +kernel
theorem dX1_growOlder_42 : decode cX1_growOlder 42 = .ok (.iload_n 1, 1) := by decide +kernel
theorem dX1_growOlder_43 : decode cX1_growOlder 43 = .ok (.iload 4, 2) := by decide +kernel
theorem dX1_growOlder_45 : decode cX1_growOlder 45 = .ok (.invokevirtual 112, 3) := by decide +kernel
theorem dX1_growOlder_48 : decode cX1_growOlder 48 = .ok (.iconst 1, 1) := by decide +kernel
theorem dX1_growOlder_49 : decode cX1_growOlder 49 = .ok (.iadd, 1) := by decide +kernel
theorem dX1_growOlder_50 : decode cX1_growOlder 50 = .ok (.istore 5, 2) := by decide +kernel
theorem dX1_growOlder_52 : decode cX1_growOlder 52 = .ok (.aload_n 0, 1) := by decide +kernel
theorem dX1_growOlder_53 : decode cX1_growOlder 53 = .ok (.getfield 30, 3) := by decide +kernel
theorem dX1_growOlder_56 : decode cX1_growOlder 56 = .ok (.bipush 8, 2) := by decide +kernel
theorem dX1_growOlder_58 : decode cX1_growOlder 58 = .ok (.iload_n 1, 1) := by decide +kernel
theorem dX1_growOlder_59 : decode cX1_growOlder 59 = .ok (.imul, 1) := by decide +kernel
theorem dX1_growOlder_60 : decode cX1_growOlder 60 = .ok (.iload 4, 2) := by decide +kernel
theorem dX1_growOlder_62 : decode cX1_growOlder 62 = .ok (.iadd, 1) := by decide +kernel
theorem dX1_growOlder_63 : decode cX1_growOlder 63 = .ok (.iload 5, 2) := by decide +kernel
theorem dX1_growOlder_65 : decode cX1_growOlder 65 = .ok (.invokestatic 70, 3) := by decide +kernel
theorem dX1_growOlder_68 : decode cX1_growOlder 68 = .ok (.iload 5, 2) := by decide +kernel
theorem dX1_growOlder_70 : decode cX1_growOlder 70 = .ok (.iload_n 3, 1) := by decide +kernel
theorem dX1_growOlder_71 : decode cX1_growOlder 71 = .ok (.if_icmp .lt 10, 3) := by decide +kernel
theorem dX1_growOlder_74 : decode cX1_growOlder 74 = .ok (.aload_n 0, 1) := by decide +kernel
theorem dX1_growOlder_75 : decode cX1_growOlder 75 = .ok (.iload_n 1, 1) := by decide +kernel
theorem dX1_growOlder_76 : decode cX1_growOlder 76 = .ok (.iload 4, 2) := by decide +kernel
theorem dX1_growOlder_78 : decode cX1_growOlder 78 = .ok (.invokevirtual 115, 3) := by decide +kernel
theorem dX1_growOlder_81 : decode cX1_growOlder 81 = .ok (.iinc 4 1, 3) := by decide +kernel
theorem dX1_growOlder_84 : decode cX1_growOlder 84 = .ok (.goto (-72), 3) := by decide +kernel
theorem dX1_growOlder_87 : decode cX1_growOlder 87 = .ok (.return_, 1) := by decide +kernel
theorem dX1_tellNext_0 : decode cX1_tellNext 0 = .ok (.iload_n 2, 1) := by decide +kernel
theorem dX1_tellNext_1 : decode cX1_tellNext 1 = .ok (.ifCond .lt 26, 3) := by decide +kernel
theorem dX1_tellNext_4 : decode cX1_tellNext 4 = .ok (.aload_n 0, 1) := by decide +kernel
theorem dX1_tellNext_5 : decode cX1_tellNext 5 = .ok (.iload_n 1, 1) := by decide +kernel
theorem dX1_tellNext_6 : decode cX1_tellNext 6 = .ok (.invokevirtual 99, 3) := by decide +kernel
theorem dX1_tellNext_9 : decode cX1_tellNext 9 = .ok (.istore_n 3, 1) := by decide +kernel
theorem dX1_tellNext_10 : decode cX1_tellNext 10 = .ok (.aload_n 0, 1) := by decide +kernel
theorem dX1_tellNext_11 : decode cX1_tellNext 11 = .ok (.iload_n 3, 1) := by decide +kernel
theorem dX1_tellNext_12 : decode cX1_tellNext 12 = .ok (.iload_n 2, 1) := by decide +kernel
theorem dX1_tellNext_13 : decode cX1_tellNext 13 = .ok (.aload_n 0, 1) := by decide +kernel
theorem dX1_tellNext_14 : decode cX1_tellNext 14 = .ok (.iload_n 3, 1) := by decide +kernel
theorem dX1_tellNext_15 : decode cX1_tellNext 15 = .ok (.aload_n 0, 1) := by decide +kernel
theorem dX1_tellNext_16 : decode cX1_tellNext 16 = .ok (.iload_n 1, 1) := by decide +kernel
theorem dX1_tellNext_17 : decode cX1_tellNext 17 = .ok (.iload_n 2, 1) := by decide +kernel
theorem dX1_tellNext_18 : decode cX1_tellNext 18 = .ok (.invokevirtual 78, 3) := by decide +kernel
theorem dX1_tellNext_21 : decode cX1_tellNext 21 = .ok (.invokevirtual 86, 3) := by decide +kernel
theorem dX1_tellNext_24 : decode cX1_tellNext 24 = .ok (.invokevirtual 82, 3) := by decide +kernel
theorem dX1_tellNext_27 : decode cX1_tellNext 27 = .ok (.return_, 1) := by decide +kernel
theorem dX1_befall_0 : decode cX1_befall 0 = .ok (.aload_n 0, 1) := by decide +kernel
theorem dX1_befall_1 : decode cX1_befall 1 = .ok (.getfield 40, 3) := by decide +kernel
theorem dX1_befall_4 : decode cX1_befall 4 = .ok (.ifCond .le 10, 3) := by decide +kernel
theorem dX1_befall_7 : decode cX1_befall 7 = .ok (.aload_n 0, 1) := by decide +kernel
theorem dX1_befall_8 : decode cX1_befall 8 = .ok (.getfield 36, 3) := by decide +kernel
theorem dX1_befall_11 : decode cX1_befall 11 = .ok (.ifCond .gt 4, 3) := by decide +kernel
theorem dX1_befall_14 : decode cX1_befall 14 = .ok (.return_, 1) := by decide +kernel
theorem dX1_befall_15 : decode cX1_befall 15 = .ok (.iload_n 1, 1) := by decide +kernel
theorem dX1_befall_16 : decode cX1_befall 16 = .ok (.bipush 8, 2) := by decide +kernel
theorem dX1_befall_18 : decode cX1_befall 18 = .ok (.idiv, 1) := by decide +kernel
theorem dX1_befall_19 : decode cX1_befall 19 = .ok (.aload_n 0, 1) := by decide +kernel
theorem dX1_befall_20 : decode cX1_befall 20 = .ok (.getfield 40, 3) := by decide +kernel
theorem dX1_befall_23 : decode cX1_befall 23 = .ok (.irem, 1) := by decide +kernel
theorem dX1_befall_24 : decode cX1_befall 24 = .ok (.istore_n 2, 1) := by decide +kernel
theorem dX1_befall_25 : decode cX1_befall 25 = .ok (.iload_n 1, 1) := by decide +kernel
theorem dX1_befall_26 : decode cX1_befall 26 = .ok (.bipush 64, 2) := by decide +kernel
theorem dX1_befall_28 : decode cX1_befall 28 = .ok (.idiv, 1) := by decide +kernel
theorem dX1_befall_29 : decode cX1_befall 29 = .ok (.aload_n 0, 1) := by decide +kernel
theorem dX1_befall_30 : decode cX1_befall 30 = .ok (.getfield 36, 3) := by decide +kernel
theorem dX1_befall_33 : decode cX1_befall 33 = .ok (.irem, 1) := by decide +kernel
theorem dX1_befall_34 : decode cX1_befall 34 = .ok (.istore_n 3, 1) := by decide +kernel
theorem dX1_befall_35 : decode cX1_befall 35 = .ok (.iload_n 1, 1) := by decide +kernel
theorem dX1_befall_36 : decode cX1_befall 36 = .ok (.bipush 64, 2) := by decide +kernel
theorem dX1_befall_38 : decode cX1_befall 38 = .ok (.idiv, 1) := by decide +kernel
theorem dX1_befall_39 : decode cX1_befall 39 = .ok (.aload_n 0, 1) := by decide +kernel
theorem dX1_befall_40 : decode cX1_befall 40 = .ok (.getfield 40, 3) := by decide +kernel
theorem dX1_befall_43 : decode cX1_befall 43 = .ok (.irem, 1) := by decide +kernel
theorem dX1_befall_44 : decode cX1_befall 44 = .ok (.istore 4, 2) := by decide +kernel
theorem dX1_befall_46 : decode cX1_befall 46 = .ok (.iload_n 1, 1) := by decide +kernel
theorem dX1_befall_47 : decode cX1_befall 47 = .ok (.bipush 8, 2) := by decide +kernel
theorem dX1_befall_49 : decode cX1_befall 49 = .ok (.irem, 1) := by decide +kernel
theorem dX1_befall_50 : decode cX1_befall 50 = .ok (.istore 5, 2) := by decide +kernel
theorem dX1_befall_52 : decode cX1_befall 52 = .ok (.iload 5, 2) := by decide +kernel
theorem dX1_befall_54 : decode cX1_befall 54 = .ok (.iconst 3, 1) := by decide +kernel
theorem dX1_befall_55 : decode cX1_befall 55 = .ok (.if_icmp .gt 12, 3) := by decide +kernel
theorem dX1_befall_58 : decode cX1_befall 58 = .ok (.aload_n 0, 1) := by decide +kernel
theorem dX1_befall_59 : decode cX1_befall 59 = .ok (.iload_n 2, 1) := by decide +kernel
theorem dX1_befall_60 : decode cX1_befall 60 = .ok (.iload_n 3, 1) := by decide +kernel
theorem dX1_befall_61 : decode cX1_befall 61 = .ok (.invokevirtual 118, 3) := by decide +kernel
theorem dX1_befall_64 : decode cX1_befall 64 = .ok (.goto 46, 3) := by decide +kernel
theorem dX1_befall_67 : decode cX1_befall 67 = .ok (.iload 5, 2) := by decide +kernel
theorem dX1_befall_69 : decode cX1_befall 69 = .ok (.iconst 4, 1) := by decide +kernel
theorem dX1_befall_70 : decode cX1_befall 70 = .ok (.if_icmp .ne 21, 3) := by decide +kernel
theorem dX1_befall_73 : decode cX1_befall 73 = .ok (.aload_n 0, 1) := by decide +kernel
theorem dX1_befall_74 : decode cX1_befall 74 = .ok (.iload_n 2, 1) := by decide +kernel
theorem dX1_befall_75 : decode cX1_befall 75 = .ok (.iload_n 3, 1) := by decide +kernel
theorem dX1_befall_76 : decode cX1_befall 76 = .ok (.invokevirtual 121, 3) := by decide +kernel
theorem dX1_befall_79 : decode cX1_befall 79 = .ok (.ifCond .eq 12, 3) := by decide +kernel
theorem dX1_befall_82 : decode cX1_befall 82 = .ok (.aload_n 0, 1) := by decide +kernel
theorem dX1_befall_83 : decode cX1_befall 83 = .ok (.iload_n 2, 1) := by decide +kernel
theorem dX1_befall_84 : decode cX1_befall 84 = .ok (.iload_n 3, 1) := by decide +kernel
theorem dX1_befall_85 : decode cX1_befall 85 = .ok (.invokevirtual 124, 3) := by decide +kernel
theorem dX1_befall_88 : decode cX1_befall 88 = .ok (.goto 22, 3) := by decide +kernel
theorem dX1_befall_91 : decode cX1_befall 91 = .ok (.iload 5, 2) := by decide +kernel
theorem dX1_befall_93 : decode cX1_befall 93 = .ok (.iconst 5, 1) := by decide +kernel
theorem dX1_befall_94 : decode cX1_befall 94 = .ok (.if_icmp .ne 16, 3) := by decide +kernel
theorem dX1_befall_97 : decode cX1_befall 97 = .ok (.iload_n 2, 1) := by decide +kernel
theorem dX1_befall_98 : decode cX1_befall 98 = .ok (.iload 4, 2) := by decide +kernel
theorem dX1_befall_100 : decode cX1_befall 100 = .ok (.if_icmp .eq 10, 3) := by decide +kernel
theorem dX1_befall_103 : decode cX1_befall 103 = .ok (.aload_n 0, 1) := by decide +kernel
theorem dX1_befall_104 : decode cX1_befall 104 = .ok (.iload_n 2, 1) := by decide +kernel
theorem dX1_befall_105 : decode cX1_befall 105 = .ok (.iload 4, 2) := by decide +kernel
theorem dX1_befall_107 : decode cX1_befall 107 = .ok (.invokevirtual 127, 3) := by decide +kernel
theorem dX1_befall_110 : decode cX1_befall 110 = .ok (.return_, 1) := by decide +kernel
theorem dX1_differing_0 : decode cX1_differing 0 = .ok (.aload_n 0, 1) := by decide +kernel
theorem dX1_differing_1 : decode cX1_differing 1 = .ok (.getfield 21, 3) := by decide +kernel
theorem dX1_differing_4 : decode cX1_differing 4 = .ok (.iload_n 1, 1) := by decide +kernel
theorem dX1_differing_5 : decode cX1_differing 5 = .ok (.invokestatic 53, 3) := by decide +kernel
theorem dX1_differing_8 : decode cX1_differing 8 = .ok (.aload_n 0, 1) := by decide +kernel
theorem dX1_differing_9 : decode cX1_differing 9 = .ok (.getfield 21, 3) := by decide +kernel
theorem dX1_differing_12 : decode cX1_differing 12 = .ok (.iload_n 2, 1) := by decide +kernel
theorem dX1_differing_13 : decode cX1_differing 13 = .ok (.invokestatic 53, 3) := by decide +kernel
theorem dX1_differing_16 : decode cX1_differing 16 = .ok (.ixor, 1) := by decide +kernel
theorem dX1_differing_17 : decode cX1_differing 17 = .ok (.istore_n 3, 1) := by decide +kernel
theorem dX1_differing_18 : decode cX1_differing 18 = .ok (.aload_n 0, 1) := by decide +kernel
theorem dX1_differing_19 : decode cX1_differing 19 = .ok (.getfield 21, 3) := by decide +kernel
theorem dX1_differing_22 : decode cX1_differing 22 = .ok (.iload_n 1, 1) := by decide +kernel
theorem dX1_differing_23 : decode cX1_differing 23 = .ok (.invokestatic 53, 3) := by decide +kernel
theorem dX1_differing_26 : decode cX1_differing 26 = .ok (.aload_n 0, 1) := by decide +kernel
theorem dX1_differing_27 : decode cX1_differing 27 = .ok (.getfield 21, 3) := by decide +kernel
theorem dX1_differing_30 : decode cX1_differing 30 = .ok (.iload_n 2, 1) := by decide +kernel
theorem dX1_differing_31 : decode cX1_differing 31 = .ok (.invokestatic 53, 3) := by decide +kernel
theorem dX1_differing_34 : decode cX1_differing 34 = .ok (.iand, 1) := by decide +kernel
theorem dX1_differing_35 : decode cX1_differing 35 = .ok (.istore 4, 2) := by decide +kernel
theorem dX1_differing_37 : decode cX1_differing 37 = .ok (.iconst 0, 1) := by decide +kernel
theorem dX1_differing_38 : decode cX1_differing 38 = .ok (.istore 5, 2) := by decide +kernel
theorem dX1_differing_40 : decode cX1_differing 40 = .ok (.iload 5, 2) := by decide +kernel
theorem dX1_differing_42 : decode cX1_differing 42 = .ok (.aload_n 0, 1) := by decide +kernel
theorem dX1_differing_43 : decode cX1_differing 43 = .ok (.getfield 36, 3) := by decide +kernel
theorem dX1_differing_46 : decode cX1_differing 46 = .ok (.if_icmp .ge 44, 3) := by decide +kernel
theorem dX1_differing_49 : decode cX1_differing 49 = .ok (.iload 4, 2) := by decide +kernel
theorem dX1_differing_51 : decode cX1_differing 51 = .ok (.iload 5, 2) := by decide +kernel
theorem dX1_differing_53 : decode cX1_differing 53 = .ok (.ishr, 1) := by decide +kernel
theorem dX1_differing_54 : decode cX1_differing 54 = .ok (.iconst 1, 1) := by decide +kernel
theorem dX1_differing_55 : decode cX1_differing 55 = .ok (.iand, 1) := by decide +kernel
theorem dX1_differing_56 : decode cX1_differing 56 = .ok (.iconst 1, 1) := by decide +kernel
theorem dX1_differing_57 : decode cX1_differing 57 = .ok (.if_icmp .ne 27, 3) := by decide +kernel
theorem dX1_differing_60 : decode cX1_differing 60 = .ok (.aload_n 0, 1) := by decide +kernel
theorem dX1_differing_61 : decode cX1_differing 61 = .ok (.iload_n 1, 1) := by decide +kernel
theorem dX1_differing_62 : decode cX1_differing 62 = .ok (.iload 5, 2) := by decide +kernel
theorem dX1_differing_64 : decode cX1_differing 64 = .ok (.invokevirtual 78, 3) := by decide +kernel
theorem dX1_differing_67 : decode cX1_differing 67 = .ok (.aload_n 0, 1) := by decide +kernel
theorem dX1_differing_68 : decode cX1_differing 68 = .ok (.iload_n 2, 1) := by decide +kernel
theorem dX1_differing_69 : decode cX1_differing 69 = .ok (.iload 5, 2) := by decide +kernel
theorem dX1_differing_71 : decode cX1_differing 71 = .ok (.invokevirtual 78, 3) := by decide +kernel
theorem dX1_differing_74 : decode cX1_differing 74 = .ok (.if_icmp .eq 10, 3) := by decide +kernel
theorem dX1_differing_77 : decode cX1_differing 77 = .ok (.iload_n 3, 1) := by decide +kernel
theorem dX1_differing_78 : decode cX1_differing 78 = .ok (.iconst 1, 1) := by decide +kernel
theorem dX1_differing_79 : decode cX1_differing 79 = .ok (.iload 5, 2) := by decide +kernel
theorem dX1_differing_81 : decode cX1_differing 81 = .ok (.ishl, 1) := by decide +kernel
theorem dX1_differing_82 : decode cX1_differing 82 = .ok (.ior, 1) := by decide +kernel
theorem dX1_differing_83 : decode cX1_differing 83 = .ok (.istore_n 3, 1) := by decide +kernel
theorem dX1_differing_84 : decode cX1_differing 84 = .ok (.iinc 5 1, 3) := by decide +kernel
theorem dX1_differing_87 : decode cX1_differing 87 = .ok (.goto (-47), 3) := by decide +kernel
theorem dX1_differing_90 : decode cX1_differing 90 = .ok (.iload_n 3, 1) := by decide +kernel
theorem dX1_differing_91 : decode cX1_differing 91 = .ok (.ireturn, 1) := by decide +kernel
theorem dX1_holders_0 : decode cX1_holders 0 = .ok (.iconst 0, 1) := by decide +kernel
theorem dX1_holders_1 : decode cX1_holders 1 = .ok (.istore_n 3, 1) := by decide +kernel
theorem dX1_holders_2 : decode cX1_holders 2 = .ok (.iconst 0, 1) := by decide +kernel
theorem dX1_holders_3 : decode cX1_holders 3 = .ok (.istore 4, 2) := by decide +kernel
theorem dX1_holders_5 : decode cX1_holders 5 = .ok (.iload 4, 2) := by decide +kernel
theorem dX1_holders_7 : decode cX1_holders 7 = .ok (.aload_n 0, 1) := by decide +kernel
theorem dX1_holders_8 : decode cX1_holders 8 = .ok (.getfield 40, 3) := by decide +kernel
theorem dX1_holders_11 : decode cX1_holders 11 = .ok (.if_icmp .ge 33, 3) := by decide +kernel
theorem dX1_holders_14 : decode cX1_holders 14 = .ok (.aload_n 0, 1) := by decide +kernel
theorem dX1_holders_15 : decode cX1_holders 15 = .ok (.iload 4, 2) := by decide +kernel
theorem dX1_holders_17 : decode cX1_holders 17 = .ok (.iload_n 1, 1) := by decide +kernel
theorem dX1_holders_18 : decode cX1_holders 18 = .ok (.invokevirtual 74, 3) := by decide +kernel
theorem dX1_holders_21 : decode cX1_holders 21 = .ok (.ifCond .eq 17, 3) := by decide +kernel
theorem dX1_holders_24 : decode cX1_holders 24 = .ok (.aload_n 0, 1) := by decide +kernel
theorem dX1_holders_25 : decode cX1_holders 25 = .ok (.iload 4, 2) := by decide +kernel
theorem dX1_holders_27 : decode cX1_holders 27 = .ok (.iload_n 1, 1) := by decide +kernel
theorem dX1_holders_28 : decode cX1_holders 28 = .ok (.invokevirtual 78, 3) := by decide +kernel
theorem dX1_holders_31 : decode cX1_holders 31 = .ok (.iload_n 2, 1) := by decide +kernel
theorem dX1_holders_32 : decode cX1_holders 32 = .ok (.if_icmp .ne 6, 3) := by decide +kernel
theorem dX1_holders_35 : decode cX1_holders 35 = .ok (.iinc 3 1, 3) := by decide +kernel
theorem dX1_holders_38 : decode cX1_holders 38 = .ok (.iinc 4 1, 3) := by decide +kernel
theorem dX1_holders_41 : decode cX1_holders 41 = .ok (.goto (-36), 3) := by decide +kernel
theorem dX1_holders_44 : decode cX1_holders 44 = .ok (.iload_n 3, 1) := by decide +kernel
theorem dX1_holders_45 : decode cX1_holders 45 = .ok (.ireturn, 1) := by decide +kernel
theorem dX1_isAnother_0 : decode cX1_isAnother 0 = .ok (.aload_n 0, 1) := by decide +kernel
theorem dX1_isAnother_1 : decode cX1_isAnother 1 = .ok (.iload_n 1, 1) := by decide +kernel
theorem dX1_isAnother_2 : decode cX1_isAnother 2 = .ok (.aload_n 0, 1) := by decide +kernel
theorem dX1_isAnother_3 : decode cX1_isAnother 3 = .ok (.getfield 9, 3) := by decide +kernel
theorem dX1_isAnother_6 : decode cX1_isAnother 6 = .ok (.iload_n 1, 1) := by decide +kernel
theorem dX1_isAnother_7 : decode cX1_isAnother 7 = .ok (.invokestatic 53, 3) := by decide +kernel
theorem dX1_isAnother_10 : decode cX1_isAnother 10 = .ok (.invokevirtual 130, 3) := by decide +kernel
theorem dX1_isAnother_13 : decode cX1_isAnother 13 = .ok (.istore_n 2, 1) := by decide +kernel
theorem dX1_isAnother_14 : decode cX1_isAnother 14 = .ok (.iconst 0, 1) := by decide +kernel
theorem dX1_isAnother_15 : decode cX1_isAnother 15 = .ok (.istore_n 3, 1) := by decide +kernel
theorem dX1_isAnother_16 : decode cX1_isAnother 16 = .ok (.iload_n 3, 1) := by decide +kernel
theorem dX1_isAnother_17 : decode cX1_isAnother 17 = .ok (.aload_n 0, 1) := by decide +kernel
theorem dX1_isAnother_18 : decode cX1_isAnother 18 = .ok (.getfield 40, 3) := by decide +kernel
theorem dX1_isAnother_21 : decode cX1_isAnother 21 = .ok (.if_icmp .ge 35, 3) := by decide +kernel
theorem dX1_isAnother_24 : decode cX1_isAnother 24 = .ok (.aload_n 0, 1) := by decide +kernel
theorem dX1_isAnother_25 : decode cX1_isAnother 25 = .ok (.iload_n 3, 1) := by decide +kernel
theorem dX1_isAnother_26 : decode cX1_isAnother 26 = .ok (.iload_n 1, 1) := by decide +kernel
theorem dX1_isAnother_27 : decode cX1_isAnother 27 = .ok (.invokevirtual 121, 3) := by decide +kernel
theorem dX1_isAnother_30 : decode cX1_isAnother 30 = .ok (.ifCond .eq 20, 3) := by decide +kernel
theorem dX1_isAnother_33 : decode cX1_isAnother 33 = .ok (.aload_n 0, 1) := by decide +kernel
theorem dX1_isAnother_34 : decode cX1_isAnother 34 = .ok (.iload_n 1, 1) := by decide +kernel
theorem dX1_isAnother_35 : decode cX1_isAnother 35 = .ok (.aload_n 0, 1) := by decide +kernel
theorem dX1_isAnother_36 : decode cX1_isAnother 36 = .ok (.iload_n 3, 1) := by decide +kernel
theorem dX1_isAnother_37 : decode cX1_isAnother 37 = .ok (.iload_n 1, 1) := by decide +kernel
theorem dX1_isAnother_38 : decode cX1_isAnother 38 = .ok (.invokevirtual 78, 3) := by decide +kernel
theorem dX1_isAnother_41 : decode cX1_isAnother 41 = .ok (.invokevirtual 130, 3) := by decide +kernel
theorem dX1_isAnother_44 : decode cX1_isAnother 44 = .ok (.iload_n 2, 1) := by decide +kernel
theorem dX1_isAnother_45 : decode cX1_isAnother 45 = .ok (.if_icmp .le 5, 3) := by decide +kernel
theorem dX1_isAnother_48 : decode cX1_isAnother 48 = .ok (.iconst 1, 1) := by decide +kernel
theorem dX1_isAnother_49 : decode cX1_isAnother 49 = .ok (.ireturn, 1) := by decide +kernel
theorem dX1_isAnother_50 : decode cX1_isAnother 50 = .ok (.iinc 3 1, 3) := by decide +kernel
theorem dX1_isAnother_53 : decode cX1_isAnother 53 = .ok (.goto (-37), 3) := by decide +kernel
theorem dX1_isAnother_56 : decode cX1_isAnother 56 = .ok (.iconst 0, 1) := by decide +kernel
theorem dX1_isAnother_57 : decode cX1_isAnother 57 = .ok (.ireturn, 1) := by decide +kernel
theorem dX1_having_0 : decode cX1_having 0 = .ok (.iconst 0, 1) := by decide +kernel
theorem dX1_having_1 : decode cX1_having 1 = .ok (.istore_n 3, 1) := by decide +kernel
theorem dX1_having_2 : decode cX1_having 2 = .ok (.iconst 0, 1) := by decide +kernel
theorem dX1_having_3 : decode cX1_having 3 = .ok (.istore 4, 2) := by decide +kernel
theorem dX1_having_5 : decode cX1_having 5 = .ok (.iload 4, 2) := by decide +kernel
theorem dX1_having_7 : decode cX1_having 7 = .ok (.aload_n 0, 1) := by decide +kernel
theorem dX1_having_8 : decode cX1_having 8 = .ok (.getfield 40, 3) := by decide +kernel
theorem dX1_having_11 : decode cX1_having 11 = .ok (.if_icmp .ge 73, 3) := by decide +kernel
theorem dX1_having_14 : decode cX1_having 14 = .ok (.iload_n 2, 1) := by decide +kernel
theorem dX1_having_15 : decode cX1_having 15 = .ok (.bipush 10, 2) := by decide +kernel
theorem dX1_having_17 : decode cX1_having 17 = .ok (.if_icmp .ne 21, 3) := by decide +kernel
theorem dX1_having_20 : decode cX1_having 20 = .ok (.aload_n 0, 1) := by decide +kernel
theorem dX1_having_21 : decode cX1_having 21 = .ok (.iload 4, 2) := by decide +kernel
theorem dX1_having_23 : decode cX1_having 23 = .ok (.iload_n 1, 1) := by decide +kernel
theorem dX1_having_24 : decode cX1_having 24 = .ok (.invokevirtual 74, 3) := by decide +kernel
theorem dX1_having_27 : decode cX1_having 27 = .ok (.ifCond .ne 7, 3) := by decide +kernel
theorem dX1_having_30 : decode cX1_having 30 = .ok (.iconst 1, 1) := by decide +kernel
theorem dX1_having_31 : decode cX1_having 31 = .ok (.goto 33, 3) := by decide +kernel
theorem dX1_having_34 : decode cX1_having 34 = .ok (.iconst 0, 1) := by decide +kernel
theorem dX1_having_35 : decode cX1_having 35 = .ok (.goto 29, 3) := by decide +kernel
theorem dX1_having_38 : decode cX1_having 38 = .ok (.aload_n 0, 1) := by decide +kernel
theorem dX1_having_39 : decode cX1_having 39 = .ok (.iload 4, 2) := by decide +kernel
theorem dX1_having_41 : decode cX1_having 41 = .ok (.iload_n 1, 1) := by decide +kernel
theorem dX1_having_42 : decode cX1_having 42 = .ok (.invokevirtual 74, 3) := by decide +kernel
theorem dX1_having_45 : decode cX1_having 45 = .ok (.ifCond .eq 18, 3) := by decide +kernel
theorem dX1_having_48 : decode cX1_having 48 = .ok (.aload_n 0, 1) := by decide +kernel
theorem dX1_having_49 : decode cX1_having 49 = .ok (.iload 4, 2) := by decide +kernel
theorem dX1_having_51 : decode cX1_having 51 = .ok (.iload_n 1, 1) := by decide +kernel
theorem dX1_having_52 : decode cX1_having 52 = .ok (.invokevirtual 78, 3) := by decide +kernel
theorem dX1_having_55 : decode cX1_having 55 = .ok (.iload_n 2, 1) := by decide +kernel
theorem dX1_having_56 : decode cX1_having 56 = .ok (.if_icmp .ne 7, 3) := by decide +kernel
theorem dX1_having_59 : decode cX1_having 59 = .ok (.iconst 1, 1) := by decide +kernel
theorem dX1_having_60 : decode cX1_having 60 = .ok (.goto 4, 3) := by decide +kernel
theorem dX1_having_63 : decode cX1_having 63 = .ok (.iconst 0, 1) := by decide +kernel
theorem dX1_having_64 : decode cX1_having 64 = .ok (.istore 5, 2) := by decide +kernel
theorem dX1_having_66 : decode cX1_having 66 = .ok (.iload 5, 2) := by decide +kernel
theorem dX1_having_68 : decode cX1_having 68 = .ok (.ifCond .eq 10, 3) := by decide +kernel
theorem dX1_having_71 : decode cX1_having 71 = .ok (.iload_n 3, 1) := by decide +kernel
theorem dX1_having_72 : decode cX1_having 72 = .ok (.iconst 1, 1) := by decide +kernel
theorem dX1_having_73 : decode cX1_having 73 = .ok (.iload 4, 2) := by decide +kernel
theorem dX1_having_75 : decode cX1_having 75 = .ok (.ishl, 1) := by decide +kernel
theorem dX1_having_76 : decode cX1_having 76 = .ok (.ior, 1) := by decide +kernel
theorem dX1_having_77 : decode cX1_having 77 = .ok (.istore_n 3, 1) := by decide +kernel
theorem dX1_having_78 : decode cX1_having 78 = .ok (.iinc 4 1, 3) := by decide +kernel
theorem dX1_having_81 : decode cX1_having 81 = .ok (.goto (-76), 3) := by decide +kernel
theorem dX1_having_84 : decode cX1_having 84 = .ok (.iload_n 3, 1) := by decide +kernel
theorem dX1_having_85 : decode cX1_having 85 = .ok (.ireturn, 1) := by decide +kernel
theorem dX2_init_0 : decode cX2_init 0 = .ok (.aload_n 0, 1) := by decide +kernel
theorem dX2_init_1 : decode cX2_init 1 = .ok (.invokespecial 3, 3) := by decide +kernel
theorem dX2_init_4 : decode cX2_init 4 = .ok (.aload_n 0, 1) := by decide +kernel
theorem dX2_init_5 : decode cX2_init 5 = .ok (.sipush 200, 3) := by decide +kernel
theorem dX2_init_8 : decode cX2_init 8 = .ok (.newarray .int, 2) := by decide +kernel
theorem dX2_init_10 : decode cX2_init 10 = .ok (.putfield 9, 3) := by decide +kernel
theorem dX2_init_13 : decode cX2_init 13 = .ok (.aload_n 0, 1) := by decide +kernel
theorem dX2_init_14 : decode cX2_init 14 = .ok (.iconst 0, 1) := by decide +kernel
theorem dX2_init_15 : decode cX2_init 15 = .ok (.putfield 15, 3) := by decide +kernel
theorem dX2_init_18 : decode cX2_init 18 = .ok (.aload_n 0, 1) := by decide +kernel
theorem dX2_init_19 : decode cX2_init 19 = .ok (.iconst 0, 1) := by decide +kernel
theorem dX2_init_20 : decode cX2_init 20 = .ok (.putfield 19, 3) := by decide +kernel
theorem dX2_init_23 : decode cX2_init 23 = .ok (.aload_n 0, 1) := by decide +kernel
theorem dX2_init_24 : decode cX2_init 24 = .ok (.iconst 0, 1) := by decide +kernel
theorem dX2_init_25 : decode cX2_init 25 = .ok (.putfield 22, 3) := by decide +kernel
theorem dX2_init_28 : decode cX2_init 28 = .ok (.return_, 1) := by decide +kernel
theorem dX2_append_0 : decode cX2_append 0 = .ok (.aload_n 0, 1) := by decide +kernel
theorem dX2_append_1 : decode cX2_append 1 = .ok (.getfield 15, 3) := by decide +kernel
theorem dX2_append_4 : decode cX2_append 4 = .ok (.sipush 200, 3) := by decide +kernel
theorem dX2_append_7 : decode cX2_append 7 = .ok (.if_icmp .lt 5, 3) := by decide +kernel
theorem dX2_append_10 : decode cX2_append 10 = .ok (.iconst 0, 1) := by decide +kernel
theorem dX2_append_11 : decode cX2_append 11 = .ok (.ireturn, 1) := by decide +kernel
theorem dX2_append_12 : decode cX2_append 12 = .ok (.aload_n 0, 1) := by decide +kernel
theorem dX2_append_13 : decode cX2_append 13 = .ok (.getfield 9, 3) := by decide +kernel
theorem dX2_append_16 : decode cX2_append 16 = .ok (.aload_n 0, 1) := by decide +kernel
theorem dX2_append_17 : decode cX2_append 17 = .ok (.getfield 15, 3) := by decide +kernel
theorem dX2_append_20 : decode cX2_append 20 = .ok (.iload_n 1, 1) := by decide +kernel
theorem dX2_append_21 : decode cX2_append 21 = .ok (.invokestatic 26, 3) := by decide +kernel
theorem dX2_append_24 : decode cX2_append 24 = .ok (.aload_n 0, 1) := by decide +kernel
theorem dX2_append_25 : decode cX2_append 25 = .ok (.dup, 1) := by decide +kernel
theorem dX2_append_26 : decode cX2_append 26 = .ok (.getfield 15, 3) := by decide +kernel
theorem dX2_append_29 : decode cX2_append 29 = .ok (.iconst 1, 1) := by decide +kernel
theorem dX2_append_30 : decode cX2_append 30 = .ok (.iadd, 1) := by decide +kernel
theorem dX2_append_31 : decode cX2_append 31 = .ok (.putfield 15, 3) := by decide +kernel
theorem dX2_append_34 : decode cX2_append 34 = .ok (.iconst 1, 1) := by decide +kernel
theorem dX2_append_35 : decode cX2_append 35 = .ok (.ireturn, 1) := by decide +kernel
theorem dX2_take_0 : decode cX2_take 0 = .ok (.aload_n 0, 1) := by decide +kernel
theorem dX2_take_1 : decode cX2_take 1 = .ok (.iconst 0, 1) := by decide +kernel
theorem dX2_take_2 : decode cX2_take 2 = .ok (.putfield 15, 3) := by decide +kernel
theorem dX2_take_5 : decode cX2_take 5 = .ok (.aload_n 1, 1) := by decide +kernel
theorem dX2_take_6 : decode cX2_take 6 = .ok (.ifnull 29, 3) := by decide +kernel
theorem dX2_take_9 : decode cX2_take 9 = .ok (.iconst 0, 1) := by decide +kernel
theorem dX2_take_10 : decode cX2_take 10 = .ok (.istore_n 2, 1) := by decide +kernel
theorem dX2_take_11 : decode cX2_take 11 = .ok (.iload_n 2, 1) := by decide +kernel
theorem dX2_take_12 : decode cX2_take 12 = .ok (.aload_n 1, 1) := by decide +kernel
theorem dX2_take_13 : decode cX2_take 13 = .ok (.invokevirtual 30, 3) := by decide +kernel
theorem dX2_take_16 : decode cX2_take 16 = .ok (.if_icmp .ge 19, 3) := by decide +kernel
theorem dX2_take_19 : decode cX2_take 19 = .ok (.aload_n 0, 1) := by decide +kernel
theorem dX2_take_20 : decode cX2_take 20 = .ok (.aload_n 1, 1) := by decide +kernel
theorem dX2_take_21 : decode cX2_take 21 = .ok (.iload_n 2, 1) := by decide +kernel
theorem dX2_take_22 : decode cX2_take 22 = .ok (.invokevirtual 35, 3) := by decide +kernel
theorem dX2_take_25 : decode cX2_take 25 = .ok (.invokevirtual 39, 3) := by decide +kernel
theorem dX2_take_28 : decode cX2_take 28 = .ok (.pop, 1) := by decide +kernel
theorem dX2_take_29 : decode cX2_take 29 = .ok (.iinc 2 1, 3) := by decide +kernel
theorem dX2_take_32 : decode cX2_take 32 = .ok (.goto (-21), 3) := by decide +kernel
theorem dX2_take_35 : decode cX2_take 35 = .ok (.return_, 1) := by decide +kernel
theorem dX2_readInto_0 : decode cX2_readInto 0 = .ok (.aload_n 1, 1) := by decide +kernel
theorem dX2_readInto_1 : decode cX2_readInto 1 = .ok (.ifnonnull 5, 3) := by decide +kernel
theorem dX2_readInto_4 : decode cX2_readInto 4 = .ok (.iconst 0, 1) := by decide +kernel
theorem dX2_readInto_5 : decode cX2_readInto 5 = .ok (.ireturn, 1) := by decide +kernel
theorem dX2_readInto_6 : decode cX2_readInto 6 = .ok (.aload_n 1, 1) := by decide +kernel
theorem dX2_readInto_7 : decode cX2_readInto 7 = .ok (.invokevirtual 43, 3) := by decide +kernel
theorem dX2_readInto_10 : decode cX2_readInto 10 = .ok (.aload_n 0, 1) := by decide +kernel
theorem dX2_readInto_11 : decode cX2_readInto 11 = .ok (.iconst 0, 1) := by decide +kernel
theorem dX2_readInto_12 : decode cX2_readInto 12 = .ok (.putfield 19, 3) := by decide +kernel
theorem dX2_readInto_15 : decode cX2_readInto 15 = .ok (.aload_n 0, 1) := by decide +kernel
theorem dX2_readInto_16 : decode cX2_readInto 16 = .ok (.iconst 0, 1) := by decide +kernel
theorem dX2_readInto_17 : decode cX2_readInto 17 = .ok (.putfield 22, 3) := by decide +kernel
theorem dX2_readInto_20 : decode cX2_readInto 20 = .ok (.iconst 0, 1) := by decide +kernel
theorem dX2_readInto_21 : decode cX2_readInto 21 = .ok (.istore_n 2, 1) := by decide +kernel
theorem dX2_readInto_22 : decode cX2_readInto 22 = .ok (.iload_n 2, 1) := by decide +kernel
theorem dX2_readInto_23 : decode cX2_readInto 23 = .ok (.sipush 200, 3) := by decide +kernel
theorem dX2_readInto_26 : decode cX2_readInto 26 = .ok (.if_icmp .ge 35, 3) := by decide +kernel
theorem dX2_readInto_29 : decode cX2_readInto 29 = .ok (.aload_n 0, 1) := by decide +kernel
theorem dX2_readInto_30 : decode cX2_readInto 30 = .ok (.getfield 19, 3) := by decide +kernel
theorem dX2_readInto_33 : decode cX2_readInto 33 = .ok (.aload_n 0, 1) := by decide +kernel
theorem dX2_readInto_34 : decode cX2_readInto 34 = .ok (.getfield 15, 3) := by decide +kernel
theorem dX2_readInto_37 : decode cX2_readInto 37 = .ok (.if_icmp .ge 24, 3) := by decide +kernel
theorem dX2_readInto_40 : decode cX2_readInto 40 = .ok (.aload_n 0, 1) := by decide +kernel
theorem dX2_readInto_41 : decode cX2_readInto 41 = .ok (.getfield 19, 3) := by decide +kernel
theorem dX2_readInto_44 : decode cX2_readInto 44 = .ok (.istore_n 3, 1) := by decide +kernel
theorem dX2_readInto_45 : decode cX2_readInto 45 = .ok (.aload_n 0, 1) := by decide +kernel
theorem dX2_readInto_46 : decode cX2_readInto 46 = .ok (.aload_n 1, 1) := by decide +kernel
theorem dX2_readInto_47 : decode cX2_readInto 47 = .ok (.invokevirtual 48, 3) := by decide +kernel
theorem dX2_readInto_50 : decode cX2_readInto 50 = .ok (.ifCond .ne 5, 3) := by decide +kernel
theorem dX2_readInto_53 : decode cX2_readInto 53 = .ok (.iload_n 3, 1) := by decide +kernel
theorem dX2_readInto_54 : decode cX2_readInto 54 = .ok (.ireturn, 1) := by decide +kernel
theorem dX2_readInto_55 : decode cX2_readInto 55 = .ok (.iinc 2 1, 3) := by decide +kernel
theorem dX2_readInto_58 : decode cX2_readInto 58 = .ok (.goto (-36), 3) := by decide +kernel
theorem dX2_readInto_61 : decode cX2_readInto 61 = .ok (.bipush (-4), 2) := by decide +kernel
theorem dX2_readInto_63 : decode cX2_readInto 63 = .ok (.ireturn, 1) := by decide +kernel
theorem dX2_readItem_0 : decode cX2_readItem 0 = .ok (.aload_n 0, 1) := by decide +kernel
theorem dX2_readItem_1 : decode cX2_readItem 1 = .ok (.invokevirtual 52, 3) := by decide +kernel
theorem dX2_readItem_4 : decode cX2_readItem 4 = .ok (.tableswitch 54 115 119 #[48, 36, 54, 54, 42], 36) := by decide +kernel
theorem dX2_readItem_40 : decode cX2_readItem 40 = .ok (.aload_n 0, 1) := by decide +kernel
theorem dX2_readItem_41 : decode cX2_readItem 41 = .ok (.aload_n 1, 1) := by decide +kernel
theorem dX2_readItem_42 : decode cX2_readItem 42 = .ok (.invokevirtual 55, 3) := by decide +kernel
theorem dX2_readItem_45 : decode cX2_readItem 45 = .ok (.ireturn, 1) := by decide +kernel
theorem dX2_readItem_46 : decode cX2_readItem 46 = .ok (.aload_n 0, 1) := by decide +kernel
theorem dX2_readItem_47 : decode cX2_readItem 47 = .ok (.aload_n 1, 1) := by decide +kernel
theorem dX2_readItem_48 : decode cX2_readItem 48 = .ok (.invokevirtual 58, 3) := by decide +kernel
theorem dX2_readItem_51 : decode cX2_readItem 51 = .ok (.ireturn, 1) := by decide +kernel
theorem dX2_readItem_52 : decode cX2_readItem 52 = .ok (.aload_n 0, 1) := by decide +kernel
theorem dX2_readItem_53 : decode cX2_readItem 53 = .ok (.aload_n 1, 1) := by decide +kernel
theorem dX2_readItem_54 : decode cX2_readItem 54 = .ok (.invokevirtual 61, 3) := by decide +kernel
theorem dX2_readItem_57 : decode cX2_readItem 57 = .ok (.ireturn, 1) := by decide +kernel
theorem dX2_readItem_58 : decode cX2_readItem 58 = .ok (.iconst 0, 1) := by decide +kernel
theorem dX2_readItem_59 : decode cX2_readItem 59 = .ok (.ireturn, 1) := by decide +kernel
theorem dX2_readTongue_0 : decode cX2_readTongue 0 = .ok (.aload_n 0, 1) := by decide +kernel
theorem dX2_readTongue_1 : decode cX2_readTongue 1 = .ok (.getfield 22, 3) := by decide +kernel
theorem dX2_readTongue_4 : decode cX2_readTongue 4 = .ok (.ifCond .eq 5, 3) := by decide +kernel
theorem dX2_readTongue_7 : decode cX2_readTongue 7 = .ok (.iconst 0, 1) := by decide +kernel
theorem dX2_readTongue_8 : decode cX2_readTongue 8 = .ok (.ireturn, 1) := by decide +kernel
theorem dX2_readTongue_9 : decode cX2_readTongue 9 = .ok (.iconst 0, 1) := by decide +kernel
theorem dX2_readTongue_10 : decode cX2_readTongue 10 = .ok (.istore_n 2, 1) := by decide +kernel
theorem dX2_readTongue_11 : decode cX2_readTongue 11 = .ok (.iload_n 2, 1) := by decide +kernel
theorem dX2_readTongue_12 : decode cX2_readTongue 12 = .ok (.bipush 8, 2) := by decide +kernel
theorem dX2_readTongue_14 : decode cX2_readTongue 14 = .ok (.if_icmp .gt 65, 3) := by decide +kernel
theorem dX2_readTongue_17 : decode cX2_readTongue 17 = .ok (.aload_n 0, 1) := by decide +kernel
theorem dX2_readTongue_18 : decode cX2_readTongue 18 = .ok (.invokevirtual 52, 3) := by decide +kernel
theorem dX2_readTongue_21 : decode cX2_readTongue 21 = .ok (.istore_n 3, 1) := by decide +kernel
theorem dX2_readTongue_22 : decode cX2_readTongue 22 = .ok (.iload_n 3, 1) := by decide +kernel
theorem dX2_readTongue_23 : decode cX2_readTongue 23 = .ok (.bipush 59, 2) := by decide +kernel
theorem dX2_readTongue_25 : decode cX2_readTongue 25 = .ok (.if_icmp .ne 13, 3) := by decide +kernel
theorem dX2_readTongue_28 : decode cX2_readTongue 28 = .ok (.iload_n 2, 1) := by decide +kernel
theorem dX2_readTongue_29 : decode cX2_readTongue 29 = .ok (.ifCond .le 7, 3) := by decide +kernel
theorem dX2_readTongue_32 : decode cX2_readTongue 32 = .ok (.iconst 1, 1) := by decide +kernel
theorem dX2_readTongue_33 : decode cX2_readTongue 33 = .ok (.goto 4, 3) := by decide +kernel
theorem dX2_readTongue_36 : decode cX2_readTongue 36 = .ok (.iconst 0, 1) := by decide +kernel
theorem dX2_readTongue_37 : decode cX2_readTongue 37 = .ok (.ireturn, 1) := by decide +kernel
theorem dX2_readTongue_38 : decode cX2_readTongue 38 = .ok (.aload_n 0, 1) := by decide +kernel
theorem dX2_readTongue_39 : decode cX2_readTongue 39 = .ok (.iload_n 3, 1) := by decide +kernel
theorem dX2_readTongue_40 : decode cX2_readTongue 40 = .ok (.invokevirtual 64, 3) := by decide +kernel
theorem dX2_readTongue_43 : decode cX2_readTongue 43 = .ok (.ifCond .eq 9, 3) := by decide +kernel
theorem dX2_readTongue_46 : decode cX2_readTongue 46 = .ok (.iload_n 2, 1) := by decide +kernel
theorem dX2_readTongue_47 : decode cX2_readTongue 47 = .ok (.bipush 8, 2) := by decide +kernel
theorem dX2_readTongue_49 : decode cX2_readTongue 49 = .ok (.if_icmp .ne 5, 3) := by decide +kernel
theorem dX2_readTongue_52 : decode cX2_readTongue 52 = .ok (.iconst 0, 1) := by decide +kernel
theorem dX2_readTongue_53 : decode cX2_readTongue 53 = .ok (.ireturn, 1) := by decide +kernel
theorem dX2_readTongue_54 : decode cX2_readTongue 54 = .ok (.aload_n 1, 1) := by decide +kernel
theorem dX2_readTongue_55 : decode cX2_readTongue 55 = .ok (.getfield 67, 3) := by decide +kernel
theorem dX2_readTongue_58 : decode cX2_readTongue 58 = .ok (.iload_n 2, 1) := by decide +kernel
theorem dX2_readTongue_59 : decode cX2_readTongue 59 = .ok (.iload_n 3, 1) := by decide +kernel
theorem dX2_readTongue_60 : decode cX2_readTongue 60 = .ok (.bipush 48, 2) := by decide +kernel
theorem dX2_readTongue_62 : decode cX2_readTongue 62 = .ok (.isub, 1) := by decide +kernel
theorem dX2_readTongue_63 : decode cX2_readTongue 63 = .ok (.invokestatic 26, 3) := by decide +kernel
theorem dX2_readTongue_66 : decode cX2_readTongue 66 = .ok (.aload_n 1, 1) := by decide +kernel
theorem dX2_readTongue_67 : decode cX2_readTongue 67 = .ok (.iload_n 2, 1) := by decide +kernel
theorem dX2_readTongue_68 : decode cX2_readTongue 68 = .ok (.iconst 1, 1) := by decide +kernel
theorem dX2_readTongue_69 : decode cX2_readTongue 69 = .ok (.iadd, 1) := by decide +kernel
theorem dX2_readTongue_70 : decode cX2_readTongue 70 = .ok (.putfield 70, 3) := by decide +kernel
theorem dX2_readTongue_73 : decode cX2_readTongue 73 = .ok (.iinc 2 1, 3) := by decide +kernel
theorem dX2_readTongue_76 : decode cX2_readTongue 76 = .ok (.goto (-65), 3) := by decide +kernel
theorem dX2_readTongue_79 : decode cX2_readTongue 79 = .ok (.iconst 0, 1) := by decide +kernel
theorem dX2_readTongue_80 : decode cX2_readTongue 80 = .ok (.ireturn, 1) := by decide +kernel
theorem dX2_readWooer_0 : decode cX2_readWooer 0 = .ok (.aload_n 0, 1) := by decide +kernel
theorem dX2_readWooer_1 : decode cX2_readWooer 1 = .ok (.iconst 1, 1) := by decide +kernel
theorem dX2_readWooer_2 : decode cX2_readWooer 2 = .ok (.putfield 22, 3) := by decide +kernel
theorem dX2_readWooer_5 : decode cX2_readWooer 5 = .ok (.aload_n 1, 1) := by decide +kernel
theorem dX2_readWooer_6 : decode cX2_readWooer 6 = .ok (.getfield 70, 3) := by decide +kernel
theorem dX2_readWooer_9 : decode cX2_readWooer 9 = .ok (.ifCond .eq 11, 3) := by decide +kernel
theorem dX2_readWooer_12 : decode cX2_readWooer 12 = .ok (.aload_n 1, 1) := by decide +kernel
theorem dX2_readWooer_13 : decode cX2_readWooer 13 = .ok (.getfield 73, 3) := by decide +kernel
theorem dX2_readWooer_16 : decode cX2_readWooer 16 = .ok (.iconst 5, 1) := by decide +kernel
theorem dX2_readWooer_17 : decode cX2_readWooer 17 = .ok (.if_icmp .lt 5, 3) := by decide +kernel
theorem dX2_readWooer_20 : decode cX2_readWooer 20 = .ok (.iconst 0, 1) := by decide +kernel
theorem dX2_readWooer_21 : decode cX2_readWooer 21 = .ok (.ireturn, 1) := by decide +kernel
theorem dX2_readWooer_22 : decode cX2_readWooer 22 = .ok (.aload_n 0, 1) := by decide +kernel
theorem dX2_readWooer_23 : decode cX2_readWooer 23 = .ok (.bipush 44, 2) := by decide +kernel
theorem dX2_readWooer_25 : decode cX2_readWooer 25 = .ok (.invokevirtual 76, 3) := by decide +kernel
theorem dX2_readWooer_28 : decode cX2_readWooer 28 = .ok (.istore_n 2, 1) := by decide +kernel
theorem dX2_readWooer_29 : decode cX2_readWooer 29 = .ok (.iload_n 2, 1) := by decide +kernel
theorem dX2_readWooer_30 : decode cX2_readWooer 30 = .ok (.ifCond .lt 8, 3) := by decide +kernel
theorem dX2_readWooer_33 : decode cX2_readWooer 33 = .ok (.iload_n 2, 1) := by decide +kernel
theorem dX2_readWooer_34 : decode cX2_readWooer 34 = .ok (.iconst 3, 1) := by decide +kernel
theorem dX2_readWooer_35 : decode cX2_readWooer 35 = .ok (.if_icmp .le 5, 3) := by decide +kernel
theorem dX2_readWooer_38 : decode cX2_readWooer 38 = .ok (.iconst 0, 1) := by decide +kernel
theorem dX2_readWooer_39 : decode cX2_readWooer 39 = .ok (.ireturn, 1) := by decide +kernel
theorem dX2_readWooer_40 : decode cX2_readWooer 40 = .ok (.aload_n 0, 1) := by decide +kernel
theorem dX2_readWooer_41 : decode cX2_readWooer 41 = .ok (.bipush 44, 2) := by decide +kernel
theorem dX2_readWooer_43 : decode cX2_readWooer 43 = .ok (.invokevirtual 76, 3) := by decide +kernel
theorem dX2_readWooer_46 : decode cX2_readWooer 46 = .ok (.istore_n 3, 1) := by decide +kernel
theorem dX2_readWooer_47 : decode cX2_readWooer 47 = .ok (.iload_n 3, 1) := by decide +kernel
theorem dX2_readWooer_48 : decode cX2_readWooer 48 = .ok (.iconst 1, 1) := by decide +kernel
theorem dX2_readWooer_49 : decode cX2_readWooer 49 = .ok (.if_icmp .lt 9, 3) := by decide +kernel
theorem dX2_readWooer_52 : decode cX2_readWooer 52 = .ok (.iload_n 3, 1) := by decide +kernel
theorem dX2_readWooer_53 : decode cX2_readWooer 53 = .ok (.bipush 30, 2) := by decide +kernel
theorem dX2_readWooer_55 : decode cX2_readWooer 55 = .ok (.if_icmp .le 5, 3) := by decide +kernel
theorem dX2_readWooer_58 : decode cX2_readWooer 58 = .ok (.iconst 0, 1) := by decide +kernel
theorem dX2_readWooer_59 : decode cX2_readWooer 59 = .ok (.ireturn, 1) := by decide +kernel
theorem dX2_readWooer_60 : decode cX2_readWooer 60 = .ok (.aload_n 1, 1) := by decide +kernel
theorem dX2_readWooer_61 : decode cX2_readWooer 61 = .ok (.iload_n 2, 1) := by decide +kernel
theorem dX2_readWooer_62 : decode cX2_readWooer 62 = .ok (.iload_n 3, 1) := by decide +kernel
theorem dX2_readWooer_63 : decode cX2_readWooer 63 = .ok (.invokevirtual 80, 3) := by decide +kernel
theorem dX2_readWooer_66 : decode cX2_readWooer 66 = .ok (.istore 4, 2) := by decide +kernel
theorem dX2_readWooer_68 : decode cX2_readWooer 68 = .ok (.iconst 0, 1) := by decide +kernel
theorem dX2_readWooer_69 : decode cX2_readWooer 69 = .ok (.istore 5, 2) := by decide +kernel
theorem dX2_readWooer_71 : decode cX2_readWooer 71 = .ok (.iload 5, 2) := by decide +kernel
theorem dX2_readWooer_73 : decode cX2_readWooer 73 = .ok (.aload_n 1, 1) := by decide +kernel
theorem dX2_readWooer_74 : decode cX2_readWooer 74 = .ok (.getfield 70, 3) := by decide +kernel
theorem dX2_readWooer_77 : decode cX2_readWooer 77 = .ok (.if_icmp .ge 49, 3) := by decide +kernel
theorem dX2_readWooer_80 : decode cX2_readWooer 80 = .ok (.aload_n 0, 1) := by decide +kernel
theorem dX2_readWooer_81 : decode cX2_readWooer 81 = .ok (.invokevirtual 52, 3) := by decide +kernel
theorem dX2_readWooer_84 : decode cX2_readWooer 84 = .ok (.istore 6, 2) := by decide +kernel
theorem dX2_readWooer_86 : decode cX2_readWooer 86 = .ok (.aload_n 0, 1) := by decide +kernel
theorem dX2_readWooer_87 : decode cX2_readWooer 87 = .ok (.iload 6, 2) := by decide +kernel
theorem dX2_readWooer_89 : decode cX2_readWooer 89 = .ok (.invokevirtual 64, 3) := by decide +kernel
theorem dX2_readWooer_92 : decode cX2_readWooer 92 = .ok (.ifCond .eq 19, 3) := by decide +kernel
theorem dX2_readWooer_95 : decode cX2_readWooer 95 = .ok (.aload_n 1, 1) := by decide +kernel
theorem dX2_readWooer_96 : decode cX2_readWooer 96 = .ok (.iload 4, 2) := by decide +kernel
theorem dX2_readWooer_98 : decode cX2_readWooer 98 = .ok (.iload 5, 2) := by decide +kernel
theorem dX2_readWooer_100 : decode cX2_readWooer 100 = .ok (.iload 6, 2) := by decide +kernel
theorem dX2_readWooer_102 : decode cX2_readWooer 102 = .ok (.bipush 48, 2) := by decide +kernel
theorem dX2_readWooer_104 : decode cX2_readWooer 104 = .ok (.isub, 1) := by decide +kernel
theorem dX2_readWooer_105 : decode cX2_readWooer 105 = .ok (.invokevirtual 84, 3) := by decide +kernel
theorem dX2_readWooer_108 : decode cX2_readWooer 108 = .ok (.goto 12, 3) := by decide +kernel
theorem dX2_readWooer_111 : decode cX2_readWooer 111 = .ok (.iload 6, 2) := by decide +kernel
theorem dX2_readWooer_113 : decode cX2_readWooer 113 = .ok (.bipush 45, 2) := by decide +kernel
theorem dX2_readWooer_115 : decode cX2_readWooer 115 = .ok (.if_icmp .eq 5, 3) := by decide +kernel
theorem dX2_readWooer_118 : decode cX2_readWooer 118 = .ok (.iconst 0, 1) := by decide +kernel
theorem dX2_readWooer_119 : decode cX2_readWooer 119 = .ok (.ireturn, 1) := by decide +kernel
theorem dX2_readWooer_120 : decode cX2_readWooer 120 = .ok (.iinc 5 1, 3) := by decide +kernel
theorem dX2_readWooer_123 : decode cX2_readWooer 123 = .ok (.goto (-52), 3) := by decide +kernel
theorem dX2_readWooer_126 : decode cX2_readWooer 126 = .ok (.aload_n 0, 1) := by decide +kernel
theorem dX2_readWooer_127 : decode cX2_readWooer 127 = .ok (.invokevirtual 52, 3) := by decide +kernel
theorem dX2_readWooer_130 : decode cX2_readWooer 130 = .ok (.bipush 59, 2) := by decide +kernel
theorem dX2_readWooer_132 : decode cX2_readWooer 132 = .ok (.if_icmp .ne 7, 3) := by decide +kernel
theorem dX2_readWooer_135 : decode cX2_readWooer 135 = .ok (.iconst 1, 1) := by decide +kernel
theorem dX2_readWooer_136 : decode cX2_readWooer 136 = .ok (.goto 4, 3) := by decide +kernel
theorem dX2_readWooer_139 : decode cX2_readWooer 139 = .ok (.iconst 0, 1) := by decide +kernel
theorem dX2_readWooer_140 : decode cX2_readWooer 140 = .ok (.ireturn, 1) := by decide +kernel
theorem dX2_readNeed_0 : decode cX2_readNeed 0 = .ok (.aload_n 0, 1) := by decide +kernel
theorem dX2_readNeed_1 : decode cX2_readNeed 1 = .ok (.iconst 1, 1) := by decide +kernel
theorem dX2_readNeed_2 : decode cX2_readNeed 2 = .ok (.putfield 22, 3) := by decide +kernel
theorem dX2_readNeed_5 : decode cX2_readNeed 5 = .ok (.aload_n 0, 1) := by decide +kernel
theorem dX2_readNeed_6 : decode cX2_readNeed 6 = .ok (.bipush 59, 2) := by decide +kernel
theorem dX2_readNeed_8 : decode cX2_readNeed 8 = .ok (.invokevirtual 76, 3) := by decide +kernel
theorem dX2_readNeed_11 : decode cX2_readNeed 11 = .ok (.istore_n 2, 1) := by decide +kernel
theorem dX2_readNeed_12 : decode cX2_readNeed 12 = .ok (.iload_n 2, 1) := by decide +kernel
theorem dX2_readNeed_13 : decode cX2_readNeed 13 = .ok (.iconst 1, 1) := by decide +kernel
theorem dX2_readNeed_14 : decode cX2_readNeed 14 = .ok (.if_icmp .lt 9, 3) := by decide +kernel
theorem dX2_readNeed_17 : decode cX2_readNeed 17 = .ok (.iload_n 2, 1) := by decide +kernel
theorem dX2_readNeed_18 : decode cX2_readNeed 18 = .ok (.bipush 8, 2) := by decide +kernel
theorem dX2_readNeed_20 : decode cX2_readNeed 20 = .ok (.if_icmp .le 5, 3) := by decide +kernel
theorem dX2_readNeed_23 : decode cX2_readNeed 23 = .ok (.iconst 0, 1) := by decide +kernel
theorem dX2_readNeed_24 : decode cX2_readNeed 24 = .ok (.ireturn, 1) := by decide +kernel
theorem dX2_readNeed_25 : decode cX2_readNeed 25 = .ok (.aload_n 1, 1) := by decide +kernel
theorem dX2_readNeed_26 : decode cX2_readNeed 26 = .ok (.iload_n 2, 1) := by decide +kernel
theorem dX2_readNeed_27 : decode cX2_readNeed 27 = .ok (.putfield 88, 3) := by decide +kernel
theorem dX2_readNeed_30 : decode cX2_readNeed 30 = .ok (.iconst 1, 1) := by decide +kernel
theorem dX2_readNeed_31 : decode cX2_readNeed 31 = .ok (.ireturn, 1) := by decide +kernel
theorem dX2_number_0 : decode cX2_number 0 = .ok (.aload_n 0, 1) := by decide +kernel
theorem dX2_number_1 : decode cX2_number 1 = .ok (.invokevirtual 52, 3) := by decide +kernel
theorem dX2_number_4 : decode cX2_number 4 = .ok (.istore_n 2, 1) := by decide +kernel
theorem dX2_number_5 : decode cX2_number 5 = .ok (.aload_n 0, 1) := by decide +kernel
theorem dX2_number_6 : decode cX2_number 6 = .ok (.iload_n 2, 1) := by decide +kernel
theorem dX2_number_7 : decode cX2_number 7 = .ok (.invokevirtual 64, 3) := by decide +kernel
theorem dX2_number_10 : decode cX2_number 10 = .ok (.ifCond .ne 5, 3) := by decide +kernel
theorem dX2_number_13 : decode cX2_number 13 = .ok (.iconst (-1), 1) := by decide +kernel
theorem dX2_number_14 : decode cX2_number 14 = .ok (.ireturn, 1) := by decide +kernel
theorem dX2_number_15 : decode cX2_number 15 = .ok (.aload_n 0, 1) := by decide +kernel
theorem dX2_number_16 : decode cX2_number 16 = .ok (.invokevirtual 52, 3) := by decide +kernel
theorem dX2_number_19 : decode cX2_number 19 = .ok (.istore_n 3, 1) := by decide +kernel
theorem dX2_number_20 : decode cX2_number 20 = .ok (.iload_n 3, 1) := by decide +kernel
theorem dX2_number_21 : decode cX2_number 21 = .ok (.iload_n 1, 1) := by decide +kernel
theorem dX2_number_22 : decode cX2_number 22 = .ok (.if_icmp .ne 8, 3) := by decide +kernel
theorem dX2_number_25 : decode cX2_number 25 = .ok (.iload_n 2, 1) := by decide +kernel
theorem dX2_number_26 : decode cX2_number 26 = .ok (.bipush 48, 2) := by decide +kernel
theorem dX2_number_28 : decode cX2_number 28 = .ok (.isub, 1) := by decide +kernel
theorem dX2_number_29 : decode cX2_number 29 = .ok (.ireturn, 1) := by decide +kernel
theorem dX2_number_30 : decode cX2_number 30 = .ok (.aload_n 0, 1) := by decide +kernel
theorem dX2_number_31 : decode cX2_number 31 = .ok (.iload_n 3, 1) := by decide +kernel
theorem dX2_number_32 : decode cX2_number 32 = .ok (.invokevirtual 64, 3) := by decide +kernel
theorem dX2_number_35 : decode cX2_number 35 = .ok (.ifCond .eq 11, 3) := by decide +kernel
theorem dX2_number_38 : decode cX2_number 38 = .ok (.aload_n 0, 1) := by decide +kernel
theorem dX2_number_39 : decode cX2_number 39 = .ok (.invokevirtual 52, 3) := by decide +kernel
theorem dX2_number_42 : decode cX2_number 42 = .ok (.iload_n 1, 1) := by decide +kernel
theorem dX2_number_43 : decode cX2_number 43 = .ok (.if_icmp .eq 5, 3) := by decide +kernel
theorem dX2_number_46 : decode cX2_number 46 = .ok (.iconst (-1), 1) := by decide +kernel
theorem dX2_number_47 : decode cX2_number 47 = .ok (.ireturn, 1) := by decide +kernel
theorem dX2_number_48 : decode cX2_number 48 = .ok (.bipush 10, 2) := by decide +kernel
theorem dX2_number_50 : decode cX2_number 50 = .ok (.iload_n 2, 1) := by decide +kernel
theorem dX2_number_51 : decode cX2_number 51 = .ok (.bipush 48, 2) := by decide +kernel
theorem dX2_number_53 : decode cX2_number 53 = .ok (.isub, 1) := by decide +kernel
theorem dX2_number_54 : decode cX2_number 54 = .ok (.imul, 1) := by decide +kernel
theorem dX2_number_55 : decode cX2_number 55 = .ok (.iload_n 3, 1) := by decide +kernel
theorem dX2_number_56 : decode cX2_number 56 = .ok (.iadd, 1) := by decide +kernel
theorem dX2_number_57 : decode cX2_number 57 = .ok (.bipush 48, 2) := by decide +kernel
theorem dX2_number_59 : decode cX2_number 59 = .ok (.isub, 1) := by decide +kernel
theorem dX2_number_60 : decode cX2_number 60 = .ok (.ireturn, 1) := by decide +kernel
theorem dX2_isFigure_0 : decode cX2_isFigure 0 = .ok (.iload_n 1, 1) := by decide +kernel
theorem dX2_isFigure_1 : decode cX2_isFigure 1 = .ok (.bipush 48, 2) := by decide +kernel
theorem dX2_isFigure_3 : decode cX2_isFigure 3 = .ok (.if_icmp .lt 13, 3) := by decide +kernel
theorem dX2_isFigure_6 : decode cX2_isFigure 6 = .ok (.iload_n 1, 1) := by decide +kernel
theorem dX2_isFigure_7 : decode cX2_isFigure 7 = .ok (.bipush 57, 2) := by decide +kernel
theorem dX2_isFigure_9 : decode cX2_isFigure 9 = .ok (.if_icmp .gt 7, 3) := by decide +kernel
theorem dX2_isFigure_12 : decode cX2_isFigure 12 = .ok (.iconst 1, 1) := by decide +kernel
theorem dX2_isFigure_13 : decode cX2_isFigure 13 = .ok (.goto 4, 3) := by decide +kernel
theorem dX2_isFigure_16 : decode cX2_isFigure 16 = .ok (.iconst 0, 1) := by decide +kernel
theorem dX2_isFigure_17 : decode cX2_isFigure 17 = .ok (.ireturn, 1) := by decide +kernel
theorem dX2_next_0 : decode cX2_next 0 = .ok (.aload_n 0, 1) := by decide +kernel
theorem dX2_next_1 : decode cX2_next 1 = .ok (.getfield 19, 3) := by decide +kernel
theorem dX2_next_4 : decode cX2_next 4 = .ok (.aload_n 0, 1) := by decide +kernel
theorem dX2_next_5 : decode cX2_next 5 = .ok (.getfield 15, 3) := by decide +kernel
theorem dX2_next_8 : decode cX2_next 8 = .ok (.if_icmp .lt 5, 3) := by decide +kernel
theorem dX2_next_11 : decode cX2_next 11 = .ok (.iconst 0, 1) := by decide +kernel
theorem dX2_next_12 : decode cX2_next 12 = .ok (.ireturn, 1) := by decide +kernel
theorem dX2_next_13 : decode cX2_next 13 = .ok (.aload_n 0, 1) := by decide +kernel
theorem dX2_next_14 : decode cX2_next 14 = .ok (.getfield 9, 3) := by decide +kernel
theorem dX2_next_17 : decode cX2_next 17 = .ok (.aload_n 0, 1) := by decide +kernel
theorem dX2_next_18 : decode cX2_next 18 = .ok (.getfield 19, 3) := by decide +kernel
theorem dX2_next_21 : decode cX2_next 21 = .ok (.invokestatic 91, 3) := by decide +kernel
theorem dX2_next_24 : decode cX2_next 24 = .ok (.istore_n 1, 1) := by decide +kernel
theorem dX2_next_25 : decode cX2_next 25 = .ok (.aload_n 0, 1) := by decide +kernel
theorem dX2_next_26 : decode cX2_next 26 = .ok (.dup, 1) := by decide +kernel
theorem dX2_next_27 : decode cX2_next 27 = .ok (.getfield 19, 3) := by decide +kernel
theorem dX2_next_30 : decode cX2_next 30 = .ok (.iconst 1, 1) := by decide +kernel
theorem dX2_next_31 : decode cX2_next 31 = .ok (.iadd, 1) := by decide +kernel
theorem dX2_next_32 : decode cX2_next 32 = .ok (.putfield 19, 3) := by decide +kernel
theorem dX2_next_35 : decode cX2_next 35 = .ok (.iload_n 1, 1) := by decide +kernel
theorem dX2_next_36 : decode cX2_next 36 = .ok (.ireturn, 1) := by decide +kernel
theorem dX3_init_0 : decode cX3_init 0 = .ok (.aload_n 0, 1) := by decide +kernel
theorem dX3_init_1 : decode cX3_init 1 = .ok (.invokespecial 1, 3) := by decide +kernel
theorem dX3_init_4 : decode cX3_init 4 = .ok (.new 7, 3) := by decide +kernel
theorem dX3_init_7 : decode cX3_init 7 = .ok (.dup, 1) := by decide +kernel
theorem dX3_init_8 : decode cX3_init 8 = .ok (.invokespecial 9, 3) := by decide +kernel
theorem dX3_init_11 : decode cX3_init 11 = .ok (.astore_n 1, 1) := by decide +kernel
theorem dX3_init_12 : decode cX3_init 12 = .ok (.new 10, 3) := by decide +kernel
theorem dX3_init_15 : decode cX3_init 15 = .ok (.dup, 1) := by decide +kernel
theorem dX3_init_16 : decode cX3_init 16 = .ok (.invokespecial 12, 3) := by decide +kernel
theorem dX3_init_19 : decode cX3_init 19 = .ok (.astore_n 2, 1) := by decide +kernel
theorem dX3_init_20 : decode cX3_init 20 = .ok (.aload_n 1, 1) := by decide +kernel
theorem dX3_init_21 : decode cX3_init 21 = .ok (.ldc 15, 2) := by decide +kernel
theorem dX3_init_23 : decode cX3_init 23 = .ok (.invokevirtual 17, 3) := by decide +kernel
theorem dX3_init_26 : decode cX3_init 26 = .ok (.aload_n 1, 1) := by decide +kernel
theorem dX3_init_27 : decode cX3_init 27 = .ok (.aload_n 2, 1) := by decide +kernel
theorem dX3_init_28 : decode cX3_init 28 = .ok (.invokevirtual 21, 3) := by decide +kernel
theorem dX3_init_31 : decode cX3_init 31 = .ok (.pop, 1) := by decide +kernel
theorem dX3_init_32 : decode cX3_init 32 = .ok (.aload_n 1, 1) := by decide +kernel
theorem dX3_init_33 : decode cX3_init 33 = .ok (.iconst 0, 1) := by decide +kernel
theorem dX3_init_34 : decode cX3_init 34 = .ok (.putfield 25, 3) := by decide +kernel
theorem dX3_init_37 : decode cX3_init 37 = .ok (.aload_n 0, 1) := by decide +kernel
theorem dX3_init_38 : decode cX3_init 38 = .ok (.aload_n 1, 1) := by decide +kernel
theorem dX3_init_39 : decode cX3_init 39 = .ok (.putfield 29, 3) := by decide +kernel
theorem dX3_init_42 : decode cX3_init 42 = .ok (.aload_n 0, 1) := by decide +kernel
theorem dX3_init_43 : decode cX3_init 43 = .ok (.aload_n 2, 1) := by decide +kernel
theorem dX3_init_44 : decode cX3_init 44 = .ok (.putfield 33, 3) := by decide +kernel
theorem dX3_init_47 : decode cX3_init 47 = .ok (.aload_n 0, 1) := by decide +kernel
theorem dX3_init_48 : decode cX3_init 48 = .ok (.new 10, 3) := by decide +kernel
theorem dX3_init_51 : decode cX3_init 51 = .ok (.dup, 1) := by decide +kernel
theorem dX3_init_52 : decode cX3_init 52 = .ok (.invokespecial 12, 3) := by decide +kernel
theorem dX3_init_55 : decode cX3_init 55 = .ok (.putfield 37, 3) := by decide +kernel
theorem dX3_init_58 : decode cX3_init 58 = .ok (.aload_n 0, 1) := by decide +kernel
theorem dX3_init_59 : decode cX3_init 59 = .ok (.new 10, 3) := by decide +kernel
theorem dX3_init_62 : decode cX3_init 62 = .ok (.dup, 1) := by decide +kernel
theorem dX3_init_63 : decode cX3_init 63 = .ok (.invokespecial 12, 3) := by decide +kernel
theorem dX3_init_66 : decode cX3_init 66 = .ok (.putfield 40, 3) := by decide +kernel
theorem dX3_init_69 : decode cX3_init 69 = .ok (.aload_n 0, 1) := by decide +kernel
theorem dX3_init_70 : decode cX3_init 70 = .ok (.bipush 9, 2) := by decide +kernel
theorem dX3_init_72 : decode cX3_init 72 = .ok (.invokestatic 43, 3) := by decide +kernel
theorem dX3_init_75 : decode cX3_init 75 = .ok (.putfield 47, 3) := by decide +kernel
theorem dX3_init_78 : decode cX3_init 78 = .ok (.aload_n 0, 1) := by decide +kernel
theorem dX3_init_79 : decode cX3_init 79 = .ok (.bipush 8, 2) := by decide +kernel
theorem dX3_init_81 : decode cX3_init 81 = .ok (.invokestatic 43, 3) := by decide +kernel
theorem dX3_init_84 : decode cX3_init 84 = .ok (.putfield 51, 3) := by decide +kernel
theorem dX3_init_87 : decode cX3_init 87 = .ok (.aload_n 0, 1) := by decide +kernel
theorem dX3_init_88 : decode cX3_init 88 = .ok (.iconst 2, 1) := by decide +kernel
theorem dX3_init_89 : decode cX3_init 89 = .ok (.invokestatic 43, 3) := by decide +kernel
theorem dX3_init_92 : decode cX3_init 92 = .ok (.putfield 54, 3) := by decide +kernel
theorem dX3_init_95 : decode cX3_init 95 = .ok (.aload_n 0, 1) := by decide +kernel
theorem dX3_init_96 : decode cX3_init 96 = .ok (.new 57, 3) := by decide +kernel
theorem dX3_init_99 : decode cX3_init 99 = .ok (.dup, 1) := by decide +kernel
theorem dX3_init_100 : decode cX3_init 100 = .ok (.invokespecial 59, 3) := by decide +kernel
theorem dX3_init_103 : decode cX3_init 103 = .ok (.putfield 60, 3) := by decide +kernel
theorem dX3_init_106 : decode cX3_init 106 = .ok (.aload_n 0, 1) := by decide +kernel
theorem dX3_init_107 : decode cX3_init 107 = .ok (.bipush 10, 2) := by decide +kernel
theorem dX3_init_109 : decode cX3_init 109 = .ok (.newarray .int, 2) := by decide +kernel
theorem dX3_init_111 : decode cX3_init 111 = .ok (.putfield 64, 3) := by decide +kernel
theorem dX3_init_114 : decode cX3_init 114 = .ok (.aload_n 0, 1) := by decide +kernel
theorem dX3_init_115 : decode cX3_init 115 = .ok (.iconst 0, 1) := by decide +kernel
theorem dX3_init_116 : decode cX3_init 116 = .ok (.putfield 68, 3) := by decide +kernel
theorem dX3_init_119 : decode cX3_init 119 = .ok (.aload_n 0, 1) := by decide +kernel
theorem dX3_init_120 : decode cX3_init 120 = .ok (.iconst 0, 1) := by decide +kernel
theorem dX3_init_121 : decode cX3_init 121 = .ok (.putfield 71, 3) := by decide +kernel
theorem dX3_init_124 : decode cX3_init 124 = .ok (.aload_n 0, 1) := by decide +kernel
theorem dX3_init_125 : decode cX3_init 125 = .ok (.iconst 0, 1) := by decide +kernel
theorem dX3_init_126 : decode cX3_init 126 = .ok (.putfield 74, 3) := by decide +kernel
theorem dX3_init_129 : decode cX3_init 129 = .ok (.return_, 1) := by decide +kernel
theorem dX3_write_0 : decode cX3_write 0 = .ok (.iload_n 1, 1) := by decide +kernel
theorem dX3_write_1 : decode cX3_write 1 = .ok (.bipush 32, 2) := by decide +kernel
theorem dX3_write_3 : decode cX3_write 3 = .ok (.if_icmp .lt 9, 3) := by decide +kernel
theorem dX3_write_6 : decode cX3_write 6 = .ok (.iload_n 1, 1) := by decide +kernel
theorem dX3_write_7 : decode cX3_write 7 = .ok (.bipush 126, 2) := by decide +kernel
theorem dX3_write_9 : decode cX3_write 9 = .ok (.if_icmp .le 5, 3) := by decide +kernel
theorem dX3_write_12 : decode cX3_write 12 = .ok (.iconst (-1), 1) := by decide +kernel
theorem dX3_write_13 : decode cX3_write 13 = .ok (.ireturn, 1) := by decide +kernel
theorem dX3_write_14 : decode cX3_write 14 = .ok (.aload_n 0, 1) := by decide +kernel
theorem dX3_write_15 : decode cX3_write 15 = .ok (.getfield 29, 3) := by decide +kernel
theorem dX3_write_18 : decode cX3_write 18 = .ok (.iload_n 1, 1) := by decide +kernel
theorem dX3_write_19 : decode cX3_write 19 = .ok (.invokevirtual 77, 3) := by decide +kernel
theorem dX3_write_22 : decode cX3_write 22 = .ok (.ifCond .eq 13, 3) := by decide +kernel
theorem dX3_write_25 : decode cX3_write 25 = .ok (.aload_n 0, 1) := by decide +kernel
theorem dX3_write_26 : decode cX3_write 26 = .ok (.getfield 29, 3) := by decide +kernel
theorem dX3_write_29 : decode cX3_write 29 = .ok (.getfield 25, 3) := by decide +kernel
theorem dX3_write_32 : decode cX3_write 32 = .ok (.goto 5, 3) := by decide +kernel
theorem dX3_write_35 : decode cX3_write 35 = .ok (.bipush (-3), 2) := by decide +kernel
theorem dX3_write_37 : decode cX3_write 37 = .ok (.ireturn, 1) := by decide +kernel
theorem dX3_wipe_0 : decode cX3_wipe 0 = .ok (.aload_n 0, 1) := by decide +kernel
theorem dX3_wipe_1 : decode cX3_wipe 1 = .ok (.getfield 29, 3) := by decide +kernel
theorem dX3_wipe_4 : decode cX3_wipe 4 = .ok (.getfield 25, 3) := by decide +kernel
theorem dX3_wipe_7 : decode cX3_wipe 7 = .ok (.istore_n 1, 1) := by decide +kernel
theorem dX3_wipe_8 : decode cX3_wipe 8 = .ok (.aload_n 0, 1) := by decide +kernel
theorem dX3_wipe_9 : decode cX3_wipe 9 = .ok (.getfield 29, 3) := by decide +kernel
theorem dX3_wipe_12 : decode cX3_wipe 12 = .ok (.iconst 0, 1) := by decide +kernel
theorem dX3_wipe_13 : decode cX3_wipe 13 = .ok (.putfield 25, 3) := by decide +kernel
theorem dX3_wipe_16 : decode cX3_wipe 16 = .ok (.iload_n 1, 1) := by decide +kernel
theorem dX3_wipe_17 : decode cX3_wipe 17 = .ok (.ireturn, 1) := by decide +kernel
theorem dX3_fault_0 : decode cX3_fault 0 = .ok (.aload_n 0, 1) := by decide +kernel
theorem dX3_fault_1 : decode cX3_fault 1 = .ok (.getfield 29, 3) := by decide +kernel
theorem dX3_fault_4 : decode cX3_fault 4 = .ok (.aload_n 0, 1) := by decide +kernel
theorem dX3_fault_5 : decode cX3_fault 5 = .ok (.getfield 37, 3) := by decide +kernel
theorem dX3_fault_8 : decode cX3_fault 8 = .ok (.invokevirtual 21, 3) := by decide +kernel
theorem dX3_fault_11 : decode cX3_fault 11 = .ok (.ireturn, 1) := by decide +kernel
theorem dX3_lay_0 : decode cX3_lay 0 = .ok (.aload_n 0, 1) := by decide +kernel
theorem dX3_lay_1 : decode cX3_lay 1 = .ok (.getfield 29, 3) := by decide +kernel
theorem dX3_lay_4 : decode cX3_lay 4 = .ok (.aload_n 0, 1) := by decide +kernel
theorem dX3_lay_5 : decode cX3_lay 5 = .ok (.getfield 37, 3) := by decide +kernel
theorem dX3_lay_8 : decode cX3_lay 8 = .ok (.invokevirtual 21, 3) := by decide +kernel
theorem dX3_lay_11 : decode cX3_lay 11 = .ok (.bipush (-4), 2) := by decide +kernel
theorem dX3_lay_13 : decode cX3_lay 13 = .ok (.if_icmp .ne 23, 3) := by decide +kernel
theorem dX3_lay_16 : decode cX3_lay 16 = .ok (.aload_n 0, 1) := by decide +kernel
theorem dX3_lay_17 : decode cX3_lay 17 = .ok (.getfield 37, 3) := by decide +kernel
theorem dX3_lay_20 : decode cX3_lay 20 = .ok (.getfield 81, 3) := by decide +kernel
theorem dX3_lay_23 : decode cX3_lay 23 = .ok (.ifCond .eq 13, 3) := by decide +kernel
theorem dX3_lay_26 : decode cX3_lay 26 = .ok (.aload_n 0, 1) := by decide +kernel
theorem dX3_lay_27 : decode cX3_lay 27 = .ok (.getfield 37, 3) := by decide +kernel
theorem dX3_lay_30 : decode cX3_lay 30 = .ok (.getfield 84, 3) := by decide +kernel
theorem dX3_lay_33 : decode cX3_lay 33 = .ok (.ifCond .ne 6, 3) := by decide +kernel
theorem dX3_lay_36 : decode cX3_lay 36 = .ok (.bipush (-2), 2) := by decide +kernel
theorem dX3_lay_38 : decode cX3_lay 38 = .ok (.ireturn, 1) := by decide +kernel
theorem dX3_lay_39 : decode cX3_lay 39 = .ok (.aload_n 0, 1) := by decide +kernel
theorem dX3_lay_40 : decode cX3_lay 40 = .ok (.getfield 33, 3) := by decide +kernel
theorem dX3_lay_43 : decode cX3_lay 43 = .ok (.aload_n 0, 1) := by decide +kernel
theorem dX3_lay_44 : decode cX3_lay 44 = .ok (.getfield 37, 3) := by decide +kernel
theorem dX3_lay_47 : decode cX3_lay 47 = .ok (.invokevirtual 87, 3) := by decide +kernel
theorem dX3_lay_50 : decode cX3_lay 50 = .ok (.aload_n 0, 1) := by decide +kernel
theorem dX3_lay_51 : decode cX3_lay 51 = .ok (.getfield 60, 3) := by decide +kernel
theorem dX3_lay_54 : decode cX3_lay 54 = .ok (.iconst 0, 1) := by decide +kernel
theorem dX3_lay_55 : decode cX3_lay 55 = .ok (.putfield 91, 3) := by decide +kernel
theorem dX3_lay_58 : decode cX3_lay 58 = .ok (.aload_n 0, 1) := by decide +kernel
theorem dX3_lay_59 : decode cX3_lay 59 = .ok (.iconst 0, 1) := by decide +kernel
theorem dX3_lay_60 : decode cX3_lay 60 = .ok (.putfield 68, 3) := by decide +kernel
theorem dX3_lay_63 : decode cX3_lay 63 = .ok (.aload_n 0, 1) := by decide +kernel
theorem dX3_lay_64 : decode cX3_lay 64 = .ok (.iconst 0, 1) := by decide +kernel
theorem dX3_lay_65 : decode cX3_lay 65 = .ok (.putfield 74, 3) := by decide +kernel
theorem dX3_lay_68 : decode cX3_lay 68 = .ok (.aload_n 0, 1) := by decide +kernel
theorem dX3_lay_69 : decode cX3_lay 69 = .ok (.getfield 33, 3) := by decide +kernel
theorem dX3_lay_72 : decode cX3_lay 72 = .ok (.getfield 84, 3) := by decide +kernel
theorem dX3_lay_75 : decode cX3_lay 75 = .ok (.ireturn, 1) := by decide +kernel
theorem dX3_sound_0 : decode cX3_sound 0 = .ok (.aload_n 0, 1) := by decide +kernel
theorem dX3_sound_1 : decode cX3_sound 1 = .ok (.getfield 33, 3) := by decide +kernel
theorem dX3_sound_4 : decode cX3_sound 4 = .ok (.iload_n 1, 1) := by decide +kernel
theorem dX3_sound_5 : decode cX3_sound 5 = .ok (.invokevirtual 94, 3) := by decide +kernel
theorem dX3_sound_8 : decode cX3_sound 8 = .ok (.ifCond .eq 17, 3) := by decide +kernel
theorem dX3_sound_11 : decode cX3_sound 11 = .ok (.aload_n 0, 1) := by decide +kernel
theorem dX3_sound_12 : decode cX3_sound 12 = .ok (.getfield 33, 3) := by decide +kernel
theorem dX3_sound_15 : decode cX3_sound 15 = .ok (.getfield 97, 3) := by decide +kernel
theorem dX3_sound_18 : decode cX3_sound 18 = .ok (.iload_n 1, 1) := by decide +kernel
theorem dX3_sound_19 : decode cX3_sound 19 = .ok (.invokestatic 100, 3) := by decide +kernel
theorem dX3_sound_22 : decode cX3_sound 22 = .ok (.goto 4, 3) := by decide +kernel
theorem dX3_sound_25 : decode cX3_sound 25 = .ok (.iconst (-1), 1) := by decide +kernel
theorem dX3_sound_26 : decode cX3_sound 26 = .ok (.ireturn, 1) := by decide +kernel
theorem dX3_wooer_0 : decode cX3_wooer 0 = .ok (.aload_n 0, 1) := by decide +kernel
theorem dX3_wooer_1 : decode cX3_wooer 1 = .ok (.getfield 33, 3) := by decide +kernel
theorem dX3_wooer_4 : decode cX3_wooer 4 = .ok (.iload_n 1, 1) := by decide +kernel
theorem dX3_wooer_5 : decode cX3_wooer 5 = .ok (.invokevirtual 104, 3) := by decide +kernel
theorem dX3_wooer_8 : decode cX3_wooer 8 = .ok (.ifCond .ne 5, 3) := by decide +kernel
theorem dX3_wooer_11 : decode cX3_wooer 11 = .ok (.iconst (-1), 1) := by decide +kernel
theorem dX3_wooer_12 : decode cX3_wooer 12 = .ok (.ireturn, 1) := by decide +kernel
theorem dX3_wooer_13 : decode cX3_wooer 13 = .ok (.iload_n 2, 1) := by decide +kernel
theorem dX3_wooer_14 : decode cX3_wooer 14 = .ok (.tableswitch 99 0 4 #[34, 46, 58, 70, 82], 34) := by decide +kernel
theorem dX3_wooer_48 : decode cX3_wooer 48 = .ok (.aload_n 0, 1) := by decide +kernel
theorem dX3_wooer_49 : decode cX3_wooer 49 = .ok (.getfield 33, 3) := by decide +kernel
theorem dX3_wooer_52 : decode cX3_wooer 52 = .ok (.getfield 107, 3) := by decide +kernel
theorem dX3_wooer_55 : decode cX3_wooer 55 = .ok (.iload_n 1, 1) := by decide +kernel
theorem dX3_wooer_56 : decode cX3_wooer 56 = .ok (.invokestatic 100, 3) := by decide +kernel
theorem dX3_wooer_59 : decode cX3_wooer 59 = .ok (.ireturn, 1) := by decide +kernel
theorem dX3_wooer_60 : decode cX3_wooer 60 = .ok (.aload_n 0, 1) := by decide +kernel
theorem dX3_wooer_61 : decode cX3_wooer 61 = .ok (.getfield 33, 3) := by decide +kernel
theorem dX3_wooer_64 : decode cX3_wooer 64 = .ok (.getfield 110, 3) := by decide +kernel
theorem dX3_wooer_67 : decode cX3_wooer 67 = .ok (.iload_n 1, 1) := by decide +kernel
theorem dX3_wooer_68 : decode cX3_wooer 68 = .ok (.invokestatic 100, 3) := by decide +kernel
theorem dX3_wooer_71 : decode cX3_wooer 71 = .ok (.ireturn, 1) := by decide +kernel
theorem dX3_wooer_72 : decode cX3_wooer 72 = .ok (.aload_n 0, 1) := by decide +kernel
theorem dX3_wooer_73 : decode cX3_wooer 73 = .ok (.getfield 33, 3) := by decide +kernel
theorem dX3_wooer_76 : decode cX3_wooer 76 = .ok (.getfield 113, 3) := by decide +kernel
theorem dX3_wooer_79 : decode cX3_wooer 79 = .ok (.iload_n 1, 1) := by decide +kernel
theorem dX3_wooer_80 : decode cX3_wooer 80 = .ok (.invokestatic 100, 3) := by decide +kernel
theorem dX3_wooer_83 : decode cX3_wooer 83 = .ok (.ireturn, 1) := by decide +kernel
theorem dX3_wooer_84 : decode cX3_wooer 84 = .ok (.aload_n 0, 1) := by decide +kernel
theorem dX3_wooer_85 : decode cX3_wooer 85 = .ok (.getfield 33, 3) := by decide +kernel
theorem dX3_wooer_88 : decode cX3_wooer 88 = .ok (.getfield 116, 3) := by decide +kernel
theorem dX3_wooer_91 : decode cX3_wooer 91 = .ok (.iload_n 1, 1) := by decide +kernel
theorem dX3_wooer_92 : decode cX3_wooer 92 = .ok (.invokestatic 100, 3) := by decide +kernel
theorem dX3_wooer_95 : decode cX3_wooer 95 = .ok (.ireturn, 1) := by decide +kernel
theorem dX3_wooer_96 : decode cX3_wooer 96 = .ok (.aload_n 0, 1) := by decide +kernel
theorem dX3_wooer_97 : decode cX3_wooer 97 = .ok (.getfield 33, 3) := by decide +kernel
theorem dX3_wooer_100 : decode cX3_wooer 100 = .ok (.iload_n 1, 1) := by decide +kernel
theorem dX3_wooer_101 : decode cX3_wooer 101 = .ok (.invokevirtual 119, 3) := by decide +kernel
theorem dX3_wooer_104 : decode cX3_wooer 104 = .ok (.ifCond .eq 7, 3) := by decide +kernel
theorem dX3_wooer_107 : decode cX3_wooer 107 = .ok (.iconst 1, 1) := by decide +kernel
theorem dX3_wooer_108 : decode cX3_wooer 108 = .ok (.goto 4, 3) := by decide +kernel
theorem dX3_wooer_111 : decode cX3_wooer 111 = .ok (.iconst 0, 1) := by decide +kernel
theorem dX3_wooer_112 : decode cX3_wooer 112 = .ok (.ireturn, 1) := by decide +kernel
theorem dX3_wooer_113 : decode cX3_wooer 113 = .ok (.iconst (-1), 1) := by decide +kernel
theorem dX3_wooer_114 : decode cX3_wooer 114 = .ok (.ireturn, 1) := by decide +kernel
theorem dX3_word_0 : decode cX3_word 0 = .ok (.aload_n 0, 1) := by decide +kernel
theorem dX3_word_1 : decode cX3_word 1 = .ok (.getfield 33, 3) := by decide +kernel
theorem dX3_word_4 : decode cX3_word 4 = .ok (.iload_n 1, 1) := by decide +kernel
theorem dX3_word_5 : decode cX3_word 5 = .ok (.invokevirtual 104, 3) := by decide +kernel
theorem dX3_word_8 : decode cX3_word 8 = .ok (.ifCond .eq 23, 3) := by decide +kernel
theorem dX3_word_11 : decode cX3_word 11 = .ok (.aload_n 0, 1) := by decide +kernel
theorem dX3_word_12 : decode cX3_word 12 = .ok (.getfield 33, 3) := by decide +kernel
theorem dX3_word_15 : decode cX3_word 15 = .ok (.iload_n 2, 1) := by decide +kernel
theorem dX3_word_16 : decode cX3_word 16 = .ok (.invokevirtual 94, 3) := by decide +kernel
theorem dX3_word_19 : decode cX3_word 19 = .ok (.ifCond .eq 12, 3) := by decide +kernel
theorem dX3_word_22 : decode cX3_word 22 = .ok (.iload_n 3, 1) := by decide +kernel
theorem dX3_word_23 : decode cX3_word 23 = .ok (.ifCond .lt 8, 3) := by decide +kernel
theorem dX3_word_26 : decode cX3_word 26 = .ok (.iload_n 3, 1) := by decide +kernel
theorem dX3_word_27 : decode cX3_word 27 = .ok (.iconst 1, 1) := by decide +kernel
theorem dX3_word_28 : decode cX3_word 28 = .ok (.if_icmp .le 5, 3) := by decide +kernel
theorem dX3_word_31 : decode cX3_word 31 = .ok (.iconst (-1), 1) := by decide +kernel
theorem dX3_word_32 : decode cX3_word 32 = .ok (.ireturn, 1) := by decide +kernel
theorem dX3_word_33 : decode cX3_word 33 = .ok (.aload_n 0, 1) := by decide +kernel
theorem dX3_word_34 : decode cX3_word 34 = .ok (.getfield 33, 3) := by decide +kernel
theorem dX3_word_37 : decode cX3_word 37 = .ok (.iload_n 1, 1) := by decide +kernel
theorem dX3_word_38 : decode cX3_word 38 = .ok (.iload_n 2, 1) := by decide +kernel
theorem dX3_word_39 : decode cX3_word 39 = .ok (.invokevirtual 122, 3) := by decide +kernel
theorem dX3_word_42 : decode cX3_word 42 = .ok (.ifCond .ne 6, 3) := by decide +kernel
theorem dX3_word_45 : decode cX3_word 45 = .ok (.bipush (-4), 2) := by decide +kernel
theorem dX3_word_47 : decode cX3_word 47 = .ok (.ireturn, 1) := by decide +kernel
theorem dX3_word_48 : decode cX3_word 48 = .ok (.iload_n 3, 1) := by decide +kernel
theorem dX3_word_49 : decode cX3_word 49 = .ok (.ifCond .ne 15, 3) := by decide +kernel
theorem dX3_word_52 : decode cX3_word 52 = .ok (.aload_n 0, 1) := by decide +kernel
theorem dX3_word_53 : decode cX3_word 53 = .ok (.getfield 33, 3) := by decide +kernel
theorem dX3_word_56 : decode cX3_word 56 = .ok (.iload_n 1, 1) := by decide +kernel
theorem dX3_word_57 : decode cX3_word 57 = .ok (.iload_n 2, 1) := by decide +kernel
theorem dX3_word_58 : decode cX3_word 58 = .ok (.invokevirtual 126, 3) := by decide +kernel
theorem dX3_word_61 : decode cX3_word 61 = .ok (.goto 12, 3) := by decide +kernel
theorem dX3_word_64 : decode cX3_word 64 = .ok (.aload_n 0, 1) := by decide +kernel
theorem dX3_word_65 : decode cX3_word 65 = .ok (.getfield 33, 3) := by decide +kernel
theorem dX3_word_68 : decode cX3_word 68 = .ok (.iload_n 1, 1) := by decide +kernel
theorem dX3_word_69 : decode cX3_word 69 = .ok (.iload_n 2, 1) := by decide +kernel
theorem dX3_word_70 : decode cX3_word 70 = .ok (.invokevirtual 130, 3) := by decide +kernel
theorem dX3_word_73 : decode cX3_word 73 = .ok (.ireturn, 1) := by decide +kernel
theorem dX3_lesson_0 : decode cX3_lesson 0 = .ok (.aload_n 0, 1) := by decide +kernel
theorem dX3_lesson_1 : decode cX3_lesson 1 = .ok (.getfield 33, 3) := by decide +kernel
theorem dX3_lesson_4 : decode cX3_lesson 4 = .ok (.iload_n 1, 1) := by decide +kernel
theorem dX3_lesson_5 : decode cX3_lesson 5 = .ok (.invokevirtual 104, 3) := by decide +kernel
theorem dX3_lesson_8 : decode cX3_lesson 8 = .ok (.ifCond .eq 14, 3) := by decide +kernel
theorem dX3_lesson_11 : decode cX3_lesson 11 = .ok (.aload_n 0, 1) := by decide +kernel
theorem dX3_lesson_12 : decode cX3_lesson 12 = .ok (.getfield 33, 3) := by decide +kernel
theorem dX3_lesson_15 : decode cX3_lesson 15 = .ok (.iload_n 2, 1) := by decide +kernel
theorem dX3_lesson_16 : decode cX3_lesson 16 = .ok (.invokevirtual 94, 3) := by decide +kernel
theorem dX3_lesson_19 : decode cX3_lesson 19 = .ok (.ifCond .ne 5, 3) := by decide +kernel
theorem dX3_lesson_22 : decode cX3_lesson 22 = .ok (.iconst (-1), 1) := by decide +kernel
theorem dX3_lesson_23 : decode cX3_lesson 23 = .ok (.ireturn, 1) := by decide +kernel
theorem dX3_lesson_24 : decode cX3_lesson 24 = .ok (.aload_n 0, 1) := by decide +kernel
theorem dX3_lesson_25 : decode cX3_lesson 25 = .ok (.invokevirtual 133, 3) := by decide +kernel
theorem dX3_lesson_28 : decode cX3_lesson 28 = .ok (.aload_n 0, 1) := by decide +kernel
theorem dX3_lesson_29 : decode cX3_lesson 29 = .ok (.getfield 33, 3) := by decide +kernel
theorem dX3_lesson_32 : decode cX3_lesson 32 = .ok (.iload_n 1, 1) := by decide +kernel
theorem dX3_lesson_33 : decode cX3_lesson 33 = .ok (.iload_n 2, 1) := by decide +kernel
theorem dX3_lesson_34 : decode cX3_lesson 34 = .ok (.invokevirtual 136, 3) := by decide +kernel
theorem dX3_lesson_37 : decode cX3_lesson 37 = .ok (.aload_n 0, 1) := by decide +kernel
theorem dX3_lesson_38 : decode cX3_lesson 38 = .ok (.getfield 33, 3) := by decide +kernel
theorem dX3_lesson_41 : decode cX3_lesson 41 = .ok (.iload_n 1, 1) := by decide +kernel
theorem dX3_lesson_42 : decode cX3_lesson 42 = .ok (.iload_n 2, 1) := by decide +kernel
theorem dX3_lesson_43 : decode cX3_lesson 43 = .ok (.invokevirtual 126, 3) := by decide +kernel
theorem dX3_lesson_46 : decode cX3_lesson 46 = .ok (.ireturn, 1) := by decide +kernel
theorem dX3_pass_0 : decode cX3_pass 0 = .ok (.iload_n 1, 1) := by decide +kernel
theorem dX3_pass_1 : decode cX3_pass 1 = .ok (.iconst 1, 1) := by decide +kernel
theorem dX3_pass_2 : decode cX3_pass 2 = .ok (.if_icmp .lt 9, 3) := by decide +kernel
theorem dX3_pass_5 : decode cX3_pass 5 = .ok (.iload_n 1, 1) := by decide +kernel
theorem dX3_pass_6 : decode cX3_pass 6 = .ok (.bipush 24, 2) := by decide +kernel
theorem dX3_pass_8 : decode cX3_pass 8 = .ok (.if_icmp .le 5, 3) := by decide +kernel
theorem dX3_pass_11 : decode cX3_pass 11 = .ok (.iconst (-1), 1) := by decide +kernel
theorem dX3_pass_12 : decode cX3_pass 12 = .ok (.ireturn, 1) := by decide +kernel
theorem dX3_pass_13 : decode cX3_pass 13 = .ok (.aload_n 0, 1) := by decide +kernel
theorem dX3_pass_14 : decode cX3_pass 14 = .ok (.getfield 33, 3) := by decide +kernel
theorem dX3_pass_17 : decode cX3_pass 17 = .ok (.getfield 140, 3) := by decide +kernel
theorem dX3_pass_20 : decode cX3_pass 20 = .ok (.iload_n 1, 1) := by decide +kernel
theorem dX3_pass_21 : decode cX3_pass 21 = .ok (.iadd, 1) := by decide +kernel
theorem dX3_pass_22 : decode cX3_pass 22 = .ok (.sipush 999, 3) := by decide +kernel
theorem dX3_pass_25 : decode cX3_pass 25 = .ok (.if_icmp .le 6, 3) := by decide +kernel
theorem dX3_pass_28 : decode cX3_pass 28 = .ok (.bipush (-2), 2) := by decide +kernel
theorem dX3_pass_30 : decode cX3_pass 30 = .ok (.ireturn, 1) := by decide +kernel
theorem dX3_pass_31 : decode cX3_pass 31 = .ok (.aload_n 0, 1) := by decide +kernel
theorem dX3_pass_32 : decode cX3_pass 32 = .ok (.invokevirtual 133, 3) := by decide +kernel
theorem dX3_pass_35 : decode cX3_pass 35 = .ok (.aload_n 0, 1) := by decide +kernel
theorem dX3_pass_36 : decode cX3_pass 36 = .ok (.getfield 33, 3) := by decide +kernel
theorem dX3_pass_39 : decode cX3_pass 39 = .ok (.iload_n 1, 1) := by decide +kernel
theorem dX3_pass_40 : decode cX3_pass 40 = .ok (.invokevirtual 143, 3) := by decide +kernel
theorem dX3_pass_43 : decode cX3_pass 43 = .ok (.aload_n 0, 1) := by decide +kernel
theorem dX3_pass_44 : decode cX3_pass 44 = .ok (.getfield 33, 3) := by decide +kernel
theorem dX3_pass_47 : decode cX3_pass 47 = .ok (.invokevirtual 147, 3) := by decide +kernel
theorem dX3_pass_50 : decode cX3_pass 50 = .ok (.ireturn, 1) := by decide +kernel
theorem dX3_mend_0 : decode cX3_mend 0 = .ok (.aload_n 0, 1) := by decide +kernel
theorem dX3_mend_1 : decode cX3_mend 1 = .ok (.getfield 33, 3) := by decide +kernel
theorem dX3_mend_4 : decode cX3_mend 4 = .ok (.iload_n 1, 1) := by decide +kernel
theorem dX3_mend_5 : decode cX3_mend 5 = .ok (.invokevirtual 104, 3) := by decide +kernel
theorem dX3_mend_8 : decode cX3_mend 8 = .ok (.ifCond .eq 14, 3) := by decide +kernel
theorem dX3_mend_11 : decode cX3_mend 11 = .ok (.aload_n 0, 1) := by decide +kernel
theorem dX3_mend_12 : decode cX3_mend 12 = .ok (.getfield 33, 3) := by decide +kernel
theorem dX3_mend_15 : decode cX3_mend 15 = .ok (.iload_n 2, 1) := by decide +kernel
theorem dX3_mend_16 : decode cX3_mend 16 = .ok (.invokevirtual 94, 3) := by decide +kernel
theorem dX3_mend_19 : decode cX3_mend 19 = .ok (.ifCond .ne 5, 3) := by decide +kernel
theorem dX3_mend_22 : decode cX3_mend 22 = .ok (.iconst (-1), 1) := by decide +kernel
theorem dX3_mend_23 : decode cX3_mend 23 = .ok (.ireturn, 1) := by decide +kernel
theorem dX3_mend_24 : decode cX3_mend 24 = .ok (.aload_n 0, 1) := by decide +kernel
theorem dX3_mend_25 : decode cX3_mend 25 = .ok (.getfield 33, 3) := by decide +kernel
theorem dX3_mend_28 : decode cX3_mend 28 = .ok (.iload_n 1, 1) := by decide +kernel
theorem dX3_mend_29 : decode cX3_mend 29 = .ok (.iload_n 2, 1) := by decide +kernel
theorem dX3_mend_30 : decode cX3_mend 30 = .ok (.invokevirtual 151, 3) := by decide +kernel
theorem dX3_mend_33 : decode cX3_mend 33 = .ok (.ifCond .ne 6, 3) := by decide +kernel
theorem dX3_mend_36 : decode cX3_mend 36 = .ok (.bipush (-2), 2) := by decide +kernel
theorem dX3_mend_38 : decode cX3_mend 38 = .ok (.ireturn, 1) := by decide +kernel
theorem dX3_mend_39 : decode cX3_mend 39 = .ok (.aload_n 0, 1) := by decide +kernel
theorem dX3_mend_40 : decode cX3_mend 40 = .ok (.getfield 33, 3) := by decide +kernel
theorem dX3_mend_43 : decode cX3_mend 43 = .ok (.iload_n 1, 1) := by decide +kernel
theorem dX3_mend_44 : decode cX3_mend 44 = .ok (.iload_n 2, 1) := by decide +kernel
theorem dX3_mend_45 : decode cX3_mend 45 = .ok (.invokevirtual 126, 3) := by decide +kernel
theorem dX3_mend_48 : decode cX3_mend 48 = .ok (.istore_n 3, 1) := by decide +kernel
theorem dX3_mend_49 : decode cX3_mend 49 = .ok (.aload_n 0, 1) := by decide +kernel
theorem dX3_mend_50 : decode cX3_mend 50 = .ok (.invokevirtual 133, 3) := by decide +kernel
theorem dX3_mend_53 : decode cX3_mend 53 = .ok (.aload_n 0, 1) := by decide +kernel
theorem dX3_mend_54 : decode cX3_mend 54 = .ok (.getfield 33, 3) := by decide +kernel
theorem dX3_mend_57 : decode cX3_mend 57 = .ok (.iload_n 1, 1) := by decide +kernel
theorem dX3_mend_58 : decode cX3_mend 58 = .ok (.iload_n 2, 1) := by decide +kernel
theorem dX3_mend_59 : decode cX3_mend 59 = .ok (.invokevirtual 154, 3) := by decide +kernel
theorem dX3_mend_62 : decode cX3_mend 62 = .ok (.iload_n 3, 1) := by decide +kernel
theorem dX3_mend_63 : decode cX3_mend 63 = .ok (.ireturn, 1) := by decide +kernel
theorem dX3_change_0 : decode cX3_change 0 = .ok (.aload_n 0, 1) := by decide +kernel
theorem dX3_change_1 : decode cX3_change 1 = .ok (.getfield 33, 3) := by decide +kernel
theorem dX3_change_4 : decode cX3_change 4 = .ok (.iload_n 1, 1) := by decide +kernel
theorem dX3_change_5 : decode cX3_change 5 = .ok (.invokevirtual 104, 3) := by decide +kernel
theorem dX3_change_8 : decode cX3_change 8 = .ok (.ifCond .eq 19, 3) := by decide +kernel
theorem dX3_change_11 : decode cX3_change 11 = .ok (.aload_n 0, 1) := by decide +kernel
theorem dX3_change_12 : decode cX3_change 12 = .ok (.getfield 33, 3) := by decide +kernel
theorem dX3_change_15 : decode cX3_change 15 = .ok (.iload_n 2, 1) := by decide +kernel
theorem dX3_change_16 : decode cX3_change 16 = .ok (.invokevirtual 104, 3) := by decide +kernel
theorem dX3_change_19 : decode cX3_change 19 = .ok (.ifCond .eq 8, 3) := by decide +kernel
theorem dX3_change_22 : decode cX3_change 22 = .ok (.iload_n 1, 1) := by decide +kernel
theorem dX3_change_23 : decode cX3_change 23 = .ok (.iload_n 2, 1) := by decide +kernel
theorem dX3_change_24 : decode cX3_change 24 = .ok (.if_icmp .ne 5, 3) := by decide +kernel
theorem dX3_change_27 : decode cX3_change 27 = .ok (.iconst (-1), 1) := by decide +kernel
theorem dX3_change_28 : decode cX3_change 28 = .ok (.ireturn, 1) := by decide +kernel
theorem dX3_change_29 : decode cX3_change 29 = .ok (.aload_n 0, 1) := by decide +kernel
theorem dX3_change_30 : decode cX3_change 30 = .ok (.invokevirtual 133, 3) := by decide +kernel
theorem dX3_change_33 : decode cX3_change 33 = .ok (.aload_n 0, 1) := by decide +kernel
theorem dX3_change_34 : decode cX3_change 34 = .ok (.getfield 33, 3) := by decide +kernel
theorem dX3_change_37 : decode cX3_change 37 = .ok (.iload_n 1, 1) := by decide +kernel
theorem dX3_change_38 : decode cX3_change 38 = .ok (.iload_n 2, 1) := by decide +kernel
theorem dX3_change_39 : decode cX3_change 39 = .ok (.invokevirtual 157, 3) := by decide +kernel
theorem dX3_change_42 : decode cX3_change 42 = .ok (.aload_n 0, 1) := by decide +kernel
theorem dX3_change_43 : decode cX3_change 43 = .ok (.getfield 33, 3) := by decide +kernel
theorem dX3_change_46 : decode cX3_change 46 = .ok (.getfield 107, 3) := by decide +kernel
theorem dX3_change_49 : decode cX3_change 49 = .ok (.iload_n 1, 1) := by decide +kernel
theorem dX3_change_50 : decode cX3_change 50 = .ok (.invokestatic 100, 3) := by decide +kernel
theorem dX3_change_53 : decode cX3_change 53 = .ok (.ireturn, 1) := by decide +kernel
theorem dX3_undo_0 : decode cX3_undo 0 = .ok (.aload_n 0, 1) := by decide +kernel
theorem dX3_undo_1 : decode cX3_undo 1 = .ok (.getfield 68, 3) := by decide +kernel
theorem dX3_undo_4 : decode cX3_undo 4 = .ok (.ifCond .gt 6, 3) := by decide +kernel
theorem dX3_undo_7 : decode cX3_undo 7 = .ok (.bipush (-2), 2) := by decide +kernel
theorem dX3_undo_9 : decode cX3_undo 9 = .ok (.ireturn, 1) := by decide +kernel
theorem dX3_undo_10 : decode cX3_undo 10 = .ok (.aload_n 0, 1) := by decide +kernel
theorem dX3_undo_11 : decode cX3_undo 11 = .ok (.aload_n 0, 1) := by decide +kernel
theorem dX3_undo_12 : decode cX3_undo 12 = .ok (.getfield 71, 3) := by decide +kernel
theorem dX3_undo_15 : decode cX3_undo 15 = .ok (.bipush 8, 2) := by decide +kernel
theorem dX3_undo_17 : decode cX3_undo 17 = .ok (.iadd, 1) := by decide +kernel
theorem dX3_undo_18 : decode cX3_undo 18 = .ok (.iconst 1, 1) := by decide +kernel
theorem dX3_undo_19 : decode cX3_undo 19 = .ok (.isub, 1) := by decide +kernel
theorem dX3_undo_20 : decode cX3_undo 20 = .ok (.bipush 8, 2) := by decide +kernel
theorem dX3_undo_22 : decode cX3_undo 22 = .ok (.irem, 1) := by decide +kernel
theorem dX3_undo_23 : decode cX3_undo 23 = .ok (.putfield 71, 3) := by decide +kernel
theorem dX3_undo_26 : decode cX3_undo 26 = .ok (.aload_n 0, 1) := by decide +kernel
theorem dX3_undo_27 : decode cX3_undo 27 = .ok (.getfield 33, 3) := by decide +kernel
theorem dX3_undo_30 : decode cX3_undo 30 = .ok (.aload_n 0, 1) := by decide +kernel
theorem dX3_undo_31 : decode cX3_undo 31 = .ok (.getfield 51, 3) := by decide +kernel
theorem dX3_undo_34 : decode cX3_undo 34 = .ok (.aload_n 0, 1) := by decide +kernel
theorem dX3_undo_35 : decode cX3_undo 35 = .ok (.getfield 71, 3) := by decide +kernel
theorem dX3_undo_38 : decode cX3_undo 38 = .ok (.invokestatic 160, 3) := by decide +kernel
theorem dX3_undo_41 : decode cX3_undo 41 = .ok (.invokevirtual 87, 3) := by decide +kernel
theorem dX3_undo_44 : decode cX3_undo 44 = .ok (.aload_n 0, 1) := by decide +kernel
theorem dX3_undo_45 : decode cX3_undo 45 = .ok (.dup, 1) := by decide +kernel
theorem dX3_undo_46 : decode cX3_undo 46 = .ok (.getfield 68, 3) := by decide +kernel
theorem dX3_undo_49 : decode cX3_undo 49 = .ok (.iconst 1, 1) := by decide +kernel
theorem dX3_undo_50 : decode cX3_undo 50 = .ok (.isub, 1) := by decide +kernel
theorem dX3_undo_51 : decode cX3_undo 51 = .ok (.putfield 68, 3) := by decide +kernel
theorem dX3_undo_54 : decode cX3_undo 54 = .ok (.aload_n 0, 1) := by decide +kernel
theorem dX3_undo_55 : decode cX3_undo 55 = .ok (.getfield 68, 3) := by decide +kernel
theorem dX3_undo_58 : decode cX3_undo 58 = .ok (.ireturn, 1) := by decide +kernel
theorem dX3_behind_0 : decode cX3_behind 0 = .ok (.iload_n 1, 1) := by decide +kernel
theorem dX3_behind_1 : decode cX3_behind 1 = .ok (.ifCond .lt 36, 3) := by decide +kernel
theorem dX3_behind_4 : decode cX3_behind 4 = .ok (.iload_n 1, 1) := by decide +kernel
theorem dX3_behind_5 : decode cX3_behind 5 = .ok (.bipush 40, 2) := by decide +kernel
theorem dX3_behind_7 : decode cX3_behind 7 = .ok (.if_icmp .gt 30, 3) := by decide +kernel
theorem dX3_behind_10 : decode cX3_behind 10 = .ok (.aload_n 0, 1) := by decide +kernel
theorem dX3_behind_11 : decode cX3_behind 11 = .ok (.getfield 33, 3) := by decide +kernel
theorem dX3_behind_14 : decode cX3_behind 14 = .ok (.iload_n 2, 1) := by decide +kernel
theorem dX3_behind_15 : decode cX3_behind 15 = .ok (.invokevirtual 104, 3) := by decide +kernel
theorem dX3_behind_18 : decode cX3_behind 18 = .ok (.ifCond .eq 19, 3) := by decide +kernel
theorem dX3_behind_21 : decode cX3_behind 21 = .ok (.iload_n 3, 1) := by decide +kernel
theorem dX3_behind_22 : decode cX3_behind 22 = .ok (.iconst (-1), 1) := by decide +kernel
theorem dX3_behind_23 : decode cX3_behind 23 = .ok (.if_icmp .eq 16, 3) := by decide +kernel
theorem dX3_behind_26 : decode cX3_behind 26 = .ok (.aload_n 0, 1) := by decide +kernel
theorem dX3_behind_27 : decode cX3_behind 27 = .ok (.getfield 33, 3) := by decide +kernel
theorem dX3_behind_30 : decode cX3_behind 30 = .ok (.iload_n 3, 1) := by decide +kernel
theorem dX3_behind_31 : decode cX3_behind 31 = .ok (.invokevirtual 94, 3) := by decide +kernel
theorem dX3_behind_34 : decode cX3_behind 34 = .ok (.ifCond .ne 5, 3) := by decide +kernel
theorem dX3_behind_37 : decode cX3_behind 37 = .ok (.iconst (-1), 1) := by decide +kernel
theorem dX3_behind_38 : decode cX3_behind 38 = .ok (.ireturn, 1) := by decide +kernel
theorem dX3_behind_39 : decode cX3_behind 39 = .ok (.aload_n 0, 1) := by decide +kernel
theorem dX3_behind_40 : decode cX3_behind 40 = .ok (.getfield 40, 3) := by decide +kernel
theorem dX3_behind_43 : decode cX3_behind 43 = .ok (.aload_n 0, 1) := by decide +kernel
theorem dX3_behind_44 : decode cX3_behind 44 = .ok (.getfield 33, 3) := by decide +kernel
theorem dX3_behind_47 : decode cX3_behind 47 = .ok (.invokevirtual 87, 3) := by decide +kernel
theorem dX3_behind_50 : decode cX3_behind 50 = .ok (.aload_n 0, 1) := by decide +kernel
theorem dX3_behind_51 : decode cX3_behind 51 = .ok (.getfield 40, 3) := by decide +kernel
theorem dX3_behind_54 : decode cX3_behind 54 = .ok (.iload_n 1, 1) := by decide +kernel
theorem dX3_behind_55 : decode cX3_behind 55 = .ok (.invokevirtual 143, 3) := by decide +kernel
theorem dX3_behind_58 : decode cX3_behind 58 = .ok (.iload_n 3, 1) := by decide +kernel
theorem dX3_behind_59 : decode cX3_behind 59 = .ok (.iconst (-1), 1) := by decide +kernel
theorem dX3_behind_60 : decode cX3_behind 60 = .ok (.if_icmp .ne 12, 3) := by decide +kernel
theorem dX3_behind_63 : decode cX3_behind 63 = .ok (.aload_n 0, 1) := by decide +kernel
theorem dX3_behind_64 : decode cX3_behind 64 = .ok (.getfield 40, 3) := by decide +kernel
theorem dX3_behind_67 : decode cX3_behind 67 = .ok (.iload_n 2, 1) := by decide +kernel
theorem dX3_behind_68 : decode cX3_behind 68 = .ok (.invokevirtual 164, 3) := by decide +kernel
theorem dX3_behind_71 : decode cX3_behind 71 = .ok (.ireturn, 1) := by decide +kernel
theorem dX3_behind_72 : decode cX3_behind 72 = .ok (.aload_n 0, 1) := by decide +kernel
theorem dX3_behind_73 : decode cX3_behind 73 = .ok (.getfield 40, 3) := by decide +kernel
theorem dX3_behind_76 : decode cX3_behind 76 = .ok (.iload_n 2, 1) := by decide +kernel
theorem dX3_behind_77 : decode cX3_behind 77 = .ok (.iload_n 3, 1) := by decide +kernel
theorem dX3_behind_78 : decode cX3_behind 78 = .ok (.invokevirtual 122, 3) := by decide +kernel
theorem dX3_behind_81 : decode cX3_behind 81 = .ok (.ifCond .eq 15, 3) := by decide +kernel
theorem dX3_behind_84 : decode cX3_behind 84 = .ok (.aload_n 0, 1) := by decide +kernel
theorem dX3_behind_85 : decode cX3_behind 85 = .ok (.getfield 40, 3) := by decide +kernel
theorem dX3_behind_88 : decode cX3_behind 88 = .ok (.iload_n 2, 1) := by decide +kernel
theorem dX3_behind_89 : decode cX3_behind 89 = .ok (.iload_n 3, 1) := by decide +kernel
theorem dX3_behind_90 : decode cX3_behind 90 = .ok (.invokevirtual 126, 3) := by decide +kernel
theorem dX3_behind_93 : decode cX3_behind 93 = .ok (.goto 5, 3) := by decide +kernel
theorem dX3_behind_96 : decode cX3_behind 96 = .ok (.bipush (-4), 2) := by decide +kernel
theorem dX3_behind_98 : decode cX3_behind 98 = .ok (.ireturn, 1) := by decide +kernel
theorem dX3_made_0 : decode cX3_made 0 = .ok (.aload_n 0, 1) := by decide +kernel
theorem dX3_made_1 : decode cX3_made 1 = .ok (.getfield 33, 3) := by decide +kernel
theorem dX3_made_4 : decode cX3_made 4 = .ok (.iload_n 1, 1) := by decide +kernel
theorem dX3_made_5 : decode cX3_made 5 = .ok (.invokevirtual 104, 3) := by decide +kernel
theorem dX3_made_8 : decode cX3_made 8 = .ok (.ifCond .ne 5, 3) := by decide +kernel
theorem dX3_made_11 : decode cX3_made 11 = .ok (.iconst (-1), 1) := by decide +kernel
theorem dX3_made_12 : decode cX3_made 12 = .ok (.ireturn, 1) := by decide +kernel
theorem dX3_made_13 : decode cX3_made 13 = .ok (.aload_n 0, 1) := by decide +kernel
theorem dX3_made_14 : decode cX3_made 14 = .ok (.getfield 40, 3) := by decide +kernel
theorem dX3_made_17 : decode cX3_made 17 = .ok (.aload_n 0, 1) := by decide +kernel
theorem dX3_made_18 : decode cX3_made 18 = .ok (.getfield 33, 3) := by decide +kernel
theorem dX3_made_21 : decode cX3_made 21 = .ok (.invokevirtual 87, 3) := by decide +kernel
theorem dX3_made_24 : decode cX3_made 24 = .ok (.iconst 0, 1) := by decide +kernel
theorem dX3_made_25 : decode cX3_made 25 = .ok (.istore_n 2, 1) := by decide +kernel
theorem dX3_made_26 : decode cX3_made 26 = .ok (.iload_n 2, 1) := by decide +kernel
theorem dX3_made_27 : decode cX3_made 27 = .ok (.bipush 60, 2) := by decide +kernel
theorem dX3_made_29 : decode cX3_made 29 = .ok (.if_icmp .gt 30, 3) := by decide +kernel
theorem dX3_made_32 : decode cX3_made 32 = .ok (.aload_n 0, 1) := by decide +kernel
theorem dX3_made_33 : decode cX3_made 33 = .ok (.getfield 40, 3) := by decide +kernel
theorem dX3_made_36 : decode cX3_made 36 = .ok (.iload_n 1, 1) := by decide +kernel
theorem dX3_made_37 : decode cX3_made 37 = .ok (.invokevirtual 119, 3) := by decide +kernel
theorem dX3_made_40 : decode cX3_made 40 = .ok (.ifCond .eq 5, 3) := by decide +kernel
theorem dX3_made_43 : decode cX3_made 43 = .ok (.iload_n 2, 1) := by decide +kernel
theorem dX3_made_44 : decode cX3_made 44 = .ok (.ireturn, 1) := by decide +kernel
theorem dX3_made_45 : decode cX3_made 45 = .ok (.aload_n 0, 1) := by decide +kernel
theorem dX3_made_46 : decode cX3_made 46 = .ok (.getfield 40, 3) := by decide +kernel
theorem dX3_made_49 : decode cX3_made 49 = .ok (.iconst 1, 1) := by decide +kernel
theorem dX3_made_50 : decode cX3_made 50 = .ok (.invokevirtual 168, 3) := by decide +kernel
theorem dX3_made_53 : decode cX3_made 53 = .ok (.iinc 2 1, 3) := by decide +kernel
theorem dX3_made_56 : decode cX3_made 56 = .ok (.goto (-30), 3) := by decide +kernel
theorem dX3_made_59 : decode cX3_made 59 = .ok (.bipush (-4), 2) := by decide +kernel
theorem dX3_made_61 : decode cX3_made 61 = .ok (.ireturn, 1) := by decide +kernel
theorem dX3_best_0 : decode cX3_best 0 = .ok (.aload_n 0, 1) := by decide +kernel
theorem dX3_best_1 : decode cX3_best 1 = .ok (.getfield 33, 3) := by decide +kernel
theorem dX3_best_4 : decode cX3_best 4 = .ok (.iload_n 1, 1) := by decide +kernel
theorem dX3_best_5 : decode cX3_best 5 = .ok (.invokevirtual 104, 3) := by decide +kernel
theorem dX3_best_8 : decode cX3_best 8 = .ok (.ifCond .eq 23, 3) := by decide +kernel
theorem dX3_best_11 : decode cX3_best 11 = .ok (.iload_n 2, 1) := by decide +kernel
theorem dX3_best_12 : decode cX3_best 12 = .ok (.iconst 1, 1) := by decide +kernel
theorem dX3_best_13 : decode cX3_best 13 = .ok (.if_icmp .lt 18, 3) := by decide +kernel
theorem dX3_best_16 : decode cX3_best 16 = .ok (.iload_n 2, 1) := by decide +kernel
theorem dX3_best_17 : decode cX3_best 17 = .ok (.iconst 3, 1) := by decide +kernel
theorem dX3_best_18 : decode cX3_best 18 = .ok (.if_icmp .gt 13, 3) := by decide +kernel
theorem dX3_best_21 : decode cX3_best 21 = .ok (.iload_n 3, 1) := by decide +kernel
theorem dX3_best_22 : decode cX3_best 22 = .ok (.iconst (-1), 1) := by decide +kernel
theorem dX3_best_23 : decode cX3_best 23 = .ok (.if_icmp .lt 8, 3) := by decide +kernel
theorem dX3_best_26 : decode cX3_best 26 = .ok (.iload_n 3, 1) := by decide +kernel
theorem dX3_best_27 : decode cX3_best 27 = .ok (.iconst 2, 1) := by decide +kernel
theorem dX3_best_28 : decode cX3_best 28 = .ok (.if_icmp .le 5, 3) := by decide +kernel
theorem dX3_best_31 : decode cX3_best 31 = .ok (.iconst (-1), 1) := by decide +kernel
theorem dX3_best_32 : decode cX3_best 32 = .ok (.ireturn, 1) := by decide +kernel
theorem dX3_best_33 : decode cX3_best 33 = .ok (.iload_n 3, 1) := by decide +kernel
theorem dX3_best_34 : decode cX3_best 34 = .ok (.iload_n 2, 1) := by decide +kernel
theorem dX3_best_35 : decode cX3_best 35 = .ok (.if_icmp .lt 6, 3) := by decide +kernel
theorem dX3_best_38 : decode cX3_best 38 = .ok (.bipush (-4), 2) := by decide +kernel
theorem dX3_best_40 : decode cX3_best 40 = .ok (.ireturn, 1) := by decide +kernel
theorem dX3_best_41 : decode cX3_best 41 = .ok (.aload_n 0, 1) := by decide +kernel
theorem dX3_best_42 : decode cX3_best 42 = .ok (.invokevirtual 172, 3) := by decide +kernel
theorem dX3_best_45 : decode cX3_best 45 = .ok (.aload_n 0, 1) := by decide +kernel
theorem dX3_best_46 : decode cX3_best 46 = .ok (.getfield 47, 3) := by decide +kernel
theorem dX3_best_49 : decode cX3_best 49 = .ok (.iconst 0, 1) := by decide +kernel
theorem dX3_best_50 : decode cX3_best 50 = .ok (.iload_n 2, 1) := by decide +kernel
theorem dX3_best_51 : decode cX3_best 51 = .ok (.iload_n 1, 1) := by decide +kernel
theorem dX3_best_52 : decode cX3_best 52 = .ok (.iconst 0, 1) := by decide +kernel
theorem dX3_best_53 : decode cX3_best 53 = .ok (.invokestatic 175, 3) := by decide +kernel
theorem dX3_best_56 : decode cX3_best 56 = .ok (.istore 4, 2) := by decide +kernel
theorem dX3_best_58 : decode cX3_best 58 = .ok (.iload_n 3, 1) := by decide +kernel
theorem dX3_best_59 : decode cX3_best 59 = .ok (.iconst (-1), 1) := by decide +kernel
theorem dX3_best_60 : decode cX3_best 60 = .ok (.if_icmp .ne 10, 3) := by decide +kernel
theorem dX3_best_63 : decode cX3_best 63 = .ok (.iload 4, 2) := by decide +kernel
theorem dX3_best_65 : decode cX3_best 65 = .ok (.sipush 512, 3) := by decide +kernel
theorem dX3_best_68 : decode cX3_best 68 = .ok (.idiv, 1) := by decide +kernel
theorem dX3_best_69 : decode cX3_best 69 = .ok (.ireturn, 1) := by decide +kernel
theorem dX3_best_70 : decode cX3_best 70 = .ok (.sipush 511, 3) := by decide +kernel
theorem dX3_best_73 : decode cX3_best 73 = .ok (.iload 4, 2) := by decide +kernel
theorem dX3_best_75 : decode cX3_best 75 = .ok (.sipush 512, 3) := by decide +kernel
theorem dX3_best_78 : decode cX3_best 78 = .ok (.irem, 1) := by decide +kernel
theorem dX3_best_79 : decode cX3_best 79 = .ok (.isub, 1) := by decide +kernel
theorem dX3_best_80 : decode cX3_best 80 = .ok (.istore 5, 2) := by decide +kernel
theorem dX3_best_82 : decode cX3_best 82 = .ok (.iload 5, 2) := by decide +kernel
theorem dX3_best_84 : decode cX3_best 84 = .ok (.iconst 3, 1) := by decide +kernel
theorem dX3_best_85 : decode cX3_best 85 = .ok (.iload_n 2, 1) := by decide +kernel
theorem dX3_best_86 : decode cX3_best 86 = .ok (.iconst 1, 1) := by decide +kernel
theorem dX3_best_87 : decode cX3_best 87 = .ok (.isub, 1) := by decide +kernel
theorem dX3_best_88 : decode cX3_best 88 = .ok (.iload_n 3, 1) := by decide +kernel
theorem dX3_best_89 : decode cX3_best 89 = .ok (.isub, 1) := by decide +kernel
theorem dX3_best_90 : decode cX3_best 90 = .ok (.imul, 1) := by decide +kernel
theorem dX3_best_91 : decode cX3_best 91 = .ok (.ishr, 1) := by decide +kernel
theorem dX3_best_92 : decode cX3_best 92 = .ok (.bipush 7, 2) := by decide +kernel
theorem dX3_best_94 : decode cX3_best 94 = .ok (.iand, 1) := by decide +kernel
theorem dX3_best_95 : decode cX3_best 95 = .ok (.ireturn, 1) := by decide +kernel
theorem dX3_mends_0 : decode cX3_mends 0 = .ok (.iload_n 1, 1) := by decide +kernel
theorem dX3_mends_1 : decode cX3_mends 1 = .ok (.ifCond .lt 8, 3) := by decide +kernel
theorem dX3_mends_4 : decode cX3_mends 4 = .ok (.iload_n 1, 1) := by decide +kernel
theorem dX3_mends_5 : decode cX3_mends 5 = .ok (.iconst 1, 1) := by decide +kernel
theorem dX3_mends_6 : decode cX3_mends 6 = .ok (.if_icmp .le 5, 3) := by decide +kernel
theorem dX3_mends_9 : decode cX3_mends 9 = .ok (.iconst (-1), 1) := by decide +kernel
theorem dX3_mends_10 : decode cX3_mends 10 = .ok (.ireturn, 1) := by decide +kernel
theorem dX3_mends_11 : decode cX3_mends 11 = .ok (.bipush (-4), 2) := by decide +kernel
theorem dX3_mends_13 : decode cX3_mends 13 = .ok (.istore_n 2, 1) := by decide +kernel
theorem dX3_mends_14 : decode cX3_mends 14 = .ok (.bipush (-4), 2) := by decide +kernel
theorem dX3_mends_16 : decode cX3_mends 16 = .ok (.istore_n 3, 1) := by decide +kernel
theorem dX3_mends_17 : decode cX3_mends 17 = .ok (.iconst 0, 1) := by decide +kernel
theorem dX3_mends_18 : decode cX3_mends 18 = .ok (.istore 4, 2) := by decide +kernel
theorem dX3_mends_20 : decode cX3_mends 20 = .ok (.iload 4, 2) := by decide +kernel
theorem dX3_mends_22 : decode cX3_mends 22 = .ok (.aload_n 0, 1) := by decide +kernel
theorem dX3_mends_23 : decode cX3_mends 23 = .ok (.getfield 33, 3) := by decide +kernel
theorem dX3_mends_26 : decode cX3_mends 26 = .ok (.getfield 84, 3) := by decide +kernel
theorem dX3_mends_29 : decode cX3_mends 29 = .ok (.if_icmp .ge 77, 3) := by decide +kernel
theorem dX3_mends_32 : decode cX3_mends 32 = .ok (.iconst 0, 1) := by decide +kernel
theorem dX3_mends_33 : decode cX3_mends 33 = .ok (.istore 5, 2) := by decide +kernel
theorem dX3_mends_35 : decode cX3_mends 35 = .ok (.iload 5, 2) := by decide +kernel
theorem dX3_mends_37 : decode cX3_mends 37 = .ok (.aload_n 0, 1) := by decide +kernel
theorem dX3_mends_38 : decode cX3_mends 38 = .ok (.getfield 33, 3) := by decide +kernel
theorem dX3_mends_41 : decode cX3_mends 41 = .ok (.getfield 81, 3) := by decide +kernel
theorem dX3_mends_44 : decode cX3_mends 44 = .ok (.if_icmp .ge 56, 3) := by decide +kernel
theorem dX3_mends_47 : decode cX3_mends 47 = .ok (.aload_n 0, 1) := by decide +kernel
theorem dX3_mends_48 : decode cX3_mends 48 = .ok (.getfield 33, 3) := by decide +kernel
theorem dX3_mends_51 : decode cX3_mends 51 = .ok (.iload 4, 2) := by decide +kernel
theorem dX3_mends_53 : decode cX3_mends 53 = .ok (.iload 5, 2) := by decide +kernel
theorem dX3_mends_55 : decode cX3_mends 55 = .ok (.invokevirtual 151, 3) := by decide +kernel
theorem dX3_mends_58 : decode cX3_mends 58 = .ok (.ifCond .eq 14, 3) := by decide +kernel
theorem dX3_mends_61 : decode cX3_mends 61 = .ok (.aload_n 0, 1) := by decide +kernel
theorem dX3_mends_62 : decode cX3_mends 62 = .ok (.iload 4, 2) := by decide +kernel
theorem dX3_mends_64 : decode cX3_mends 64 = .ok (.iload 5, 2) := by decide +kernel
theorem dX3_mends_66 : decode cX3_mends 66 = .ok (.invokevirtual 179, 3) := by decide +kernel
theorem dX3_mends_69 : decode cX3_mends 69 = .ok (.goto 5, 3) := by decide +kernel
theorem dX3_mends_72 : decode cX3_mends 72 = .ok (.bipush (-4), 2) := by decide +kernel
theorem dX3_mends_74 : decode cX3_mends 74 = .ok (.istore 6, 2) := by decide +kernel
theorem dX3_mends_76 : decode cX3_mends 76 = .ok (.iload 6, 2) := by decide +kernel
theorem dX3_mends_78 : decode cX3_mends 78 = .ok (.iload_n 3, 1) := by decide +kernel
theorem dX3_mends_79 : decode cX3_mends 79 = .ok (.if_icmp .le 15, 3) := by decide +kernel
theorem dX3_mends_82 : decode cX3_mends 82 = .ok (.iload 6, 2) := by decide +kernel
theorem dX3_mends_84 : decode cX3_mends 84 = .ok (.istore_n 3, 1) := by decide +kernel
theorem dX3_mends_85 : decode cX3_mends 85 = .ok (.bipush 10, 2) := by decide +kernel
theorem dX3_mends_87 : decode cX3_mends 87 = .ok (.iload 4, 2) := by decide +kernel
theorem dX3_mends_89 : decode cX3_mends 89 = .ok (.imul, 1) := by decide +kernel
theorem dX3_mends_90 : decode cX3_mends 90 = .ok (.iload 5, 2) := by decide +kernel
theorem dX3_mends_92 : decode cX3_mends 92 = .ok (.iadd, 1) := by decide +kernel
theorem dX3_mends_93 : decode cX3_mends 93 = .ok (.istore_n 2, 1) := by decide +kernel
theorem dX3_mends_94 : decode cX3_mends 94 = .ok (.iinc 5 1, 3) := by decide +kernel
theorem dX3_mends_97 : decode cX3_mends 97 = .ok (.goto (-62), 3) := by decide +kernel
theorem dX3_mends_100 : decode cX3_mends 100 = .ok (.iinc 4 1, 3) := by decide +kernel
theorem dX3_mends_103 : decode cX3_mends 103 = .ok (.goto (-83), 3) := by decide +kernel
theorem dX3_mends_106 : decode cX3_mends 106 = .ok (.iload_n 1, 1) := by decide +kernel
theorem dX3_mends_107 : decode cX3_mends 107 = .ok (.ifCond .ne 7, 3) := by decide +kernel
theorem dX3_mends_110 : decode cX3_mends 110 = .ok (.iload_n 2, 1) := by decide +kernel
theorem dX3_mends_111 : decode cX3_mends 111 = .ok (.goto 4, 3) := by decide +kernel
theorem dX3_mends_114 : decode cX3_mends 114 = .ok (.iload_n 3, 1) := by decide +kernel
theorem dX3_mends_115 : decode cX3_mends 115 = .ok (.ireturn, 1) := by decide +kernel
theorem dX3_two_0 : decode cX3_two 0 = .ok (.iload_n 1, 1) := by decide +kernel
theorem dX3_two_1 : decode cX3_two 1 = .ok (.ifCond .lt 8, 3) := by decide +kernel
theorem dX3_two_4 : decode cX3_two 4 = .ok (.iload_n 1, 1) := by decide +kernel
theorem dX3_two_5 : decode cX3_two 5 = .ok (.iconst 1, 1) := by decide +kernel
theorem dX3_two_6 : decode cX3_two 6 = .ok (.if_icmp .le 5, 3) := by decide +kernel
theorem dX3_two_9 : decode cX3_two 9 = .ok (.iconst (-1), 1) := by decide +kernel
theorem dX3_two_10 : decode cX3_two 10 = .ok (.ireturn, 1) := by decide +kernel
theorem dX3_two_11 : decode cX3_two 11 = .ok (.bipush (-4), 2) := by decide +kernel
theorem dX3_two_13 : decode cX3_two 13 = .ok (.istore_n 2, 1) := by decide +kernel
theorem dX3_two_14 : decode cX3_two 14 = .ok (.bipush (-4), 2) := by decide +kernel
theorem dX3_two_16 : decode cX3_two 16 = .ok (.istore_n 3, 1) := by decide +kernel
theorem dX3_two_17 : decode cX3_two 17 = .ok (.iconst 0, 1) := by decide +kernel
theorem dX3_two_18 : decode cX3_two 18 = .ok (.istore 4, 2) := by decide +kernel
theorem dX3_two_20 : decode cX3_two 20 = .ok (.iload 4, 2) := by decide +kernel
theorem dX3_two_22 : decode cX3_two 22 = .ok (.aload_n 0, 1) := by decide +kernel
theorem dX3_two_23 : decode cX3_two 23 = .ok (.getfield 33, 3) := by decide +kernel
theorem dX3_two_26 : decode cX3_two 26 = .ok (.getfield 84, 3) := by decide +kernel
theorem dX3_two_29 : decode cX3_two 29 = .ok (.if_icmp .ge 81, 3) := by decide +kernel
theorem dX3_two_32 : decode cX3_two 32 = .ok (.iload 4, 2) := by decide +kernel
theorem dX3_two_34 : decode cX3_two 34 = .ok (.iconst 1, 1) := by decide +kernel
theorem dX3_two_35 : decode cX3_two 35 = .ok (.iadd, 1) := by decide +kernel
theorem dX3_two_36 : decode cX3_two 36 = .ok (.istore 5, 2) := by decide +kernel
theorem dX3_two_38 : decode cX3_two 38 = .ok (.iload 5, 2) := by decide +kernel
theorem dX3_two_40 : decode cX3_two 40 = .ok (.aload_n 0, 1) := by decide +kernel
theorem dX3_two_41 : decode cX3_two 41 = .ok (.getfield 33, 3) := by decide +kernel
theorem dX3_two_44 : decode cX3_two 44 = .ok (.getfield 84, 3) := by decide +kernel
theorem dX3_two_47 : decode cX3_two 47 = .ok (.if_icmp .ge 57, 3) := by decide +kernel
theorem dX3_two_50 : decode cX3_two 50 = .ok (.aload_n 0, 1) := by decide +kernel
theorem dX3_two_51 : decode cX3_two 51 = .ok (.getfield 33, 3) := by decide +kernel
theorem dX3_two_54 : decode cX3_two 54 = .ok (.getfield 116, 3) := by decide +kernel
theorem dX3_two_57 : decode cX3_two 57 = .ok (.iload 4, 2) := by decide +kernel
theorem dX3_two_59 : decode cX3_two 59 = .ok (.invokestatic 100, 3) := by decide +kernel
theorem dX3_two_62 : decode cX3_two 62 = .ok (.aload_n 0, 1) := by decide +kernel
theorem dX3_two_63 : decode cX3_two 63 = .ok (.getfield 33, 3) := by decide +kernel
theorem dX3_two_66 : decode cX3_two 66 = .ok (.getfield 116, 3) := by decide +kernel
theorem dX3_two_69 : decode cX3_two 69 = .ok (.iload 5, 2) := by decide +kernel
theorem dX3_two_71 : decode cX3_two 71 = .ok (.invokestatic 100, 3) := by decide +kernel
theorem dX3_two_74 : decode cX3_two 74 = .ok (.ior, 1) := by decide +kernel
theorem dX3_two_75 : decode cX3_two 75 = .ok (.invokestatic 182, 3) := by decide +kernel
theorem dX3_two_78 : decode cX3_two 78 = .ok (.istore 6, 2) := by decide +kernel
theorem dX3_two_80 : decode cX3_two 80 = .ok (.iload 6, 2) := by decide +kernel
theorem dX3_two_82 : decode cX3_two 82 = .ok (.iload_n 3, 1) := by decide +kernel
theorem dX3_two_83 : decode cX3_two 83 = .ok (.if_icmp .le 15, 3) := by decide +kernel
theorem dX3_two_86 : decode cX3_two 86 = .ok (.iload 6, 2) := by decide +kernel
theorem dX3_two_88 : decode cX3_two 88 = .ok (.istore_n 3, 1) := by decide +kernel
theorem dX3_two_89 : decode cX3_two 89 = .ok (.bipush 10, 2) := by decide +kernel
theorem dX3_two_91 : decode cX3_two 91 = .ok (.iload 4, 2) := by decide +kernel
theorem dX3_two_93 : decode cX3_two 93 = .ok (.imul, 1) := by decide +kernel
theorem dX3_two_94 : decode cX3_two 94 = .ok (.iload 5, 2) := by decide +kernel
theorem dX3_two_96 : decode cX3_two 96 = .ok (.iadd, 1) := by decide +kernel
theorem dX3_two_97 : decode cX3_two 97 = .ok (.istore_n 2, 1) := by decide +kernel
theorem dX3_two_98 : decode cX3_two 98 = .ok (.iinc 5 1, 3) := by decide +kernel
theorem dX3_two_101 : decode cX3_two 101 = .ok (.goto (-63), 3) := by decide +kernel
theorem dX3_two_104 : decode cX3_two 104 = .ok (.iinc 4 1, 3) := by decide +kernel
theorem dX3_two_107 : decode cX3_two 107 = .ok (.goto (-87), 3) := by decide +kernel
theorem dX3_two_110 : decode cX3_two 110 = .ok (.iload_n 1, 1) := by decide +kernel
theorem dX3_two_111 : decode cX3_two 111 = .ok (.ifCond .ne 7, 3) := by decide +kernel
theorem dX3_two_114 : decode cX3_two 114 = .ok (.iload_n 2, 1) := by decide +kernel
theorem dX3_two_115 : decode cX3_two 115 = .ok (.goto 4, 3) := by decide +kernel
theorem dX3_two_118 : decode cX3_two 118 = .ok (.iload_n 3, 1) := by decide +kernel
theorem dX3_two_119 : decode cX3_two 119 = .ok (.ireturn, 1) := by decide +kernel
theorem dX3_tests_0 : decode cX3_tests 0 = .ok (.iload_n 1, 1) := by decide +kernel
theorem dX3_tests_1 : decode cX3_tests 1 = .ok (.ifCond .lt 8, 3) := by decide +kernel
theorem dX3_tests_4 : decode cX3_tests 4 = .ok (.iload_n 1, 1) := by decide +kernel
theorem dX3_tests_5 : decode cX3_tests 5 = .ok (.iconst 1, 1) := by decide +kernel
theorem dX3_tests_6 : decode cX3_tests 6 = .ok (.if_icmp .le 5, 3) := by decide +kernel
theorem dX3_tests_9 : decode cX3_tests 9 = .ok (.iconst (-1), 1) := by decide +kernel
theorem dX3_tests_10 : decode cX3_tests 10 = .ok (.ireturn, 1) := by decide +kernel
theorem dX3_tests_11 : decode cX3_tests 11 = .ok (.aload_n 0, 1) := by decide +kernel
theorem dX3_tests_12 : decode cX3_tests 12 = .ok (.invokevirtual 187, 3) := by decide +kernel
theorem dX3_tests_15 : decode cX3_tests 15 = .ok (.istore_n 2, 1) := by decide +kernel
theorem dX3_tests_16 : decode cX3_tests 16 = .ok (.bipush (-4), 2) := by decide +kernel
theorem dX3_tests_18 : decode cX3_tests 18 = .ok (.istore_n 3, 1) := by decide +kernel
theorem dX3_tests_19 : decode cX3_tests 19 = .ok (.bipush (-4), 2) := by decide +kernel
theorem dX3_tests_21 : decode cX3_tests 21 = .ok (.istore 4, 2) := by decide +kernel
theorem dX3_tests_23 : decode cX3_tests 23 = .ok (.iconst 0, 1) := by decide +kernel
theorem dX3_tests_24 : decode cX3_tests 24 = .ok (.istore 5, 2) := by decide +kernel
theorem dX3_tests_26 : decode cX3_tests 26 = .ok (.iload 5, 2) := by decide +kernel
theorem dX3_tests_28 : decode cX3_tests 28 = .ok (.iconst 1, 1) := by decide +kernel
theorem dX3_tests_29 : decode cX3_tests 29 = .ok (.aload_n 0, 1) := by decide +kernel
theorem dX3_tests_30 : decode cX3_tests 30 = .ok (.getfield 33, 3) := by decide +kernel
theorem dX3_tests_33 : decode cX3_tests 33 = .ok (.getfield 81, 3) := by decide +kernel
theorem dX3_tests_36 : decode cX3_tests 36 = .ok (.ishl, 1) := by decide +kernel
theorem dX3_tests_37 : decode cX3_tests 37 = .ok (.if_icmp .ge 45, 3) := by decide +kernel
theorem dX3_tests_40 : decode cX3_tests 40 = .ok (.iload 5, 2) := by decide +kernel
theorem dX3_tests_42 : decode cX3_tests 42 = .ok (.invokestatic 182, 3) := by decide +kernel
theorem dX3_tests_45 : decode cX3_tests 45 = .ok (.istore 6, 2) := by decide +kernel
theorem dX3_tests_47 : decode cX3_tests 47 = .ok (.iload_n 3, 1) := by decide +kernel
theorem dX3_tests_48 : decode cX3_tests 48 = .ok (.bipush (-4), 2) := by decide +kernel
theorem dX3_tests_50 : decode cX3_tests 50 = .ok (.if_icmp .eq 9, 3) := by decide +kernel
theorem dX3_tests_53 : decode cX3_tests 53 = .ok (.iload 6, 2) := by decide +kernel
theorem dX3_tests_55 : decode cX3_tests 55 = .ok (.iload_n 3, 1) := by decide +kernel
theorem dX3_tests_56 : decode cX3_tests 56 = .ok (.if_icmp .ge 20, 3) := by decide +kernel
theorem dX3_tests_59 : decode cX3_tests 59 = .ok (.aload_n 0, 1) := by decide +kernel
theorem dX3_tests_60 : decode cX3_tests 60 = .ok (.iload 5, 2) := by decide +kernel
theorem dX3_tests_62 : decode cX3_tests 62 = .ok (.iload_n 2, 1) := by decide +kernel
theorem dX3_tests_63 : decode cX3_tests 63 = .ok (.invokevirtual 190, 3) := by decide +kernel
theorem dX3_tests_66 : decode cX3_tests 66 = .ok (.ifCond .eq 10, 3) := by decide +kernel
theorem dX3_tests_69 : decode cX3_tests 69 = .ok (.iload 6, 2) := by decide +kernel
theorem dX3_tests_71 : decode cX3_tests 71 = .ok (.istore_n 3, 1) := by decide +kernel
theorem dX3_tests_72 : decode cX3_tests 72 = .ok (.iload 5, 2) := by decide +kernel
theorem dX3_tests_74 : decode cX3_tests 74 = .ok (.istore 4, 2) := by decide +kernel
theorem dX3_tests_76 : decode cX3_tests 76 = .ok (.iinc 5 1, 3) := by decide +kernel
theorem dX3_tests_79 : decode cX3_tests 79 = .ok (.goto (-53), 3) := by decide +kernel
theorem dX3_tests_82 : decode cX3_tests 82 = .ok (.iload_n 1, 1) := by decide +kernel
theorem dX3_tests_83 : decode cX3_tests 83 = .ok (.ifCond .ne 7, 3) := by decide +kernel
theorem dX3_tests_86 : decode cX3_tests 86 = .ok (.iload_n 3, 1) := by decide +kernel
theorem dX3_tests_87 : decode cX3_tests 87 = .ok (.goto 5, 3) := by decide +kernel
theorem dX3_tests_90 : decode cX3_tests 90 = .ok (.iload 4, 2) := by decide +kernel
theorem dX3_tests_92 : decode cX3_tests 92 = .ok (.ireturn, 1) := by decide +kernel
theorem dX3_other_0 : decode cX3_other 0 = .ok (.iconst 0, 1) := by decide +kernel
theorem dX3_other_1 : decode cX3_other 1 = .ok (.istore_n 1, 1) := by decide +kernel
theorem dX3_other_2 : decode cX3_other 2 = .ok (.iconst 0, 1) := by decide +kernel
theorem dX3_other_3 : decode cX3_other 3 = .ok (.istore_n 2, 1) := by decide +kernel
theorem dX3_other_4 : decode cX3_other 4 = .ok (.iload_n 2, 1) := by decide +kernel
theorem dX3_other_5 : decode cX3_other 5 = .ok (.aload_n 0, 1) := by decide +kernel
theorem dX3_other_6 : decode cX3_other 6 = .ok (.getfield 33, 3) := by decide +kernel
theorem dX3_other_9 : decode cX3_other 9 = .ok (.getfield 81, 3) := by decide +kernel
theorem dX3_other_12 : decode cX3_other 12 = .ok (.if_icmp .ge 26, 3) := by decide +kernel
theorem dX3_other_15 : decode cX3_other 15 = .ok (.aload_n 0, 1) := by decide +kernel
theorem dX3_other_16 : decode cX3_other 16 = .ok (.getfield 33, 3) := by decide +kernel
theorem dX3_other_19 : decode cX3_other 19 = .ok (.iload_n 2, 1) := by decide +kernel
theorem dX3_other_20 : decode cX3_other 20 = .ok (.invokevirtual 193, 3) := by decide +kernel
theorem dX3_other_23 : decode cX3_other 23 = .ok (.ifCond .eq 9, 3) := by decide +kernel
theorem dX3_other_26 : decode cX3_other 26 = .ok (.iload_n 1, 1) := by decide +kernel
theorem dX3_other_27 : decode cX3_other 27 = .ok (.iconst 1, 1) := by decide +kernel
theorem dX3_other_28 : decode cX3_other 28 = .ok (.iload_n 2, 1) := by decide +kernel
theorem dX3_other_29 : decode cX3_other 29 = .ok (.ishl, 1) := by decide +kernel
theorem dX3_other_30 : decode cX3_other 30 = .ok (.ior, 1) := by decide +kernel
theorem dX3_other_31 : decode cX3_other 31 = .ok (.istore_n 1, 1) := by decide +kernel
theorem dX3_other_32 : decode cX3_other 32 = .ok (.iinc 2 1, 3) := by decide +kernel
theorem dX3_other_35 : decode cX3_other 35 = .ok (.goto (-31), 3) := by decide +kernel
theorem dX3_other_38 : decode cX3_other 38 = .ok (.iload_n 1, 1) := by decide +kernel
theorem dX3_other_39 : decode cX3_other 39 = .ok (.ireturn, 1) := by decide +kernel
theorem dX3_hear_0 : decode cX3_hear 0 = .ok (.aload_n 0, 1) := by decide +kernel
theorem dX3_hear_1 : decode cX3_hear 1 = .ok (.getfield 33, 3) := by decide +kernel
theorem dX3_hear_4 : decode cX3_hear 4 = .ok (.iload_n 1, 1) := by decide +kernel
theorem dX3_hear_5 : decode cX3_hear 5 = .ok (.invokevirtual 94, 3) := by decide +kernel
theorem dX3_hear_8 : decode cX3_hear 8 = .ok (.ifCond .eq 23, 3) := by decide +kernel
theorem dX3_hear_11 : decode cX3_hear 11 = .ok (.iload_n 2, 1) := by decide +kernel
theorem dX3_hear_12 : decode cX3_hear 12 = .ok (.ifCond .lt 19, 3) := by decide +kernel
theorem dX3_hear_15 : decode cX3_hear 15 = .ok (.iload_n 2, 1) := by decide +kernel
theorem dX3_hear_16 : decode cX3_hear 16 = .ok (.bipush 10, 2) := by decide +kernel
theorem dX3_hear_18 : decode cX3_hear 18 = .ok (.if_icmp .gt 13, 3) := by decide +kernel
theorem dX3_hear_21 : decode cX3_hear 21 = .ok (.iload_n 3, 1) := by decide +kernel
theorem dX3_hear_22 : decode cX3_hear 22 = .ok (.ifCond .lt 9, 3) := by decide +kernel
theorem dX3_hear_25 : decode cX3_hear 25 = .ok (.iload_n 3, 1) := by decide +kernel
theorem dX3_hear_26 : decode cX3_hear 26 = .ok (.bipush 20, 2) := by decide +kernel
theorem dX3_hear_28 : decode cX3_hear 28 = .ok (.if_icmp .le 5, 3) := by decide +kernel
theorem dX3_hear_31 : decode cX3_hear 31 = .ok (.iconst (-1), 1) := by decide +kernel
theorem dX3_hear_32 : decode cX3_hear 32 = .ok (.ireturn, 1) := by decide +kernel
theorem dX3_hear_33 : decode cX3_hear 33 = .ok (.aload_n 0, 1) := by decide +kernel
theorem dX3_hear_34 : decode cX3_hear 34 = .ok (.getfield 60, 3) := by decide +kernel
theorem dX3_hear_37 : decode cX3_hear 37 = .ok (.iload_n 1, 1) := by decide +kernel
theorem dX3_hear_38 : decode cX3_hear 38 = .ok (.iload_n 2, 1) := by decide +kernel
theorem dX3_hear_39 : decode cX3_hear 39 = .ok (.iload_n 3, 1) := by decide +kernel
theorem dX3_hear_40 : decode cX3_hear 40 = .ok (.invokevirtual 196, 3) := by decide +kernel
theorem dX3_hear_43 : decode cX3_hear 43 = .ok (.ifCond .eq 13, 3) := by decide +kernel
theorem dX3_hear_46 : decode cX3_hear 46 = .ok (.aload_n 0, 1) := by decide +kernel
theorem dX3_hear_47 : decode cX3_hear 47 = .ok (.getfield 60, 3) := by decide +kernel
theorem dX3_hear_50 : decode cX3_hear 50 = .ok (.getfield 91, 3) := by decide +kernel
theorem dX3_hear_53 : decode cX3_hear 53 = .ok (.goto 5, 3) := by decide +kernel
theorem dX3_hear_56 : decode cX3_hear 56 = .ok (.bipush (-3), 2) := by decide +kernel
theorem dX3_hear_58 : decode cX3_hear 58 = .ok (.ireturn, 1) := by decide +kernel
theorem dX3_forget_0 : decode cX3_forget 0 = .ok (.aload_n 0, 1) := by decide +kernel
theorem dX3_forget_1 : decode cX3_forget 1 = .ok (.getfield 60, 3) := by decide +kernel
theorem dX3_forget_4 : decode cX3_forget 4 = .ok (.getfield 91, 3) := by decide +kernel
theorem dX3_forget_7 : decode cX3_forget 7 = .ok (.istore_n 1, 1) := by decide +kernel
theorem dX3_forget_8 : decode cX3_forget 8 = .ok (.aload_n 0, 1) := by decide +kernel
theorem dX3_forget_9 : decode cX3_forget 9 = .ok (.getfield 60, 3) := by decide +kernel
theorem dX3_forget_12 : decode cX3_forget 12 = .ok (.iconst 0, 1) := by decide +kernel
theorem dX3_forget_13 : decode cX3_forget 13 = .ok (.putfield 91, 3) := by decide +kernel
theorem dX3_forget_16 : decode cX3_forget 16 = .ok (.iload_n 1, 1) := by decide +kernel
theorem dX3_forget_17 : decode cX3_forget 17 = .ok (.ireturn, 1) := by decide +kernel
theorem dX3_which_0 : decode cX3_which 0 = .ok (.aload_n 0, 1) := by decide +kernel
theorem dX3_which_1 : decode cX3_which 1 = .ok (.getfield 40, 3) := by decide +kernel
theorem dX3_which_4 : decode cX3_which 4 = .ok (.aload_n 0, 1) := by decide +kernel
theorem dX3_which_5 : decode cX3_which 5 = .ok (.getfield 33, 3) := by decide +kernel
theorem dX3_which_8 : decode cX3_which 8 = .ok (.invokevirtual 87, 3) := by decide +kernel
theorem dX3_which_11 : decode cX3_which 11 = .ok (.aload_n 0, 1) := by decide +kernel
theorem dX3_which_12 : decode cX3_which 12 = .ok (.getfield 60, 3) := by decide +kernel
theorem dX3_which_15 : decode cX3_which 15 = .ok (.aload_n 0, 1) := by decide +kernel
theorem dX3_which_16 : decode cX3_which 16 = .ok (.getfield 40, 3) := by decide +kernel
theorem dX3_which_19 : decode cX3_which 19 = .ok (.invokevirtual 200, 3) := by decide +kernel
theorem dX3_which_22 : decode cX3_which 22 = .ok (.ireturn, 1) := by decide +kernel
theorem dX3_kinds_0 : decode cX3_kinds 0 = .ok (.aload_n 0, 1) := by decide +kernel
theorem dX3_kinds_1 : decode cX3_kinds 1 = .ok (.getfield 33, 3) := by decide +kernel
theorem dX3_kinds_4 : decode cX3_kinds 4 = .ok (.iload_n 1, 1) := by decide +kernel
theorem dX3_kinds_5 : decode cX3_kinds 5 = .ok (.invokevirtual 104, 3) := by decide +kernel
theorem dX3_kinds_8 : decode cX3_kinds 8 = .ok (.ifCond .ne 5, 3) := by decide +kernel
theorem dX3_kinds_11 : decode cX3_kinds 11 = .ok (.iconst (-1), 1) := by decide +kernel
theorem dX3_kinds_12 : decode cX3_kinds 12 = .ok (.ireturn, 1) := by decide +kernel
theorem dX3_kinds_13 : decode cX3_kinds 13 = .ok (.iconst 0, 1) := by decide +kernel
theorem dX3_kinds_14 : decode cX3_kinds 14 = .ok (.istore_n 2, 1) := by decide +kernel
theorem dX3_kinds_15 : decode cX3_kinds 15 = .ok (.iconst 0, 1) := by decide +kernel
theorem dX3_kinds_16 : decode cX3_kinds 16 = .ok (.istore_n 3, 1) := by decide +kernel
theorem dX3_kinds_17 : decode cX3_kinds 17 = .ok (.iload_n 3, 1) := by decide +kernel
theorem dX3_kinds_18 : decode cX3_kinds 18 = .ok (.iconst 3, 1) := by decide +kernel
theorem dX3_kinds_19 : decode cX3_kinds 19 = .ok (.if_icmp .gt 57, 3) := by decide +kernel
theorem dX3_kinds_22 : decode cX3_kinds 22 = .ok (.aload_n 0, 1) := by decide +kernel
theorem dX3_kinds_23 : decode cX3_kinds 23 = .ok (.getfield 40, 3) := by decide +kernel
theorem dX3_kinds_26 : decode cX3_kinds 26 = .ok (.aload_n 0, 1) := by decide +kernel
theorem dX3_kinds_27 : decode cX3_kinds 27 = .ok (.getfield 33, 3) := by decide +kernel
theorem dX3_kinds_30 : decode cX3_kinds 30 = .ok (.invokevirtual 87, 3) := by decide +kernel
theorem dX3_kinds_33 : decode cX3_kinds 33 = .ok (.aload_n 0, 1) := by decide +kernel
theorem dX3_kinds_34 : decode cX3_kinds 34 = .ok (.getfield 40, 3) := by decide +kernel
theorem dX3_kinds_37 : decode cX3_kinds 37 = .ok (.getfield 107, 3) := by decide +kernel
theorem dX3_kinds_40 : decode cX3_kinds 40 = .ok (.iload_n 1, 1) := by decide +kernel
theorem dX3_kinds_41 : decode cX3_kinds 41 = .ok (.iload_n 3, 1) := by decide +kernel
theorem dX3_kinds_42 : decode cX3_kinds 42 = .ok (.invokestatic 203, 3) := by decide +kernel
theorem dX3_kinds_45 : decode cX3_kinds 45 = .ok (.aload_n 0, 1) := by decide +kernel
theorem dX3_kinds_46 : decode cX3_kinds 46 = .ok (.getfield 60, 3) := by decide +kernel
theorem dX3_kinds_49 : decode cX3_kinds 49 = .ok (.aload_n 0, 1) := by decide +kernel
theorem dX3_kinds_50 : decode cX3_kinds 50 = .ok (.getfield 40, 3) := by decide +kernel
theorem dX3_kinds_53 : decode cX3_kinds 53 = .ok (.invokevirtual 200, 3) := by decide +kernel
theorem dX3_kinds_56 : decode cX3_kinds 56 = .ok (.iload_n 1, 1) := by decide +kernel
theorem dX3_kinds_57 : decode cX3_kinds 57 = .ok (.ishr, 1) := by decide +kernel
theorem dX3_kinds_58 : decode cX3_kinds 58 = .ok (.iconst 1, 1) := by decide +kernel
theorem dX3_kinds_59 : decode cX3_kinds 59 = .ok (.iand, 1) := by decide +kernel
theorem dX3_kinds_60 : decode cX3_kinds 60 = .ok (.iconst 1, 1) := by decide +kernel
theorem dX3_kinds_61 : decode cX3_kinds 61 = .ok (.if_icmp .ne 9, 3) := by decide +kernel
theorem dX3_kinds_64 : decode cX3_kinds 64 = .ok (.iload_n 2, 1) := by decide +kernel
theorem dX3_kinds_65 : decode cX3_kinds 65 = .ok (.iconst 1, 1) := by decide +kernel
theorem dX3_kinds_66 : decode cX3_kinds 66 = .ok (.iload_n 3, 1) := by decide +kernel
theorem dX3_kinds_67 : decode cX3_kinds 67 = .ok (.ishl, 1) := by decide +kernel
theorem dX3_kinds_68 : decode cX3_kinds 68 = .ok (.ior, 1) := by decide +kernel
theorem dX3_kinds_69 : decode cX3_kinds 69 = .ok (.istore_n 2, 1) := by decide +kernel
theorem dX3_kinds_70 : decode cX3_kinds 70 = .ok (.iinc 3 1, 3) := by decide +kernel
theorem dX3_kinds_73 : decode cX3_kinds 73 = .ok (.goto (-56), 3) := by decide +kernel
theorem dX3_kinds_76 : decode cX3_kinds 76 = .ok (.iload_n 2, 1) := by decide +kernel
theorem dX3_kinds_77 : decode cX3_kinds 77 = .ok (.ireturn, 1) := by decide +kernel
theorem dX3_hail_0 : decode cX3_hail 0 = .ok (.aload_n 0, 1) := by decide +kernel
theorem dX3_hail_1 : decode cX3_hail 1 = .ok (.getfield 33, 3) := by decide +kernel
theorem dX3_hail_4 : decode cX3_hail 4 = .ok (.iload_n 1, 1) := by decide +kernel
theorem dX3_hail_5 : decode cX3_hail 5 = .ok (.invokevirtual 104, 3) := by decide +kernel
theorem dX3_hail_8 : decode cX3_hail 8 = .ok (.ifCond .eq 34, 3) := by decide +kernel
theorem dX3_hail_11 : decode cX3_hail 11 = .ok (.iload_n 2, 1) := by decide +kernel
theorem dX3_hail_12 : decode cX3_hail 12 = .ok (.ifCond .lt 30, 3) := by decide +kernel
theorem dX3_hail_15 : decode cX3_hail 15 = .ok (.iload_n 2, 1) := by decide +kernel
theorem dX3_hail_16 : decode cX3_hail 16 = .ok (.bipush 8, 2) := by decide +kernel
theorem dX3_hail_18 : decode cX3_hail 18 = .ok (.if_icmp .gt 24, 3) := by decide +kernel
theorem dX3_hail_21 : decode cX3_hail 21 = .ok (.iload_n 3, 1) := by decide +kernel
theorem dX3_hail_22 : decode cX3_hail 22 = .ok (.ifCond .lt 20, 3) := by decide +kernel
theorem dX3_hail_25 : decode cX3_hail 25 = .ok (.iload_n 3, 1) := by decide +kernel
theorem dX3_hail_26 : decode cX3_hail 26 = .ok (.bipush 10, 2) := by decide +kernel
theorem dX3_hail_28 : decode cX3_hail 28 = .ok (.if_icmp .gt 14, 3) := by decide +kernel
theorem dX3_hail_31 : decode cX3_hail 31 = .ok (.iload 4, 2) := by decide +kernel
theorem dX3_hail_33 : decode cX3_hail 33 = .ok (.ifCond .lt 9, 3) := by decide +kernel
theorem dX3_hail_36 : decode cX3_hail 36 = .ok (.iload 4, 2) := by decide +kernel
theorem dX3_hail_38 : decode cX3_hail 38 = .ok (.iconst 1, 1) := by decide +kernel
theorem dX3_hail_39 : decode cX3_hail 39 = .ok (.if_icmp .le 5, 3) := by decide +kernel
theorem dX3_hail_42 : decode cX3_hail 42 = .ok (.iconst (-1), 1) := by decide +kernel
theorem dX3_hail_43 : decode cX3_hail 43 = .ok (.ireturn, 1) := by decide +kernel
theorem dX3_hail_44 : decode cX3_hail 44 = .ok (.aload_n 0, 1) := by decide +kernel
theorem dX3_hail_45 : decode cX3_hail 45 = .ok (.invokevirtual 172, 3) := by decide +kernel
theorem dX3_hail_48 : decode cX3_hail 48 = .ok (.aload_n 0, 1) := by decide +kernel
theorem dX3_hail_49 : decode cX3_hail 49 = .ok (.getfield 47, 3) := by decide +kernel
theorem dX3_hail_52 : decode cX3_hail 52 = .ok (.iconst 0, 1) := by decide +kernel
theorem dX3_hail_53 : decode cX3_hail 53 = .ok (.iload_n 2, 1) := by decide +kernel
theorem dX3_hail_54 : decode cX3_hail 54 = .ok (.iload_n 1, 1) := by decide +kernel
theorem dX3_hail_55 : decode cX3_hail 55 = .ok (.iload_n 3, 1) := by decide +kernel
theorem dX3_hail_56 : decode cX3_hail 56 = .ok (.invokestatic 207, 3) := by decide +kernel
theorem dX3_hail_59 : decode cX3_hail 59 = .ok (.istore 5, 2) := by decide +kernel
theorem dX3_hail_61 : decode cX3_hail 61 = .ok (.iconst 1, 1) := by decide +kernel
theorem dX3_hail_62 : decode cX3_hail 62 = .ok (.istore 6, 2) := by decide +kernel
theorem dX3_hail_64 : decode cX3_hail 64 = .ok (.iconst 0, 1) := by decide +kernel
theorem dX3_hail_65 : decode cX3_hail 65 = .ok (.istore 7, 2) := by decide +kernel
theorem dX3_hail_67 : decode cX3_hail 67 = .ok (.iload 7, 2) := by decide +kernel
theorem dX3_hail_69 : decode cX3_hail 69 = .ok (.iload_n 2, 1) := by decide +kernel
theorem dX3_hail_70 : decode cX3_hail 70 = .ok (.if_icmp .ge 16, 3) := by decide +kernel
theorem dX3_hail_73 : decode cX3_hail 73 = .ok (.iload 6, 2) := by decide +kernel
theorem dX3_hail_75 : decode cX3_hail 75 = .ok (.bipush 10, 2) := by decide +kernel
theorem dX3_hail_77 : decode cX3_hail 77 = .ok (.imul, 1) := by decide +kernel
theorem dX3_hail_78 : decode cX3_hail 78 = .ok (.istore 6, 2) := by decide +kernel
theorem dX3_hail_80 : decode cX3_hail 80 = .ok (.iinc 7 1, 3) := by decide +kernel
theorem dX3_hail_83 : decode cX3_hail 83 = .ok (.goto (-16), 3) := by decide +kernel
theorem dX3_hail_86 : decode cX3_hail 86 = .ok (.iload 6, 2) := by decide +kernel
theorem dX3_hail_88 : decode cX3_hail 88 = .ok (.iload 5, 2) := by decide +kernel
theorem dX3_hail_90 : decode cX3_hail 90 = .ok (.invokestatic 210, 3) := by decide +kernel
theorem dX3_hail_93 : decode cX3_hail 93 = .ok (.istore 7, 2) := by decide +kernel
theorem dX3_hail_95 : decode cX3_hail 95 = .ok (.iload 7, 2) := by decide +kernel
theorem dX3_hail_97 : decode cX3_hail 97 = .ok (.ifCond .ne 5, 3) := by decide +kernel
theorem dX3_hail_100 : decode cX3_hail 100 = .ok (.iconst (-1), 1) := by decide +kernel
theorem dX3_hail_101 : decode cX3_hail 101 = .ok (.ireturn, 1) := by decide +kernel
theorem dX3_hail_102 : decode cX3_hail 102 = .ok (.iload 4, 2) := by decide +kernel
theorem dX3_hail_104 : decode cX3_hail 104 = .ok (.ifCond .ne 8, 3) := by decide +kernel
theorem dX3_hail_107 : decode cX3_hail 107 = .ok (.iload 5, 2) := by decide +kernel
theorem dX3_hail_109 : decode cX3_hail 109 = .ok (.goto 5, 3) := by decide +kernel
theorem dX3_hail_112 : decode cX3_hail 112 = .ok (.iload 6, 2) := by decide +kernel
theorem dX3_hail_114 : decode cX3_hail 114 = .ok (.iload 7, 2) := by decide +kernel
theorem dX3_hail_116 : decode cX3_hail 116 = .ok (.idiv, 1) := by decide +kernel
theorem dX3_hail_117 : decode cX3_hail 117 = .ok (.ireturn, 1) := by decide +kernel
theorem dX3_year_0 : decode cX3_year 0 = .ok (.iload_n 1, 1) := by decide +kernel
theorem dX3_year_1 : decode cX3_year 1 = .ok (.ifCond .lt 30, 3) := by decide +kernel
theorem dX3_year_4 : decode cX3_year 4 = .ok (.iload_n 1, 1) := by decide +kernel
theorem dX3_year_5 : decode cX3_year 5 = .ok (.sipush 9999, 3) := by decide +kernel
theorem dX3_year_8 : decode cX3_year 8 = .ok (.if_icmp .gt 23, 3) := by decide +kernel
theorem dX3_year_11 : decode cX3_year 11 = .ok (.iload_n 2, 1) := by decide +kernel
theorem dX3_year_12 : decode cX3_year 12 = .ok (.iconst 1, 1) := by decide +kernel
theorem dX3_year_13 : decode cX3_year 13 = .ok (.if_icmp .lt 18, 3) := by decide +kernel
theorem dX3_year_16 : decode cX3_year 16 = .ok (.iload_n 2, 1) := by decide +kernel
theorem dX3_year_17 : decode cX3_year 17 = .ok (.bipush 60, 2) := by decide +kernel
theorem dX3_year_19 : decode cX3_year 19 = .ok (.if_icmp .gt 12, 3) := by decide +kernel
theorem dX3_year_22 : decode cX3_year 22 = .ok (.iload_n 3, 1) := by decide +kernel
theorem dX3_year_23 : decode cX3_year 23 = .ok (.ifCond .lt 8, 3) := by decide +kernel
theorem dX3_year_26 : decode cX3_year 26 = .ok (.iload_n 3, 1) := by decide +kernel
theorem dX3_year_27 : decode cX3_year 27 = .ok (.iconst 1, 1) := by decide +kernel
theorem dX3_year_28 : decode cX3_year 28 = .ok (.if_icmp .le 5, 3) := by decide +kernel
theorem dX3_year_31 : decode cX3_year 31 = .ok (.iconst (-1), 1) := by decide +kernel
theorem dX3_year_32 : decode cX3_year 32 = .ok (.ireturn, 1) := by decide +kernel
theorem dX3_year_33 : decode cX3_year 33 = .ok (.aload_n 0, 1) := by decide +kernel
theorem dX3_year_34 : decode cX3_year 34 = .ok (.getfield 40, 3) := by decide +kernel
theorem dX3_year_37 : decode cX3_year 37 = .ok (.aload_n 0, 1) := by decide +kernel
theorem dX3_year_38 : decode cX3_year 38 = .ok (.getfield 33, 3) := by decide +kernel
theorem dX3_year_41 : decode cX3_year 41 = .ok (.invokevirtual 87, 3) := by decide +kernel
theorem dX3_year_44 : decode cX3_year 44 = .ok (.iconst 0, 1) := by decide +kernel
theorem dX3_year_45 : decode cX3_year 45 = .ok (.istore 4, 2) := by decide +kernel
theorem dX3_year_47 : decode cX3_year 47 = .ok (.iload 4, 2) := by decide +kernel
theorem dX3_year_49 : decode cX3_year 49 = .ok (.iload_n 2, 1) := by decide +kernel
theorem dX3_year_50 : decode cX3_year 50 = .ok (.if_icmp .ge 30, 3) := by decide +kernel
theorem dX3_year_53 : decode cX3_year 53 = .ok (.aload_n 0, 1) := by decide +kernel
theorem dX3_year_54 : decode cX3_year 54 = .ok (.getfield 40, 3) := by decide +kernel
theorem dX3_year_57 : decode cX3_year 57 = .ok (.iload_n 1, 1) := by decide +kernel
theorem dX3_year_58 : decode cX3_year 58 = .ok (.iload 4, 2) := by decide +kernel
theorem dX3_year_60 : decode cX3_year 60 = .ok (.invokestatic 213, 3) := by decide +kernel
theorem dX3_year_63 : decode cX3_year 63 = .ok (.invokevirtual 216, 3) := by decide +kernel
theorem dX3_year_66 : decode cX3_year 66 = .ok (.aload_n 0, 1) := by decide +kernel
theorem dX3_year_67 : decode cX3_year 67 = .ok (.getfield 40, 3) := by decide +kernel
theorem dX3_year_70 : decode cX3_year 70 = .ok (.iconst 1, 1) := by decide +kernel
theorem dX3_year_71 : decode cX3_year 71 = .ok (.invokevirtual 168, 3) := by decide +kernel
theorem dX3_year_74 : decode cX3_year 74 = .ok (.iinc 4 1, 3) := by decide +kernel
theorem dX3_year_77 : decode cX3_year 77 = .ok (.goto (-30), 3) := by decide +kernel
theorem dX3_year_80 : decode cX3_year 80 = .ok (.iload_n 3, 1) := by decide +kernel
theorem dX3_year_81 : decode cX3_year 81 = .ok (.ifCond .ne 13, 3) := by decide +kernel
theorem dX3_year_84 : decode cX3_year 84 = .ok (.aload_n 0, 1) := by decide +kernel
theorem dX3_year_85 : decode cX3_year 85 = .ok (.getfield 40, 3) := by decide +kernel
theorem dX3_year_88 : decode cX3_year 88 = .ok (.invokevirtual 147, 3) := by decide +kernel
theorem dX3_year_91 : decode cX3_year 91 = .ok (.goto 10, 3) := by decide +kernel
theorem dX3_year_94 : decode cX3_year 94 = .ok (.aload_n 0, 1) := by decide +kernel
theorem dX3_year_95 : decode cX3_year 95 = .ok (.getfield 40, 3) := by decide +kernel
theorem dX3_year_98 : decode cX3_year 98 = .ok (.invokevirtual 219, 3) := by decide +kernel
theorem dX3_year_101 : decode cX3_year 101 = .ok (.ireturn, 1) := by decide +kernel
theorem dX3_keep_0 : decode cX3_keep 0 = .ok (.aload_n 0, 1) := by decide +kernel
theorem dX3_keep_1 : decode cX3_keep 1 = .ok (.getfield 74, 3) := by decide +kernel
theorem dX3_keep_4 : decode cX3_keep 4 = .ok (.iconst 2, 1) := by decide +kernel
theorem dX3_keep_5 : decode cX3_keep 5 = .ok (.if_icmp .lt 6, 3) := by decide +kernel
theorem dX3_keep_8 : decode cX3_keep 8 = .ok (.bipush (-3), 2) := by decide +kernel
theorem dX3_keep_10 : decode cX3_keep 10 = .ok (.ireturn, 1) := by decide +kernel
theorem dX3_keep_11 : decode cX3_keep 11 = .ok (.aload_n 0, 1) := by decide +kernel
theorem dX3_keep_12 : decode cX3_keep 12 = .ok (.aload_n 0, 1) := by decide +kernel
theorem dX3_keep_13 : decode cX3_keep 13 = .ok (.getfield 54, 3) := by decide +kernel
theorem dX3_keep_16 : decode cX3_keep 16 = .ok (.aload_n 0, 1) := by decide +kernel
theorem dX3_keep_17 : decode cX3_keep 17 = .ok (.getfield 74, 3) := by decide +kernel
theorem dX3_keep_20 : decode cX3_keep 20 = .ok (.invokestatic 160, 3) := by decide +kernel
theorem dX3_keep_23 : decode cX3_keep 23 = .ok (.invokevirtual 222, 3) := by decide +kernel
theorem dX3_keep_26 : decode cX3_keep 26 = .ok (.aload_n 0, 1) := by decide +kernel
theorem dX3_keep_27 : decode cX3_keep 27 = .ok (.dup, 1) := by decide +kernel
theorem dX3_keep_28 : decode cX3_keep 28 = .ok (.getfield 74, 3) := by decide +kernel
theorem dX3_keep_31 : decode cX3_keep 31 = .ok (.iconst 1, 1) := by decide +kernel
theorem dX3_keep_32 : decode cX3_keep 32 = .ok (.iadd, 1) := by decide +kernel
theorem dX3_keep_33 : decode cX3_keep 33 = .ok (.putfield 74, 3) := by decide +kernel
theorem dX3_keep_36 : decode cX3_keep 36 = .ok (.aload_n 0, 1) := by decide +kernel
theorem dX3_keep_37 : decode cX3_keep 37 = .ok (.getfield 74, 3) := by decide +kernel
theorem dX3_keep_40 : decode cX3_keep 40 = .ok (.ireturn, 1) := by decide +kernel
theorem dX3_back_0 : decode cX3_back 0 = .ok (.aload_n 0, 1) := by decide +kernel
theorem dX3_back_1 : decode cX3_back 1 = .ok (.getfield 74, 3) := by decide +kernel
theorem dX3_back_4 : decode cX3_back 4 = .ok (.ifCond .gt 6, 3) := by decide +kernel
theorem dX3_back_7 : decode cX3_back 7 = .ok (.bipush (-2), 2) := by decide +kernel
theorem dX3_back_9 : decode cX3_back 9 = .ok (.ireturn, 1) := by decide +kernel
theorem dX3_back_10 : decode cX3_back 10 = .ok (.aload_n 0, 1) := by decide +kernel
theorem dX3_back_11 : decode cX3_back 11 = .ok (.dup, 1) := by decide +kernel
theorem dX3_back_12 : decode cX3_back 12 = .ok (.getfield 74, 3) := by decide +kernel
theorem dX3_back_15 : decode cX3_back 15 = .ok (.iconst 1, 1) := by decide +kernel
theorem dX3_back_16 : decode cX3_back 16 = .ok (.isub, 1) := by decide +kernel
theorem dX3_back_17 : decode cX3_back 17 = .ok (.putfield 74, 3) := by decide +kernel
theorem dX3_back_20 : decode cX3_back 20 = .ok (.aload_n 0, 1) := by decide +kernel
theorem dX3_back_21 : decode cX3_back 21 = .ok (.getfield 33, 3) := by decide +kernel
theorem dX3_back_24 : decode cX3_back 24 = .ok (.aload_n 0, 1) := by decide +kernel
theorem dX3_back_25 : decode cX3_back 25 = .ok (.getfield 54, 3) := by decide +kernel
theorem dX3_back_28 : decode cX3_back 28 = .ok (.aload_n 0, 1) := by decide +kernel
theorem dX3_back_29 : decode cX3_back 29 = .ok (.getfield 74, 3) := by decide +kernel
theorem dX3_back_32 : decode cX3_back 32 = .ok (.invokestatic 160, 3) := by decide +kernel
theorem dX3_back_35 : decode cX3_back 35 = .ok (.invokevirtual 87, 3) := by decide +kernel
theorem dX3_back_38 : decode cX3_back 38 = .ok (.aload_n 0, 1) := by decide +kernel
theorem dX3_back_39 : decode cX3_back 39 = .ok (.iconst 0, 1) := by decide +kernel
theorem dX3_back_40 : decode cX3_back 40 = .ok (.putfield 68, 3) := by decide +kernel
theorem dX3_back_43 : decode cX3_back 43 = .ok (.aload_n 0, 1) := by decide +kernel
theorem dX3_back_44 : decode cX3_back 44 = .ok (.getfield 74, 3) := by decide +kernel
theorem dX3_back_47 : decode cX3_back 47 = .ok (.ireturn, 1) := by decide +kernel
theorem dX3_count_0 : decode cX3_count 0 = .ok (.iload_n 1, 1) := by decide +kernel
theorem dX3_count_1 : decode cX3_count 1 = .ok (.tableswitch 141 0 10 #[59, 67, 75, 83, 91, 99, 107, 115, 123, 128, 133], 59) := by decide +kernel
theorem dX3_count_60 : decode cX3_count 60 = .ok (.aload_n 0, 1) := by decide +kernel
theorem dX3_count_61 : decode cX3_count 61 = .ok (.getfield 33, 3) := by decide +kernel
theorem dX3_count_64 : decode cX3_count 64 = .ok (.getfield 81, 3) := by decide +kernel
theorem dX3_count_67 : decode cX3_count 67 = .ok (.ireturn, 1) := by decide +kernel
theorem dX3_count_68 : decode cX3_count 68 = .ok (.aload_n 0, 1) := by decide +kernel
theorem dX3_count_69 : decode cX3_count 69 = .ok (.getfield 33, 3) := by decide +kernel
theorem dX3_count_72 : decode cX3_count 72 = .ok (.getfield 84, 3) := by decide +kernel
theorem dX3_count_75 : decode cX3_count 75 = .ok (.ireturn, 1) := by decide +kernel
theorem dX3_count_76 : decode cX3_count 76 = .ok (.aload_n 0, 1) := by decide +kernel
theorem dX3_count_77 : decode cX3_count 77 = .ok (.getfield 33, 3) := by decide +kernel
theorem dX3_count_80 : decode cX3_count 80 = .ok (.getfield 225, 3) := by decide +kernel
theorem dX3_count_83 : decode cX3_count 83 = .ok (.ireturn, 1) := by decide +kernel
theorem dX3_count_84 : decode cX3_count 84 = .ok (.aload_n 0, 1) := by decide +kernel
theorem dX3_count_85 : decode cX3_count 85 = .ok (.getfield 33, 3) := by decide +kernel
theorem dX3_count_88 : decode cX3_count 88 = .ok (.getfield 140, 3) := by decide +kernel
theorem dX3_count_91 : decode cX3_count 91 = .ok (.ireturn, 1) := by decide +kernel
theorem dX3_count_92 : decode cX3_count 92 = .ok (.aload_n 0, 1) := by decide +kernel
theorem dX3_count_93 : decode cX3_count 93 = .ok (.getfield 33, 3) := by decide +kernel
theorem dX3_count_96 : decode cX3_count 96 = .ok (.invokevirtual 147, 3) := by decide +kernel
theorem dX3_count_99 : decode cX3_count 99 = .ok (.ireturn, 1) := by decide +kernel
theorem dX3_count_100 : decode cX3_count 100 = .ok (.aload_n 0, 1) := by decide +kernel
theorem dX3_count_101 : decode cX3_count 101 = .ok (.getfield 33, 3) := by decide +kernel
theorem dX3_count_104 : decode cX3_count 104 = .ok (.invokevirtual 219, 3) := by decide +kernel
theorem dX3_count_107 : decode cX3_count 107 = .ok (.ireturn, 1) := by decide +kernel
theorem dX3_count_108 : decode cX3_count 108 = .ok (.aload_n 0, 1) := by decide +kernel
theorem dX3_count_109 : decode cX3_count 109 = .ok (.getfield 33, 3) := by decide +kernel
theorem dX3_count_112 : decode cX3_count 112 = .ok (.invokevirtual 228, 3) := by decide +kernel
theorem dX3_count_115 : decode cX3_count 115 = .ok (.ireturn, 1) := by decide +kernel
theorem dX3_count_116 : decode cX3_count 116 = .ok (.aload_n 0, 1) := by decide +kernel
theorem dX3_count_117 : decode cX3_count 117 = .ok (.getfield 60, 3) := by decide +kernel
theorem dX3_count_120 : decode cX3_count 120 = .ok (.getfield 91, 3) := by decide +kernel
theorem dX3_count_123 : decode cX3_count 123 = .ok (.ireturn, 1) := by decide +kernel
theorem dX3_count_124 : decode cX3_count 124 = .ok (.aload_n 0, 1) := by decide +kernel
theorem dX3_count_125 : decode cX3_count 125 = .ok (.getfield 68, 3) := by decide +kernel
theorem dX3_count_128 : decode cX3_count 128 = .ok (.ireturn, 1) := by decide +kernel
theorem dX3_count_129 : decode cX3_count 129 = .ok (.aload_n 0, 1) := by decide +kernel
theorem dX3_count_130 : decode cX3_count 130 = .ok (.getfield 74, 3) := by decide +kernel
theorem dX3_count_133 : decode cX3_count 133 = .ok (.ireturn, 1) := by decide +kernel
theorem dX3_count_134 : decode cX3_count 134 = .ok (.aload_n 0, 1) := by decide +kernel
theorem dX3_count_135 : decode cX3_count 135 = .ok (.getfield 29, 3) := by decide +kernel
theorem dX3_count_138 : decode cX3_count 138 = .ok (.getfield 25, 3) := by decide +kernel
theorem dX3_count_141 : decode cX3_count 141 = .ok (.ireturn, 1) := by decide +kernel
theorem dX3_count_142 : decode cX3_count 142 = .ok (.iconst (-1), 1) := by decide +kernel
theorem dX3_count_143 : decode cX3_count 143 = .ok (.ireturn, 1) := by decide +kernel
theorem dX3_copyInto_0 : decode cX3_copyInto 0 = .ok (.aload_n 1, 1) := by decide +kernel
theorem dX3_copyInto_1 : decode cX3_copyInto 1 = .ok (.ifnull 11, 3) := by decide +kernel
theorem dX3_copyInto_4 : decode cX3_copyInto 4 = .ok (.aload_n 1, 1) := by decide +kernel
theorem dX3_copyInto_5 : decode cX3_copyInto 5 = .ok (.aload_n 0, 1) := by decide +kernel
theorem dX3_copyInto_6 : decode cX3_copyInto 6 = .ok (.getfield 33, 3) := by decide +kernel
theorem dX3_copyInto_9 : decode cX3_copyInto 9 = .ok (.invokevirtual 87, 3) := by decide +kernel
theorem dX3_copyInto_12 : decode cX3_copyInto 12 = .ok (.return_, 1) := by decide +kernel
theorem dX3_startLevels_0 : decode cX3_startLevels 0 = .ok (.aload_n 0, 1) := by decide +kernel
theorem dX3_startLevels_1 : decode cX3_startLevels 1 = .ok (.aload_n 0, 1) := by decide +kernel
theorem dX3_startLevels_2 : decode cX3_startLevels 2 = .ok (.getfield 47, 3) := by decide +kernel
theorem dX3_startLevels_5 : decode cX3_startLevels 5 = .ok (.iconst 0, 1) := by decide +kernel
theorem dX3_startLevels_6 : decode cX3_startLevels 6 = .ok (.invokestatic 160, 3) := by decide +kernel
theorem dX3_startLevels_9 : decode cX3_startLevels 9 = .ok (.invokevirtual 222, 3) := by decide +kernel
theorem dX3_startLevels_12 : decode cX3_startLevels 12 = .ok (.return_, 1) := by decide +kernel
theorem dX3_noteAct_0 : decode cX3_noteAct 0 = .ok (.aload_n 0, 1) := by decide +kernel
theorem dX3_noteAct_1 : decode cX3_noteAct 1 = .ok (.aload_n 0, 1) := by decide +kernel
theorem dX3_noteAct_2 : decode cX3_noteAct 2 = .ok (.getfield 51, 3) := by decide +kernel
theorem dX3_noteAct_5 : decode cX3_noteAct 5 = .ok (.aload_n 0, 1) := by decide +kernel
theorem dX3_noteAct_6 : decode cX3_noteAct 6 = .ok (.getfield 71, 3) := by decide +kernel
theorem dX3_noteAct_9 : decode cX3_noteAct 9 = .ok (.invokestatic 160, 3) := by decide +kernel
theorem dX3_noteAct_12 : decode cX3_noteAct 12 = .ok (.invokevirtual 222, 3) := by decide +kernel
theorem dX3_noteAct_15 : decode cX3_noteAct 15 = .ok (.aload_n 0, 1) := by decide +kernel
theorem dX3_noteAct_16 : decode cX3_noteAct 16 = .ok (.aload_n 0, 1) := by decide +kernel
theorem dX3_noteAct_17 : decode cX3_noteAct 17 = .ok (.getfield 71, 3) := by decide +kernel
theorem dX3_noteAct_20 : decode cX3_noteAct 20 = .ok (.iconst 1, 1) := by decide +kernel
theorem dX3_noteAct_21 : decode cX3_noteAct 21 = .ok (.iadd, 1) := by decide +kernel
theorem dX3_noteAct_22 : decode cX3_noteAct 22 = .ok (.bipush 8, 2) := by decide +kernel
theorem dX3_noteAct_24 : decode cX3_noteAct 24 = .ok (.irem, 1) := by decide +kernel
theorem dX3_noteAct_25 : decode cX3_noteAct 25 = .ok (.putfield 71, 3) := by decide +kernel
theorem dX3_noteAct_28 : decode cX3_noteAct 28 = .ok (.aload_n 0, 1) := by decide +kernel
theorem dX3_noteAct_29 : decode cX3_noteAct 29 = .ok (.aload_n 0, 1) := by decide +kernel
theorem dX3_noteAct_30 : decode cX3_noteAct 30 = .ok (.getfield 68, 3) := by decide +kernel
theorem dX3_noteAct_33 : decode cX3_noteAct 33 = .ok (.iconst 1, 1) := by decide +kernel
theorem dX3_noteAct_34 : decode cX3_noteAct 34 = .ok (.iadd, 1) := by decide +kernel
theorem dX3_noteAct_35 : decode cX3_noteAct 35 = .ok (.bipush 8, 2) := by decide +kernel
theorem dX3_noteAct_37 : decode cX3_noteAct 37 = .ok (.invokestatic 231, 3) := by decide +kernel
theorem dX3_noteAct_40 : decode cX3_noteAct 40 = .ok (.putfield 68, 3) := by decide +kernel
theorem dX3_noteAct_43 : decode cX3_noteAct 43 = .ok (.return_, 1) := by decide +kernel
theorem dX3_rightOnceMended_0 : decode cX3_rightOnceMended 0 = .ok (.aload_n 0, 1) := by decide +kernel
theorem dX3_rightOnceMended_1 : decode cX3_rightOnceMended 1 = .ok (.getfield 40, 3) := by decide +kernel
theorem dX3_rightOnceMended_4 : decode cX3_rightOnceMended 4 = .ok (.aload_n 0, 1) := by decide +kernel
theorem dX3_rightOnceMended_5 : decode cX3_rightOnceMended 5 = .ok (.getfield 33, 3) := by decide +kernel
theorem dX3_rightOnceMended_8 : decode cX3_rightOnceMended 8 = .ok (.invokevirtual 87, 3) := by decide +kernel
theorem dX3_rightOnceMended_11 : decode cX3_rightOnceMended 11 = .ok (.aload_n 0, 1) := by decide +kernel
theorem dX3_rightOnceMended_12 : decode cX3_rightOnceMended 12 = .ok (.getfield 40, 3) := by decide +kernel
theorem dX3_rightOnceMended_15 : decode cX3_rightOnceMended 15 = .ok (.iload_n 1, 1) := by decide +kernel
theorem dX3_rightOnceMended_16 : decode cX3_rightOnceMended 16 = .ok (.iload_n 2, 1) := by decide +kernel
theorem dX3_rightOnceMended_17 : decode cX3_rightOnceMended 17 = .ok (.invokevirtual 154, 3) := by decide +kernel
theorem dX3_rightOnceMended_20 : decode cX3_rightOnceMended 20 = .ok (.aload_n 0, 1) := by decide +kernel
theorem dX3_rightOnceMended_21 : decode cX3_rightOnceMended 21 = .ok (.getfield 40, 3) := by decide +kernel
theorem dX3_rightOnceMended_24 : decode cX3_rightOnceMended 24 = .ok (.iconst 5, 1) := by decide +kernel
theorem dX3_rightOnceMended_25 : decode cX3_rightOnceMended 25 = .ok (.invokevirtual 143, 3) := by decide +kernel
theorem dX3_rightOnceMended_28 : decode cX3_rightOnceMended 28 = .ok (.aload_n 0, 1) := by decide +kernel
theorem dX3_rightOnceMended_29 : decode cX3_rightOnceMended 29 = .ok (.getfield 40, 3) := by decide +kernel
theorem dX3_rightOnceMended_32 : decode cX3_rightOnceMended 32 = .ok (.invokevirtual 219, 3) := by decide +kernel
theorem dX3_rightOnceMended_35 : decode cX3_rightOnceMended 35 = .ok (.ireturn, 1) := by decide +kernel
theorem dX3_comparePairs_0 : decode cX3_comparePairs 0 = .ok (.iconst 0, 1) := by decide +kernel
theorem dX3_comparePairs_1 : decode cX3_comparePairs 1 = .ok (.istore_n 1, 1) := by decide +kernel
theorem dX3_comparePairs_2 : decode cX3_comparePairs 2 = .ok (.iconst 0, 1) := by decide +kernel
theorem dX3_comparePairs_3 : decode cX3_comparePairs 3 = .ok (.istore_n 2, 1) := by decide +kernel
theorem dX3_comparePairs_4 : decode cX3_comparePairs 4 = .ok (.iload_n 2, 1) := by decide +kernel
theorem dX3_comparePairs_5 : decode cX3_comparePairs 5 = .ok (.aload_n 0, 1) := by decide +kernel
theorem dX3_comparePairs_6 : decode cX3_comparePairs 6 = .ok (.getfield 33, 3) := by decide +kernel
theorem dX3_comparePairs_9 : decode cX3_comparePairs 9 = .ok (.getfield 84, 3) := by decide +kernel
theorem dX3_comparePairs_12 : decode cX3_comparePairs 12 = .ok (.if_icmp .ge 50, 3) := by decide +kernel
theorem dX3_comparePairs_15 : decode cX3_comparePairs 15 = .ok (.iload_n 2, 1) := by decide +kernel
theorem dX3_comparePairs_16 : decode cX3_comparePairs 16 = .ok (.iconst 1, 1) := by decide +kernel
theorem dX3_comparePairs_17 : decode cX3_comparePairs 17 = .ok (.iadd, 1) := by decide +kernel
theorem dX3_comparePairs_18 : decode cX3_comparePairs 18 = .ok (.istore_n 3, 1) := by decide +kernel
theorem dX3_comparePairs_19 : decode cX3_comparePairs 19 = .ok (.iload_n 3, 1) := by decide +kernel
theorem dX3_comparePairs_20 : decode cX3_comparePairs 20 = .ok (.aload_n 0, 1) := by decide +kernel
theorem dX3_comparePairs_21 : decode cX3_comparePairs 21 = .ok (.getfield 33, 3) := by decide +kernel
theorem dX3_comparePairs_24 : decode cX3_comparePairs 24 = .ok (.getfield 84, 3) := by decide +kernel
theorem dX3_comparePairs_27 : decode cX3_comparePairs 27 = .ok (.if_icmp .ge 29, 3) := by decide +kernel
theorem dX3_comparePairs_30 : decode cX3_comparePairs 30 = .ok (.aload_n 0, 1) := by decide +kernel
theorem dX3_comparePairs_31 : decode cX3_comparePairs 31 = .ok (.getfield 64, 3) := by decide +kernel
theorem dX3_comparePairs_34 : decode cX3_comparePairs 34 = .ok (.iload_n 1, 1) := by decide +kernel
theorem dX3_comparePairs_35 : decode cX3_comparePairs 35 = .ok (.aload_n 0, 1) := by decide +kernel
theorem dX3_comparePairs_36 : decode cX3_comparePairs 36 = .ok (.getfield 33, 3) := by decide +kernel
theorem dX3_comparePairs_39 : decode cX3_comparePairs 39 = .ok (.iload_n 2, 1) := by decide +kernel
theorem dX3_comparePairs_40 : decode cX3_comparePairs 40 = .ok (.iload_n 3, 1) := by decide +kernel
theorem dX3_comparePairs_41 : decode cX3_comparePairs 41 = .ok (.invokevirtual 236, 3) := by decide +kernel
theorem dX3_comparePairs_44 : decode cX3_comparePairs 44 = .ok (.invokestatic 203, 3) := by decide +kernel
theorem dX3_comparePairs_47 : decode cX3_comparePairs 47 = .ok (.iinc 1 1, 3) := by decide +kernel
theorem dX3_comparePairs_50 : decode cX3_comparePairs 50 = .ok (.iinc 3 1, 3) := by decide +kernel
theorem dX3_comparePairs_53 : decode cX3_comparePairs 53 = .ok (.goto (-34), 3) := by decide +kernel
theorem dX3_comparePairs_56 : decode cX3_comparePairs 56 = .ok (.iinc 2 1, 3) := by decide +kernel
theorem dX3_comparePairs_59 : decode cX3_comparePairs 59 = .ok (.goto (-55), 3) := by decide +kernel
theorem dX3_comparePairs_62 : decode cX3_comparePairs 62 = .ok (.iload_n 1, 1) := by decide +kernel
theorem dX3_comparePairs_63 : decode cX3_comparePairs 63 = .ok (.ireturn, 1) := by decide +kernel
theorem dX3_partsAll_0 : decode cX3_partsAll 0 = .ok (.iconst 0, 1) := by decide +kernel
theorem dX3_partsAll_1 : decode cX3_partsAll 1 = .ok (.istore_n 3, 1) := by decide +kernel
theorem dX3_partsAll_2 : decode cX3_partsAll 2 = .ok (.iload_n 3, 1) := by decide +kernel
theorem dX3_partsAll_3 : decode cX3_partsAll 3 = .ok (.iload_n 2, 1) := by decide +kernel
theorem dX3_partsAll_4 : decode cX3_partsAll 4 = .ok (.if_icmp .ge 24, 3) := by decide +kernel
theorem dX3_partsAll_7 : decode cX3_partsAll 7 = .ok (.aload_n 0, 1) := by decide +kernel
theorem dX3_partsAll_8 : decode cX3_partsAll 8 = .ok (.getfield 64, 3) := by decide +kernel
theorem dX3_partsAll_11 : decode cX3_partsAll 11 = .ok (.iload_n 3, 1) := by decide +kernel
theorem dX3_partsAll_12 : decode cX3_partsAll 12 = .ok (.invokestatic 100, 3) := by decide +kernel
theorem dX3_partsAll_15 : decode cX3_partsAll 15 = .ok (.iload_n 1, 1) := by decide +kernel
theorem dX3_partsAll_16 : decode cX3_partsAll 16 = .ok (.iand, 1) := by decide +kernel
theorem dX3_partsAll_17 : decode cX3_partsAll 17 = .ok (.ifCond .ne 5, 3) := by decide +kernel
theorem dX3_partsAll_20 : decode cX3_partsAll 20 = .ok (.iconst 0, 1) := by decide +kernel
theorem dX3_partsAll_21 : decode cX3_partsAll 21 = .ok (.ireturn, 1) := by decide +kernel
theorem dX3_partsAll_22 : decode cX3_partsAll 22 = .ok (.iinc 3 1, 3) := by decide +kernel
theorem dX3_partsAll_25 : decode cX3_partsAll 25 = .ok (.goto (-23), 3) := by decide +kernel
theorem dX3_partsAll_28 : decode cX3_partsAll 28 = .ok (.iconst 1, 1) := by decide +kernel
theorem dX3_partsAll_29 : decode cX3_partsAll 29 = .ok (.ireturn, 1) := by decide +kernel
theorem dX3_bestFrom_0 : decode cX3_bestFrom 0 = .ok (.aload_n 0, 1) := by decide +kernel
theorem dX3_bestFrom_1 : decode cX3_bestFrom 1 = .ok (.iload_n 1, 1) := by decide +kernel
theorem dX3_bestFrom_2 : decode cX3_bestFrom 2 = .ok (.invokestatic 160, 3) := by decide +kernel
theorem dX3_bestFrom_5 : decode cX3_bestFrom 5 = .ok (.astore 5, 2) := by decide +kernel
theorem dX3_bestFrom_7 : decode cX3_bestFrom 7 = .ok (.aload 5, 2) := by decide +kernel
theorem dX3_bestFrom_9 : decode cX3_bestFrom 9 = .ok (.ifnonnull 5, 3) := by decide +kernel
theorem dX3_bestFrom_12 : decode cX3_bestFrom 12 = .ok (.iconst 0, 1) := by decide +kernel
theorem dX3_bestFrom_13 : decode cX3_bestFrom 13 = .ok (.ireturn, 1) := by decide +kernel
theorem dX3_bestFrom_14 : decode cX3_bestFrom 14 = .ok (.iload_n 1, 1) := by decide +kernel
theorem dX3_bestFrom_15 : decode cX3_bestFrom 15 = .ok (.iload_n 2, 1) := by decide +kernel
theorem dX3_bestFrom_16 : decode cX3_bestFrom 16 = .ok (.if_icmp .lt 23, 3) := by decide +kernel
theorem dX3_bestFrom_19 : decode cX3_bestFrom 19 = .ok (.sipush 512, 3) := by decide +kernel
theorem dX3_bestFrom_22 : decode cX3_bestFrom 22 = .ok (.aload 5, 2) := by decide +kernel
theorem dX3_bestFrom_24 : decode cX3_bestFrom 24 = .ok (.iload_n 3, 1) := by decide +kernel
theorem dX3_bestFrom_25 : decode cX3_bestFrom 25 = .ok (.invokevirtual 164, 3) := by decide +kernel
theorem dX3_bestFrom_28 : decode cX3_bestFrom 28 = .ok (.imul, 1) := by decide +kernel
theorem dX3_bestFrom_29 : decode cX3_bestFrom 29 = .ok (.sipush 512, 3) := by decide +kernel
theorem dX3_bestFrom_32 : decode cX3_bestFrom 32 = .ok (.iadd, 1) := by decide +kernel
theorem dX3_bestFrom_33 : decode cX3_bestFrom 33 = .ok (.iconst 1, 1) := by decide +kernel
theorem dX3_bestFrom_34 : decode cX3_bestFrom 34 = .ok (.isub, 1) := by decide +kernel
theorem dX3_bestFrom_35 : decode cX3_bestFrom 35 = .ok (.iload 4, 2) := by decide +kernel
theorem dX3_bestFrom_37 : decode cX3_bestFrom 37 = .ok (.isub, 1) := by decide +kernel
theorem dX3_bestFrom_38 : decode cX3_bestFrom 38 = .ok (.ireturn, 1) := by decide +kernel
theorem dX3_bestFrom_39 : decode cX3_bestFrom 39 = .ok (.aload_n 0, 1) := by decide +kernel
theorem dX3_bestFrom_40 : decode cX3_bestFrom 40 = .ok (.iload_n 1, 1) := by decide +kernel
theorem dX3_bestFrom_41 : decode cX3_bestFrom 41 = .ok (.iconst 1, 1) := by decide +kernel
theorem dX3_bestFrom_42 : decode cX3_bestFrom 42 = .ok (.iadd, 1) := by decide +kernel
theorem dX3_bestFrom_43 : decode cX3_bestFrom 43 = .ok (.invokestatic 160, 3) := by decide +kernel
theorem dX3_bestFrom_46 : decode cX3_bestFrom 46 = .ok (.astore 6, 2) := by decide +kernel
theorem dX3_bestFrom_48 : decode cX3_bestFrom 48 = .ok (.aload 6, 2) := by decide +kernel
theorem dX3_bestFrom_50 : decode cX3_bestFrom 50 = .ok (.ifnonnull 5, 3) := by decide +kernel
theorem dX3_bestFrom_53 : decode cX3_bestFrom 53 = .ok (.iconst 0, 1) := by decide +kernel
theorem dX3_bestFrom_54 : decode cX3_bestFrom 54 = .ok (.ireturn, 1) := by decide +kernel
theorem dX3_bestFrom_55 : decode cX3_bestFrom 55 = .ok (.iconst 0, 1) := by decide +kernel
theorem dX3_bestFrom_56 : decode cX3_bestFrom 56 = .ok (.istore 7, 2) := by decide +kernel
theorem dX3_bestFrom_58 : decode cX3_bestFrom 58 = .ok (.iconst 0, 1) := by decide +kernel
theorem dX3_bestFrom_59 : decode cX3_bestFrom 59 = .ok (.istore 8, 2) := by decide +kernel
theorem dX3_bestFrom_61 : decode cX3_bestFrom 61 = .ok (.iload 8, 2) := by decide +kernel
theorem dX3_bestFrom_63 : decode cX3_bestFrom 63 = .ok (.aload 5, 2) := by decide +kernel
theorem dX3_bestFrom_65 : decode cX3_bestFrom 65 = .ok (.getfield 81, 3) := by decide +kernel
theorem dX3_bestFrom_68 : decode cX3_bestFrom 68 = .ok (.if_icmp .ge 54, 3) := by decide +kernel
theorem dX3_bestFrom_71 : decode cX3_bestFrom 71 = .ok (.aload 6, 2) := by decide +kernel
theorem dX3_bestFrom_73 : decode cX3_bestFrom 73 = .ok (.aload 5, 2) := by decide +kernel
theorem dX3_bestFrom_75 : decode cX3_bestFrom 75 = .ok (.invokevirtual 87, 3) := by decide +kernel
theorem dX3_bestFrom_78 : decode cX3_bestFrom 78 = .ok (.aload 6, 2) := by decide +kernel
theorem dX3_bestFrom_80 : decode cX3_bestFrom 80 = .ok (.iload_n 3, 1) := by decide +kernel
theorem dX3_bestFrom_81 : decode cX3_bestFrom 81 = .ok (.iload 8, 2) := by decide +kernel
theorem dX3_bestFrom_83 : decode cX3_bestFrom 83 = .ok (.invokevirtual 136, 3) := by decide +kernel
theorem dX3_bestFrom_86 : decode cX3_bestFrom 86 = .ok (.aload 6, 2) := by decide +kernel
theorem dX3_bestFrom_88 : decode cX3_bestFrom 88 = .ok (.iconst 1, 1) := by decide +kernel
theorem dX3_bestFrom_89 : decode cX3_bestFrom 89 = .ok (.invokevirtual 168, 3) := by decide +kernel
theorem dX3_bestFrom_92 : decode cX3_bestFrom 92 = .ok (.iload 7, 2) := by decide +kernel
theorem dX3_bestFrom_94 : decode cX3_bestFrom 94 = .ok (.aload_n 0, 1) := by decide +kernel
theorem dX3_bestFrom_95 : decode cX3_bestFrom 95 = .ok (.iload_n 1, 1) := by decide +kernel
theorem dX3_bestFrom_96 : decode cX3_bestFrom 96 = .ok (.iconst 1, 1) := by decide +kernel
theorem dX3_bestFrom_97 : decode cX3_bestFrom 97 = .ok (.iadd, 1) := by decide +kernel
theorem dX3_bestFrom_98 : decode cX3_bestFrom 98 = .ok (.iload_n 2, 1) := by decide +kernel
theorem dX3_bestFrom_99 : decode cX3_bestFrom 99 = .ok (.iload_n 3, 1) := by decide +kernel
theorem dX3_bestFrom_100 : decode cX3_bestFrom 100 = .ok (.bipush 8, 2) := by decide +kernel
theorem dX3_bestFrom_102 : decode cX3_bestFrom 102 = .ok (.iload 4, 2) := by decide +kernel
theorem dX3_bestFrom_104 : decode cX3_bestFrom 104 = .ok (.imul, 1) := by decide +kernel
theorem dX3_bestFrom_105 : decode cX3_bestFrom 105 = .ok (.iload 8, 2) := by decide +kernel
theorem dX3_bestFrom_107 : decode cX3_bestFrom 107 = .ok (.iadd, 1) := by decide +kernel
theorem dX3_bestFrom_108 : decode cX3_bestFrom 108 = .ok (.invokestatic 175, 3) := by decide +kernel
theorem dX3_bestFrom_111 : decode cX3_bestFrom 111 = .ok (.invokestatic 239, 3) := by decide +kernel
theorem dX3_bestFrom_114 : decode cX3_bestFrom 114 = .ok (.istore 7, 2) := by decide +kernel
theorem dX3_bestFrom_116 : decode cX3_bestFrom 116 = .ok (.iinc 8 1, 3) := by decide +kernel
theorem dX3_bestFrom_119 : decode cX3_bestFrom 119 = .ok (.goto (-58), 3) := by decide +kernel
theorem dX3_bestFrom_122 : decode cX3_bestFrom 122 = .ok (.iload 7, 2) := by decide +kernel
theorem dX3_bestFrom_124 : decode cX3_bestFrom 124 = .ok (.ireturn, 1) := by decide +kernel
theorem dX3_hailFrom_0 : decode cX3_hailFrom 0 = .ok (.aload_n 0, 1) := by decide +kernel
theorem dX3_hailFrom_1 : decode cX3_hailFrom 1 = .ok (.iload_n 1, 1) := by decide +kernel
theorem dX3_hailFrom_2 : decode cX3_hailFrom 2 = .ok (.invokestatic 160, 3) := by decide +kernel
theorem dX3_hailFrom_5 : decode cX3_hailFrom 5 = .ok (.astore 5, 2) := by decide +kernel
theorem dX3_hailFrom_7 : decode cX3_hailFrom 7 = .ok (.aload 5, 2) := by decide +kernel
theorem dX3_hailFrom_9 : decode cX3_hailFrom 9 = .ok (.ifnonnull 5, 3) := by decide +kernel
theorem dX3_hailFrom_12 : decode cX3_hailFrom 12 = .ok (.iconst 0, 1) := by decide +kernel
theorem dX3_hailFrom_13 : decode cX3_hailFrom 13 = .ok (.ireturn, 1) := by decide +kernel
theorem dX3_hailFrom_14 : decode cX3_hailFrom 14 = .ok (.iload_n 1, 1) := by decide +kernel
theorem dX3_hailFrom_15 : decode cX3_hailFrom 15 = .ok (.iload_n 2, 1) := by decide +kernel
theorem dX3_hailFrom_16 : decode cX3_hailFrom 16 = .ok (.if_icmp .lt 18, 3) := by decide +kernel
theorem dX3_hailFrom_19 : decode cX3_hailFrom 19 = .ok (.aload 5, 2) := by decide +kernel
theorem dX3_hailFrom_21 : decode cX3_hailFrom 21 = .ok (.iload_n 3, 1) := by decide +kernel
theorem dX3_hailFrom_22 : decode cX3_hailFrom 22 = .ok (.invokevirtual 119, 3) := by decide +kernel
theorem dX3_hailFrom_25 : decode cX3_hailFrom 25 = .ok (.ifCond .eq 7, 3) := by decide +kernel
theorem dX3_hailFrom_28 : decode cX3_hailFrom 28 = .ok (.iconst 1, 1) := by decide +kernel
theorem dX3_hailFrom_29 : decode cX3_hailFrom 29 = .ok (.goto 4, 3) := by decide +kernel
theorem dX3_hailFrom_32 : decode cX3_hailFrom 32 = .ok (.iconst 0, 1) := by decide +kernel
theorem dX3_hailFrom_33 : decode cX3_hailFrom 33 = .ok (.ireturn, 1) := by decide +kernel
theorem dX3_hailFrom_34 : decode cX3_hailFrom 34 = .ok (.aload_n 0, 1) := by decide +kernel
theorem dX3_hailFrom_35 : decode cX3_hailFrom 35 = .ok (.iload_n 1, 1) := by decide +kernel
theorem dX3_hailFrom_36 : decode cX3_hailFrom 36 = .ok (.iconst 1, 1) := by decide +kernel
theorem dX3_hailFrom_37 : decode cX3_hailFrom 37 = .ok (.iadd, 1) := by decide +kernel
theorem dX3_hailFrom_38 : decode cX3_hailFrom 38 = .ok (.invokestatic 160, 3) := by decide +kernel
theorem dX3_hailFrom_41 : decode cX3_hailFrom 41 = .ok (.astore 6, 2) := by decide +kernel
theorem dX3_hailFrom_43 : decode cX3_hailFrom 43 = .ok (.aload 6, 2) := by decide +kernel
theorem dX3_hailFrom_45 : decode cX3_hailFrom 45 = .ok (.ifnonnull 5, 3) := by decide +kernel
theorem dX3_hailFrom_48 : decode cX3_hailFrom 48 = .ok (.iconst 0, 1) := by decide +kernel
theorem dX3_hailFrom_49 : decode cX3_hailFrom 49 = .ok (.ireturn, 1) := by decide +kernel
theorem dX3_hailFrom_50 : decode cX3_hailFrom 50 = .ok (.iconst 0, 1) := by decide +kernel
theorem dX3_hailFrom_51 : decode cX3_hailFrom 51 = .ok (.istore 7, 2) := by decide +kernel
theorem dX3_hailFrom_53 : decode cX3_hailFrom 53 = .ok (.iload 4, 2) := by decide +kernel
theorem dX3_hailFrom_55 : decode cX3_hailFrom 55 = .ok (.ifCond .le 35, 3) := by decide +kernel
theorem dX3_hailFrom_58 : decode cX3_hailFrom 58 = .ok (.aload 6, 2) := by decide +kernel
theorem dX3_hailFrom_60 : decode cX3_hailFrom 60 = .ok (.aload 5, 2) := by decide +kernel
theorem dX3_hailFrom_62 : decode cX3_hailFrom 62 = .ok (.invokevirtual 87, 3) := by decide +kernel
theorem dX3_hailFrom_65 : decode cX3_hailFrom 65 = .ok (.aload 6, 2) := by decide +kernel
theorem dX3_hailFrom_67 : decode cX3_hailFrom 67 = .ok (.iconst 0, 1) := by decide +kernel
theorem dX3_hailFrom_68 : decode cX3_hailFrom 68 = .ok (.invokevirtual 168, 3) := by decide +kernel
theorem dX3_hailFrom_71 : decode cX3_hailFrom 71 = .ok (.iload 7, 2) := by decide +kernel
theorem dX3_hailFrom_73 : decode cX3_hailFrom 73 = .ok (.iload 4, 2) := by decide +kernel
theorem dX3_hailFrom_75 : decode cX3_hailFrom 75 = .ok (.aload_n 0, 1) := by decide +kernel
theorem dX3_hailFrom_76 : decode cX3_hailFrom 76 = .ok (.iload_n 1, 1) := by decide +kernel
theorem dX3_hailFrom_77 : decode cX3_hailFrom 77 = .ok (.iconst 1, 1) := by decide +kernel
theorem dX3_hailFrom_78 : decode cX3_hailFrom 78 = .ok (.iadd, 1) := by decide +kernel
theorem dX3_hailFrom_79 : decode cX3_hailFrom 79 = .ok (.iload_n 2, 1) := by decide +kernel
theorem dX3_hailFrom_80 : decode cX3_hailFrom 80 = .ok (.iload_n 3, 1) := by decide +kernel
theorem dX3_hailFrom_81 : decode cX3_hailFrom 81 = .ok (.iload 4, 2) := by decide +kernel
theorem dX3_hailFrom_83 : decode cX3_hailFrom 83 = .ok (.invokestatic 207, 3) := by decide +kernel
theorem dX3_hailFrom_86 : decode cX3_hailFrom 86 = .ok (.imul, 1) := by decide +kernel
theorem dX3_hailFrom_87 : decode cX3_hailFrom 87 = .ok (.iadd, 1) := by decide +kernel
theorem dX3_hailFrom_88 : decode cX3_hailFrom 88 = .ok (.istore 7, 2) := by decide +kernel
theorem dX3_hailFrom_90 : decode cX3_hailFrom 90 = .ok (.iload 4, 2) := by decide +kernel
theorem dX3_hailFrom_92 : decode cX3_hailFrom 92 = .ok (.bipush 10, 2) := by decide +kernel
theorem dX3_hailFrom_94 : decode cX3_hailFrom 94 = .ok (.if_icmp .ge 38, 3) := by decide +kernel
theorem dX3_hailFrom_97 : decode cX3_hailFrom 97 = .ok (.aload 6, 2) := by decide +kernel
theorem dX3_hailFrom_99 : decode cX3_hailFrom 99 = .ok (.aload 5, 2) := by decide +kernel
theorem dX3_hailFrom_101 : decode cX3_hailFrom 101 = .ok (.invokevirtual 87, 3) := by decide +kernel
theorem dX3_hailFrom_104 : decode cX3_hailFrom 104 = .ok (.aload 6, 2) := by decide +kernel
theorem dX3_hailFrom_106 : decode cX3_hailFrom 106 = .ok (.iconst 1, 1) := by decide +kernel
theorem dX3_hailFrom_107 : decode cX3_hailFrom 107 = .ok (.invokevirtual 168, 3) := by decide +kernel
theorem dX3_hailFrom_110 : decode cX3_hailFrom 110 = .ok (.iload 7, 2) := by decide +kernel
theorem dX3_hailFrom_112 : decode cX3_hailFrom 112 = .ok (.bipush 10, 2) := by decide +kernel
theorem dX3_hailFrom_114 : decode cX3_hailFrom 114 = .ok (.iload 4, 2) := by decide +kernel
theorem dX3_hailFrom_116 : decode cX3_hailFrom 116 = .ok (.isub, 1) := by decide +kernel
theorem dX3_hailFrom_117 : decode cX3_hailFrom 117 = .ok (.aload_n 0, 1) := by decide +kernel
theorem dX3_hailFrom_118 : decode cX3_hailFrom 118 = .ok (.iload_n 1, 1) := by decide +kernel
theorem dX3_hailFrom_119 : decode cX3_hailFrom 119 = .ok (.iconst 1, 1) := by decide +kernel
theorem dX3_hailFrom_120 : decode cX3_hailFrom 120 = .ok (.iadd, 1) := by decide +kernel
theorem dX3_hailFrom_121 : decode cX3_hailFrom 121 = .ok (.iload_n 2, 1) := by decide +kernel
theorem dX3_hailFrom_122 : decode cX3_hailFrom 122 = .ok (.iload_n 3, 1) := by decide +kernel
theorem dX3_hailFrom_123 : decode cX3_hailFrom 123 = .ok (.iload 4, 2) := by decide +kernel
theorem dX3_hailFrom_125 : decode cX3_hailFrom 125 = .ok (.invokestatic 207, 3) := by decide +kernel
theorem dX3_hailFrom_128 : decode cX3_hailFrom 128 = .ok (.imul, 1) := by decide +kernel
theorem dX3_hailFrom_129 : decode cX3_hailFrom 129 = .ok (.iadd, 1) := by decide +kernel
theorem dX3_hailFrom_130 : decode cX3_hailFrom 130 = .ok (.istore 7, 2) := by decide +kernel
theorem dX3_hailFrom_132 : decode cX3_hailFrom 132 = .ok (.iload 7, 2) := by decide +kernel
theorem dX3_hailFrom_134 : decode cX3_hailFrom 134 = .ok (.ireturn, 1) := by decide +kernel
theorem dX3_draw_0 : decode cX3_draw 0 = .ok (.ldc2_w 242, 3) := by decide +kernel
theorem dX3_draw_3 : decode cX3_draw 3 = .ok (.iload_n 0, 1) := by decide +kernel
theorem dX3_draw_4 : decode cX3_draw 4 = .ok (.i2l, 1) := by decide +kernel
theorem dX3_draw_5 : decode cX3_draw 5 = .ok (.lmul, 1) := by decide +kernel
theorem dX3_draw_6 : decode cX3_draw 6 = .ok (.ldc2_w 244, 3) := by decide +kernel
theorem dX3_draw_9 : decode cX3_draw 9 = .ok (.iload_n 1, 1) := by decide +kernel
theorem dX3_draw_10 : decode cX3_draw 10 = .ok (.i2l, 1) := by decide +kernel
theorem dX3_draw_11 : decode cX3_draw 11 = .ok (.lmul, 1) := by decide +kernel
theorem dX3_draw_12 : decode cX3_draw 12 = .ok (.ladd, 1) := by decide +kernel
theorem dX3_draw_13 : decode cX3_draw 13 = .ok (.lconst 1, 1) := by decide +kernel
theorem dX3_draw_14 : decode cX3_draw 14 = .ok (.ladd, 1) := by decide +kernel
theorem dX3_draw_15 : decode cX3_draw 15 = .ok (.lstore_n 2, 1) := by decide +kernel
theorem dX3_draw_16 : decode cX3_draw 16 = .ok (.lload_n 2, 1) := by decide +kernel
theorem dX3_draw_17 : decode cX3_draw 17 = .ok (.lload_n 2, 1) := by decide +kernel
theorem dX3_draw_18 : decode cX3_draw 18 = .ok (.lmul, 1) := by decide +kernel
theorem dX3_draw_19 : decode cX3_draw 19 = .ok (.ldc2_w 246, 3) := by decide +kernel
theorem dX3_draw_22 : decode cX3_draw 22 = .ok (.lrem, 1) := by decide +kernel
theorem dX3_draw_23 : decode cX3_draw 23 = .ok (.l2i, 1) := by decide +kernel
theorem dX3_draw_24 : decode cX3_draw 24 = .ok (.ireturn, 1) := by decide +kernel
theorem dX3_commonPart_0 : decode cX3_commonPart 0 = .ok (.iconst 0, 1) := by decide +kernel
theorem dX3_commonPart_1 : decode cX3_commonPart 1 = .ok (.istore_n 2, 1) := by decide +kernel
theorem dX3_commonPart_2 : decode cX3_commonPart 2 = .ok (.iload_n 2, 1) := by decide +kernel
theorem dX3_commonPart_3 : decode cX3_commonPart 3 = .ok (.bipush 100, 2) := by decide +kernel
theorem dX3_commonPart_5 : decode cX3_commonPart 5 = .ok (.if_icmp .ge 21, 3) := by decide +kernel
theorem dX3_commonPart_8 : decode cX3_commonPart 8 = .ok (.iload_n 1, 1) := by decide +kernel
theorem dX3_commonPart_9 : decode cX3_commonPart 9 = .ok (.ifCond .eq 17, 3) := by decide +kernel
theorem dX3_commonPart_12 : decode cX3_commonPart 12 = .ok (.iload_n 0, 1) := by decide +kernel
theorem dX3_commonPart_13 : decode cX3_commonPart 13 = .ok (.iload_n 1, 1) := by decide +kernel
theorem dX3_commonPart_14 : decode cX3_commonPart 14 = .ok (.irem, 1) := by decide +kernel
theorem dX3_commonPart_15 : decode cX3_commonPart 15 = .ok (.istore_n 3, 1) := by decide +kernel
theorem dX3_commonPart_16 : decode cX3_commonPart 16 = .ok (.iload_n 1, 1) := by decide +kernel
theorem dX3_commonPart_17 : decode cX3_commonPart 17 = .ok (.istore_n 0, 1) := by decide +kernel
theorem dX3_commonPart_18 : decode cX3_commonPart 18 = .ok (.iload_n 3, 1) := by decide +kernel
theorem dX3_commonPart_19 : decode cX3_commonPart 19 = .ok (.istore_n 1, 1) := by decide +kernel
theorem dX3_commonPart_20 : decode cX3_commonPart 20 = .ok (.iinc 2 1, 3) := by decide +kernel
theorem dX3_commonPart_23 : decode cX3_commonPart 23 = .ok (.goto (-21), 3) := by decide +kernel
theorem dX3_commonPart_26 : decode cX3_commonPart 26 = .ok (.iload_n 0, 1) := by decide +kernel
theorem dX3_commonPart_27 : decode cX3_commonPart 27 = .ok (.ireturn, 1) := by decide +kernel
theorem dX3_tables_0 : decode cX3_tables 0 = .ok (.iload_n 0, 1) := by decide +kernel
theorem dX3_tables_1 : decode cX3_tables 1 = .ok (.iconst 0, 1) := by decide +kernel
theorem dX3_tables_2 : decode cX3_tables 2 = .ok (.invokestatic 239, 3) := by decide +kernel
theorem dX3_tables_5 : decode cX3_tables 5 = .ok (.anewarray 10, 3) := by decide +kernel
theorem dX3_tables_8 : decode cX3_tables 8 = .ok (.astore_n 1, 1) := by decide +kernel
theorem dX3_tables_9 : decode cX3_tables 9 = .ok (.iconst 0, 1) := by decide +kernel
theorem dX3_tables_10 : decode cX3_tables 10 = .ok (.istore_n 2, 1) := by decide +kernel
theorem dX3_tables_11 : decode cX3_tables 11 = .ok (.iload_n 2, 1) := by decide +kernel
theorem dX3_tables_12 : decode cX3_tables 12 = .ok (.aload_n 1, 1) := by decide +kernel
theorem dX3_tables_13 : decode cX3_tables 13 = .ok (.arraylength, 1) := by decide +kernel
theorem dX3_tables_14 : decode cX3_tables 14 = .ok (.if_icmp .ge 19, 3) := by decide +kernel
theorem dX3_tables_17 : decode cX3_tables 17 = .ok (.aload_n 1, 1) := by decide +kernel
theorem dX3_tables_18 : decode cX3_tables 18 = .ok (.iload_n 2, 1) := by decide +kernel
theorem dX3_tables_19 : decode cX3_tables 19 = .ok (.new 10, 3) := by decide +kernel
theorem dX3_tables_22 : decode cX3_tables 22 = .ok (.dup, 1) := by decide +kernel
theorem dX3_tables_23 : decode cX3_tables 23 = .ok (.invokespecial 12, 3) := by decide +kernel
theorem dX3_tables_26 : decode cX3_tables 26 = .ok (.aastore, 1) := by decide +kernel
theorem dX3_tables_27 : decode cX3_tables 27 = .ok (.iinc 2 1, 3) := by decide +kernel
theorem dX3_tables_30 : decode cX3_tables 30 = .ok (.goto (-19), 3) := by decide +kernel
theorem dX3_tables_33 : decode cX3_tables 33 = .ok (.aload_n 1, 1) := by decide +kernel
theorem dX3_tables_34 : decode cX3_tables 34 = .ok (.areturn, 1) := by decide +kernel
theorem dX3_tableAt_0 : decode cX3_tableAt 0 = .ok (.aload_n 0, 1) := by decide +kernel
theorem dX3_tableAt_1 : decode cX3_tableAt 1 = .ok (.ifnull 19, 3) := by decide +kernel
theorem dX3_tableAt_4 : decode cX3_tableAt 4 = .ok (.iload_n 1, 1) := by decide +kernel
theorem dX3_tableAt_5 : decode cX3_tableAt 5 = .ok (.ifCond .lt 15, 3) := by decide +kernel
theorem dX3_tableAt_8 : decode cX3_tableAt 8 = .ok (.iload_n 1, 1) := by decide +kernel
theorem dX3_tableAt_9 : decode cX3_tableAt 9 = .ok (.aload_n 0, 1) := by decide +kernel
theorem dX3_tableAt_10 : decode cX3_tableAt 10 = .ok (.arraylength, 1) := by decide +kernel
theorem dX3_tableAt_11 : decode cX3_tableAt 11 = .ok (.if_icmp .ge 9, 3) := by decide +kernel
theorem dX3_tableAt_14 : decode cX3_tableAt 14 = .ok (.aload_n 0, 1) := by decide +kernel
theorem dX3_tableAt_15 : decode cX3_tableAt 15 = .ok (.iload_n 1, 1) := by decide +kernel
theorem dX3_tableAt_16 : decode cX3_tableAt 16 = .ok (.aaload, 1) := by decide +kernel
theorem dX3_tableAt_17 : decode cX3_tableAt 17 = .ok (.goto 4, 3) := by decide +kernel
theorem dX3_tableAt_20 : decode cX3_tableAt 20 = .ok (.aconst_null, 1) := by decide +kernel
theorem dX3_tableAt_21 : decode cX3_tableAt 21 = .ok (.areturn, 1) := by decide +kernel
theorem dX3_at_0 : decode cX3_at 0 = .ok (.aload_n 0, 1) := by decide +kernel
theorem dX3_at_1 : decode cX3_at 1 = .ok (.ifnull 19, 3) := by decide +kernel
theorem dX3_at_4 : decode cX3_at 4 = .ok (.iload_n 1, 1) := by decide +kernel
theorem dX3_at_5 : decode cX3_at 5 = .ok (.ifCond .lt 15, 3) := by decide +kernel
theorem dX3_at_8 : decode cX3_at 8 = .ok (.iload_n 1, 1) := by decide +kernel
theorem dX3_at_9 : decode cX3_at 9 = .ok (.aload_n 0, 1) := by decide +kernel
theorem dX3_at_10 : decode cX3_at 10 = .ok (.arraylength, 1) := by decide +kernel
theorem dX3_at_11 : decode cX3_at 11 = .ok (.if_icmp .ge 9, 3) := by decide +kernel
theorem dX3_at_14 : decode cX3_at 14 = .ok (.aload_n 0, 1) := by decide +kernel
theorem dX3_at_15 : decode cX3_at 15 = .ok (.iload_n 1, 1) := by decide +kernel
theorem dX3_at_16 : decode cX3_at 16 = .ok (.iaload, 1) := by decide +kernel
theorem dX3_at_17 : decode cX3_at 17 = .ok (.goto 4, 3) := by decide +kernel
theorem dX3_at_20 : decode cX3_at 20 = .ok (.iconst 0, 1) := by decide +kernel
theorem dX3_at_21 : decode cX3_at 21 = .ok (.ireturn, 1) := by decide +kernel
theorem dX3_put_0 : decode cX3_put 0 = .ok (.aload_n 0, 1) := by decide +kernel
theorem dX3_put_1 : decode cX3_put 1 = .ok (.ifnull 17, 3) := by decide +kernel
theorem dX3_put_4 : decode cX3_put 4 = .ok (.iload_n 1, 1) := by decide +kernel
theorem dX3_put_5 : decode cX3_put 5 = .ok (.ifCond .lt 13, 3) := by decide +kernel
theorem dX3_put_8 : decode cX3_put 8 = .ok (.iload_n 1, 1) := by decide +kernel
theorem dX3_put_9 : decode cX3_put 9 = .ok (.aload_n 0, 1) := by decide +kernel
theorem dX3_put_10 : decode cX3_put 10 = .ok (.arraylength, 1) := by decide +kernel
theorem dX3_put_11 : decode cX3_put 11 = .ok (.if_icmp .ge 7, 3) := by decide +kernel
theorem dX3_put_14 : decode cX3_put 14 = .ok (.aload_n 0, 1) := by decide +kernel
theorem dX3_put_15 : decode cX3_put 15 = .ok (.iload_n 1, 1) := by decide +kernel
theorem dX3_put_16 : decode cX3_put 16 = .ok (.iload_n 2, 1) := by decide +kernel
theorem dX3_put_17 : decode cX3_put 17 = .ok (.iastore, 1) := by decide +kernel
theorem dX3_put_18 : decode cX3_put 18 = .ok (.return_, 1) := by decide +kernel
theorem dX3_copyRow_0 : decode cX3_copyRow 0 = .ok (.aload_n 0, 1) := by decide +kernel
theorem dX3_copyRow_1 : decode cX3_copyRow 1 = .ok (.ifnull 21, 3) := by decide +kernel
theorem dX3_copyRow_4 : decode cX3_copyRow 4 = .ok (.aload_n 1, 1) := by decide +kernel
theorem dX3_copyRow_5 : decode cX3_copyRow 5 = .ok (.ifnull 17, 3) := by decide +kernel
theorem dX3_copyRow_8 : decode cX3_copyRow 8 = .ok (.aload_n 0, 1) := by decide +kernel
theorem dX3_copyRow_9 : decode cX3_copyRow 9 = .ok (.iconst 0, 1) := by decide +kernel
theorem dX3_copyRow_10 : decode cX3_copyRow 10 = .ok (.aload_n 1, 1) := by decide +kernel
theorem dX3_copyRow_11 : decode cX3_copyRow 11 = .ok (.iconst 0, 1) := by decide +kernel
theorem dX3_copyRow_12 : decode cX3_copyRow 12 = .ok (.aload_n 0, 1) := by decide +kernel
theorem dX3_copyRow_13 : decode cX3_copyRow 13 = .ok (.arraylength, 1) := by decide +kernel
theorem dX3_copyRow_14 : decode cX3_copyRow 14 = .ok (.aload_n 1, 1) := by decide +kernel
theorem dX3_copyRow_15 : decode cX3_copyRow 15 = .ok (.arraylength, 1) := by decide +kernel
theorem dX3_copyRow_16 : decode cX3_copyRow 16 = .ok (.invokestatic 231, 3) := by decide +kernel
theorem dX3_copyRow_19 : decode cX3_copyRow 19 = .ok (.invokestatic 248, 3) := by decide +kernel
theorem dX3_copyRow_22 : decode cX3_copyRow 22 = .ok (.return_, 1) := by decide +kernel
theorem dX3_swap_0 : decode cX3_swap 0 = .ok (.aload_n 0, 1) := by decide +kernel
theorem dX3_swap_1 : decode cX3_swap 1 = .ok (.iload_n 1, 1) := by decide +kernel
theorem dX3_swap_2 : decode cX3_swap 2 = .ok (.invokestatic 100, 3) := by decide +kernel
theorem dX3_swap_5 : decode cX3_swap 5 = .ok (.istore_n 3, 1) := by decide +kernel
theorem dX3_swap_6 : decode cX3_swap 6 = .ok (.aload_n 0, 1) := by decide +kernel
theorem dX3_swap_7 : decode cX3_swap 7 = .ok (.iload_n 1, 1) := by decide +kernel
theorem dX3_swap_8 : decode cX3_swap 8 = .ok (.aload_n 0, 1) := by decide +kernel
theorem dX3_swap_9 : decode cX3_swap 9 = .ok (.iload_n 2, 1) := by decide +kernel
theorem dX3_swap_10 : decode cX3_swap 10 = .ok (.invokestatic 100, 3) := by decide +kernel
theorem dX3_swap_13 : decode cX3_swap 13 = .ok (.invokestatic 203, 3) := by decide +kernel
theorem dX3_swap_16 : decode cX3_swap 16 = .ok (.aload_n 0, 1) := by decide +kernel
theorem dX3_swap_17 : decode cX3_swap 17 = .ok (.iload_n 2, 1) := by decide +kernel
theorem dX3_swap_18 : decode cX3_swap 18 = .ok (.iload_n 3, 1) := by decide +kernel
theorem dX3_swap_19 : decode cX3_swap 19 = .ok (.invokestatic 203, 3) := by decide +kernel
theorem dX3_swap_22 : decode cX3_swap 22 = .ok (.return_, 1) := by decide +kernel
theorem dX4_init_0 : decode cX4_init 0 = .ok (.aload_n 0, 1) := by decide +kernel
theorem dX4_init_1 : decode cX4_init 1 = .ok (.invokespecial 1, 3) := by decide +kernel
theorem dX4_init_4 : decode cX4_init 4 = .ok (.aload_n 0, 1) := by decide +kernel
theorem dX4_init_5 : decode cX4_init 5 = .ok (.bipush 8, 2) := by decide +kernel
theorem dX4_init_7 : decode cX4_init 7 = .ok (.newarray .int, 2) := by decide +kernel
theorem dX4_init_9 : decode cX4_init 9 = .ok (.putfield 7, 3) := by decide +kernel
theorem dX4_init_12 : decode cX4_init 12 = .ok (.aload_n 0, 1) := by decide +kernel
theorem dX4_init_13 : decode cX4_init 13 = .ok (.bipush 8, 2) := by decide +kernel
theorem dX4_init_15 : decode cX4_init 15 = .ok (.newarray .int, 2) := by decide +kernel
theorem dX4_init_17 : decode cX4_init 17 = .ok (.putfield 13, 3) := by decide +kernel
theorem dX4_init_20 : decode cX4_init 20 = .ok (.aload_n 0, 1) := by decide +kernel
theorem dX4_init_21 : decode cX4_init 21 = .ok (.sipush 1092, 3) := by decide +kernel
theorem dX4_init_24 : decode cX4_init 24 = .ok (.newarray .int, 2) := by decide +kernel
theorem dX4_init_26 : decode cX4_init 26 = .ok (.putfield 16, 3) := by decide +kernel
theorem dX4_init_29 : decode cX4_init 29 = .ok (.aload_n 0, 1) := by decide +kernel
theorem dX4_init_30 : decode cX4_init 30 = .ok (.sipush 200, 3) := by decide +kernel
theorem dX4_init_33 : decode cX4_init 33 = .ok (.newarray .byte, 2) := by decide +kernel
theorem dX4_init_35 : decode cX4_init 35 = .ok (.putfield 19, 3) := by decide +kernel
theorem dX4_init_38 : decode cX4_init 38 = .ok (.aload_n 0, 1) := by decide +kernel
theorem dX4_init_39 : decode cX4_init 39 = .ok (.bipush 6, 2) := by decide +kernel
theorem dX4_init_41 : decode cX4_init 41 = .ok (.newarray .int, 2) := by decide +kernel
theorem dX4_init_43 : decode cX4_init 43 = .ok (.putfield 23, 3) := by decide +kernel
theorem dX4_init_46 : decode cX4_init 46 = .ok (.aload_n 0, 1) := by decide +kernel
theorem dX4_init_47 : decode cX4_init 47 = .ok (.bipush 6, 2) := by decide +kernel
theorem dX4_init_49 : decode cX4_init 49 = .ok (.newarray .int, 2) := by decide +kernel
theorem dX4_init_51 : decode cX4_init 51 = .ok (.putfield 26, 3) := by decide +kernel
theorem dX4_init_54 : decode cX4_init 54 = .ok (.aload_n 0, 1) := by decide +kernel
theorem dX4_init_55 : decode cX4_init 55 = .ok (.bipush 6, 2) := by decide +kernel
theorem dX4_init_57 : decode cX4_init 57 = .ok (.newarray .int, 2) := by decide +kernel
theorem dX4_init_59 : decode cX4_init 59 = .ok (.putfield 29, 3) := by decide +kernel
theorem dX4_init_62 : decode cX4_init 62 = .ok (.aload_n 0, 1) := by decide +kernel
theorem dX4_init_63 : decode cX4_init 63 = .ok (.iconst 5, 1) := by decide +kernel
theorem dX4_init_64 : decode cX4_init 64 = .ok (.newarray .int, 2) := by decide +kernel
theorem dX4_init_66 : decode cX4_init 66 = .ok (.putfield 32, 3) := by decide +kernel
theorem dX4_init_69 : decode cX4_init 69 = .ok (.aload_n 0, 1) := by decide +kernel
theorem dX4_init_70 : decode cX4_init 70 = .ok (.iconst 5, 1) := by decide +kernel
theorem dX4_init_71 : decode cX4_init 71 = .ok (.newarray .int, 2) := by decide +kernel
theorem dX4_init_73 : decode cX4_init 73 = .ok (.putfield 35, 3) := by decide +kernel
theorem dX4_init_76 : decode cX4_init 76 = .ok (.aload_n 0, 1) := by decide +kernel
theorem dX4_init_77 : decode cX4_init 77 = .ok (.invokevirtual 38, 3) := by decide +kernel
theorem dX4_init_80 : decode cX4_init 80 = .ok (.aload_n 0, 1) := by decide +kernel
theorem dX4_init_81 : decode cX4_init 81 = .ok (.bipush 8, 2) := by decide +kernel
theorem dX4_init_83 : decode cX4_init 83 = .ok (.putfield 41, 3) := by decide +kernel
theorem dX4_init_86 : decode cX4_init 86 = .ok (.aload_n 0, 1) := by decide +kernel
theorem dX4_init_87 : decode cX4_init 87 = .ok (.getfield 13, 3) := by decide +kernel
theorem dX4_init_90 : decode cX4_init 90 = .ok (.iconst 0, 1) := by decide +kernel
theorem dX4_init_91 : decode cX4_init 91 = .ok (.iconst 3, 1) := by decide +kernel
theorem dX4_init_92 : decode cX4_init 92 = .ok (.iastore, 1) := by decide +kernel
theorem dX4_init_93 : decode cX4_init 93 = .ok (.aload_n 0, 1) := by decide +kernel
theorem dX4_init_94 : decode cX4_init 94 = .ok (.getfield 13, 3) := by decide +kernel
theorem dX4_init_97 : decode cX4_init 97 = .ok (.iconst 1, 1) := by decide +kernel
theorem dX4_init_98 : decode cX4_init 98 = .ok (.bipush 7, 2) := by decide +kernel
theorem dX4_init_100 : decode cX4_init 100 = .ok (.iastore, 1) := by decide +kernel
theorem dX4_init_101 : decode cX4_init 101 = .ok (.aload_n 0, 1) := by decide +kernel
theorem dX4_init_102 : decode cX4_init 102 = .ok (.getfield 13, 3) := by decide +kernel
theorem dX4_init_105 : decode cX4_init 105 = .ok (.iconst 2, 1) := by decide +kernel
theorem dX4_init_106 : decode cX4_init 106 = .ok (.iconst 1, 1) := by decide +kernel
theorem dX4_init_107 : decode cX4_init 107 = .ok (.iastore, 1) := by decide +kernel
theorem dX4_init_108 : decode cX4_init 108 = .ok (.aload_n 0, 1) := by decide +kernel
theorem dX4_init_109 : decode cX4_init 109 = .ok (.getfield 13, 3) := by decide +kernel
theorem dX4_init_112 : decode cX4_init 112 = .ok (.iconst 3, 1) := by decide +kernel
theorem dX4_init_113 : decode cX4_init 113 = .ok (.iconst 0, 1) := by decide +kernel
theorem dX4_init_114 : decode cX4_init 114 = .ok (.iastore, 1) := by decide +kernel
theorem dX4_init_115 : decode cX4_init 115 = .ok (.aload_n 0, 1) := by decide +kernel
theorem dX4_init_116 : decode cX4_init 116 = .ok (.getfield 13, 3) := by decide +kernel
theorem dX4_init_119 : decode cX4_init 119 = .ok (.iconst 4, 1) := by decide +kernel
theorem dX4_init_120 : decode cX4_init 120 = .ok (.iconst 4, 1) := by decide +kernel
theorem dX4_init_121 : decode cX4_init 121 = .ok (.iastore, 1) := by decide +kernel
theorem dX4_init_122 : decode cX4_init 122 = .ok (.aload_n 0, 1) := by decide +kernel
theorem dX4_init_123 : decode cX4_init 123 = .ok (.getfield 13, 3) := by decide +kernel
theorem dX4_init_126 : decode cX4_init 126 = .ok (.iconst 5, 1) := by decide +kernel
theorem dX4_init_127 : decode cX4_init 127 = .ok (.bipush 9, 2) := by decide +kernel
theorem dX4_init_129 : decode cX4_init 129 = .ok (.iastore, 1) := by decide +kernel
theorem dX4_init_130 : decode cX4_init 130 = .ok (.aload_n 0, 1) := by decide +kernel
theorem dX4_init_131 : decode cX4_init 131 = .ok (.getfield 13, 3) := by decide +kernel
theorem dX4_init_134 : decode cX4_init 134 = .ok (.bipush 6, 2) := by decide +kernel
theorem dX4_init_136 : decode cX4_init 136 = .ok (.iconst 2, 1) := by decide +kernel
theorem dX4_init_137 : decode cX4_init 137 = .ok (.iastore, 1) := by decide +kernel
theorem dX4_init_138 : decode cX4_init 138 = .ok (.aload_n 0, 1) := by decide +kernel
theorem dX4_init_139 : decode cX4_init 139 = .ok (.getfield 13, 3) := by decide +kernel
theorem dX4_init_142 : decode cX4_init 142 = .ok (.bipush 7, 2) := by decide +kernel
theorem dX4_init_144 : decode cX4_init 144 = .ok (.iconst 5, 1) := by decide +kernel
theorem dX4_init_145 : decode cX4_init 145 = .ok (.iastore, 1) := by decide +kernel
theorem dX4_init_146 : decode cX4_init 146 = .ok (.aload_n 0, 1) := by decide +kernel
theorem dX4_init_147 : decode cX4_init 147 = .ok (.iconst 0, 1) := by decide +kernel
theorem dX4_init_148 : decode cX4_init 148 = .ok (.iconst 5, 1) := by decide +kernel
theorem dX4_init_149 : decode cX4_init 149 = .ok (.invokevirtual 45, 3) := by decide +kernel
theorem dX4_init_152 : decode cX4_init 152 = .ok (.aload_n 0, 1) := by decide +kernel
theorem dX4_init_153 : decode cX4_init 153 = .ok (.iconst 0, 1) := by decide +kernel
theorem dX4_init_154 : decode cX4_init 154 = .ok (.iconst 3, 1) := by decide +kernel
theorem dX4_init_155 : decode cX4_init 155 = .ok (.invokevirtual 49, 3) := by decide +kernel
theorem dX4_init_158 : decode cX4_init 158 = .ok (.aload_n 0, 1) := by decide +kernel
theorem dX4_init_159 : decode cX4_init 159 = .ok (.iconst 4, 1) := by decide +kernel
theorem dX4_init_160 : decode cX4_init 160 = .ok (.iconst 4, 1) := by decide +kernel
theorem dX4_init_161 : decode cX4_init 161 = .ok (.invokevirtual 49, 3) := by decide +kernel
theorem dX4_init_164 : decode cX4_init 164 = .ok (.aload_n 0, 1) := by decide +kernel
theorem dX4_init_165 : decode cX4_init 165 = .ok (.iconst 1, 1) := by decide +kernel
theorem dX4_init_166 : decode cX4_init 166 = .ok (.bipush 9, 2) := by decide +kernel
theorem dX4_init_168 : decode cX4_init 168 = .ok (.invokevirtual 45, 3) := by decide +kernel
theorem dX4_init_171 : decode cX4_init 171 = .ok (.aload_n 0, 1) := by decide +kernel
theorem dX4_init_172 : decode cX4_init 172 = .ok (.iconst 1, 1) := by decide +kernel
theorem dX4_init_173 : decode cX4_init 173 = .ok (.bipush 7, 2) := by decide +kernel
theorem dX4_init_175 : decode cX4_init 175 = .ok (.invokevirtual 49, 3) := by decide +kernel
theorem dX4_init_178 : decode cX4_init 178 = .ok (.aload_n 0, 1) := by decide +kernel
theorem dX4_init_179 : decode cX4_init 179 = .ok (.iconst 2, 1) := by decide +kernel
theorem dX4_init_180 : decode cX4_init 180 = .ok (.iconst 3, 1) := by decide +kernel
theorem dX4_init_181 : decode cX4_init 181 = .ok (.invokevirtual 45, 3) := by decide +kernel
theorem dX4_init_184 : decode cX4_init 184 = .ok (.aload_n 0, 1) := by decide +kernel
theorem dX4_init_185 : decode cX4_init 185 = .ok (.iconst 3, 1) := by decide +kernel
theorem dX4_init_186 : decode cX4_init 186 = .ok (.iconst 1, 1) := by decide +kernel
theorem dX4_init_187 : decode cX4_init 187 = .ok (.invokevirtual 49, 3) := by decide +kernel
theorem dX4_init_190 : decode cX4_init 190 = .ok (.aload_n 0, 1) := by decide +kernel
theorem dX4_init_191 : decode cX4_init 191 = .ok (.iconst 5, 1) := by decide +kernel
theorem dX4_init_192 : decode cX4_init 192 = .ok (.bipush 9, 2) := by decide +kernel
theorem dX4_init_194 : decode cX4_init 194 = .ok (.invokevirtual 49, 3) := by decide +kernel
theorem dX4_init_197 : decode cX4_init 197 = .ok (.aload_n 0, 1) := by decide +kernel
theorem dX4_init_198 : decode cX4_init 198 = .ok (.iconst 3, 1) := by decide +kernel
theorem dX4_init_199 : decode cX4_init 199 = .ok (.bipush 12, 2) := by decide +kernel
theorem dX4_init_201 : decode cX4_init 201 = .ok (.invokevirtual 45, 3) := by decide +kernel
theorem dX4_init_204 : decode cX4_init 204 = .ok (.aload_n 0, 1) := by decide +kernel
theorem dX4_init_205 : decode cX4_init 205 = .ok (.iconst 0, 1) := by decide +kernel
theorem dX4_init_206 : decode cX4_init 206 = .ok (.iconst 3, 1) := by decide +kernel
theorem dX4_init_207 : decode cX4_init 207 = .ok (.invokevirtual 49, 3) := by decide +kernel
theorem dX4_init_210 : decode cX4_init 210 = .ok (.aload_n 0, 1) := by decide +kernel
theorem dX4_init_211 : decode cX4_init 211 = .ok (.iconst 1, 1) := by decide +kernel
theorem dX4_init_212 : decode cX4_init 212 = .ok (.bipush 7, 2) := by decide +kernel
theorem dX4_init_214 : decode cX4_init 214 = .ok (.invokevirtual 49, 3) := by decide +kernel
theorem dX4_init_217 : decode cX4_init 217 = .ok (.aload_n 0, 1) := by decide +kernel
theorem dX4_init_218 : decode cX4_init 218 = .ok (.iconst 3, 1) := by decide +kernel
theorem dX4_init_219 : decode cX4_init 219 = .ok (.bipush 6, 2) := by decide +kernel
theorem dX4_init_221 : decode cX4_init 221 = .ok (.invokevirtual 49, 3) := by decide +kernel
theorem dX4_init_224 : decode cX4_init 224 = .ok (.aload_n 0, 1) := by decide +kernel
theorem dX4_init_225 : decode cX4_init 225 = .ok (.iconst 0, 1) := by decide +kernel
theorem dX4_init_226 : decode cX4_init 226 = .ok (.bipush 8, 2) := by decide +kernel
theorem dX4_init_228 : decode cX4_init 228 = .ok (.invokevirtual 45, 3) := by decide +kernel
theorem dX4_init_231 : decode cX4_init 231 = .ok (.aload_n 0, 1) := by decide +kernel
theorem dX4_init_232 : decode cX4_init 232 = .ok (.iconst 4, 1) := by decide +kernel
theorem dX4_init_233 : decode cX4_init 233 = .ok (.putfield 52, 3) := by decide +kernel
theorem dX4_init_236 : decode cX4_init 236 = .ok (.aload_n 0, 1) := by decide +kernel
theorem dX4_init_237 : decode cX4_init 237 = .ok (.invokevirtual 55, 3) := by decide +kernel
theorem dX4_init_240 : decode cX4_init 240 = .ok (.return_, 1) := by decide +kernel
theorem dX4_in_0 : decode cX4_in 0 = .ok (.lload_n 0, 1) := by decide +kernel
theorem dX4_in_1 : decode cX4_in 1 = .ok (.lload_n 2, 1) := by decide +kernel
theorem dX4_in_2 : decode cX4_in 2 = .ok (.lcmp, 1) := by decide +kernel
theorem dX4_in_3 : decode cX4_in 3 = .ok (.ifCond .lt 14, 3) := by decide +kernel
theorem dX4_in_6 : decode cX4_in 6 = .ok (.lload_n 0, 1) := by decide +kernel
theorem dX4_in_7 : decode cX4_in 7 = .ok (.lload 4, 2) := by decide +kernel
theorem dX4_in_9 : decode cX4_in 9 = .ok (.lcmp, 1) := by decide +kernel
theorem dX4_in_10 : decode cX4_in 10 = .ok (.ifCond .gt 7, 3) := by decide +kernel
theorem dX4_in_13 : decode cX4_in 13 = .ok (.iconst 1, 1) := by decide +kernel
theorem dX4_in_14 : decode cX4_in 14 = .ok (.goto 4, 3) := by decide +kernel
theorem dX4_in_17 : decode cX4_in 17 = .ok (.iconst 0, 1) := by decide +kernel
theorem dX4_in_18 : decode cX4_in 18 = .ok (.ireturn, 1) := by decide +kernel
theorem dX4_smaller_0 : decode cX4_smaller 0 = .ok (.iload_n 0, 1) := by decide +kernel
theorem dX4_smaller_1 : decode cX4_smaller 1 = .ok (.iload_n 1, 1) := by decide +kernel
theorem dX4_smaller_2 : decode cX4_smaller 2 = .ok (.if_icmp .ge 7, 3) := by decide +kernel
theorem dX4_smaller_5 : decode cX4_smaller 5 = .ok (.iload_n 0, 1) := by decide +kernel
theorem dX4_smaller_6 : decode cX4_smaller 6 = .ok (.goto 4, 3) := by decide +kernel
theorem dX4_smaller_9 : decode cX4_smaller 9 = .ok (.iload_n 1, 1) := by decide +kernel
theorem dX4_smaller_10 : decode cX4_smaller 10 = .ok (.ireturn, 1) := by decide +kernel
theorem dX4_larger_0 : decode cX4_larger 0 = .ok (.iload_n 0, 1) := by decide +kernel
theorem dX4_larger_1 : decode cX4_larger 1 = .ok (.iload_n 1, 1) := by decide +kernel
theorem dX4_larger_2 : decode cX4_larger 2 = .ok (.if_icmp .ge 7, 3) := by decide +kernel
theorem dX4_larger_5 : decode cX4_larger 5 = .ok (.iload_n 1, 1) := by decide +kernel
theorem dX4_larger_6 : decode cX4_larger 6 = .ok (.goto 4, 3) := by decide +kernel
theorem dX4_larger_9 : decode cX4_larger 9 = .ok (.iload_n 0, 1) := by decide +kernel
theorem dX4_larger_10 : decode cX4_larger 10 = .ok (.ireturn, 1) := by decide +kernel
theorem dX4_bits_0 : decode cX4_bits 0 = .ok (.iconst 0, 1) := by decide +kernel
theorem dX4_bits_1 : decode cX4_bits 1 = .ok (.istore_n 1, 1) := by decide +kernel
theorem dX4_bits_2 : decode cX4_bits 2 = .ok (.iconst 0, 1) := by decide +kernel
theorem dX4_bits_3 : decode cX4_bits 3 = .ok (.istore_n 2, 1) := by decide +kernel
theorem dX4_bits_4 : decode cX4_bits 4 = .ok (.iload_n 2, 1) := by decide +kernel
theorem dX4_bits_5 : decode cX4_bits 5 = .ok (.bipush 8, 2) := by decide +kernel
theorem dX4_bits_7 : decode cX4_bits 7 = .ok (.if_icmp .ge 17, 3) := by decide +kernel
theorem dX4_bits_10 : decode cX4_bits 10 = .ok (.iload_n 1, 1) := by decide +kernel
theorem dX4_bits_11 : decode cX4_bits 11 = .ok (.iload_n 0, 1) := by decide +kernel
theorem dX4_bits_12 : decode cX4_bits 12 = .ok (.iload_n 2, 1) := by decide +kernel
theorem dX4_bits_13 : decode cX4_bits 13 = .ok (.ishr, 1) := by decide +kernel
theorem dX4_bits_14 : decode cX4_bits 14 = .ok (.iconst 1, 1) := by decide +kernel
theorem dX4_bits_15 : decode cX4_bits 15 = .ok (.iand, 1) := by decide +kernel
theorem dX4_bits_16 : decode cX4_bits 16 = .ok (.iadd, 1) := by decide +kernel
theorem dX4_bits_17 : decode cX4_bits 17 = .ok (.istore_n 1, 1) := by decide +kernel
theorem dX4_bits_18 : decode cX4_bits 18 = .ok (.iinc 2 1, 3) := by decide +kernel
theorem dX4_bits_21 : decode cX4_bits 21 = .ok (.goto (-17), 3) := by decide +kernel
theorem dX4_bits_24 : decode cX4_bits 24 = .ok (.iload_n 1, 1) := by decide +kernel
theorem dX4_bits_25 : decode cX4_bits 25 = .ok (.ireturn, 1) := by decide +kernel
theorem dX4_clears_0 : decode cX4_clears 0 = .ok (.aload_n 0, 1) := by decide +kernel
theorem dX4_clears_1 : decode cX4_clears 1 = .ok (.iconst 0, 1) := by decide +kernel
theorem dX4_clears_2 : decode cX4_clears 2 = .ok (.putfield 41, 3) := by decide +kernel
theorem dX4_clears_5 : decode cX4_clears 5 = .ok (.aload_n 0, 1) := by decide +kernel
theorem dX4_clears_6 : decode cX4_clears 6 = .ok (.iconst 0, 1) := by decide +kernel
theorem dX4_clears_7 : decode cX4_clears 7 = .ok (.putfield 58, 3) := by decide +kernel
theorem dX4_clears_10 : decode cX4_clears 10 = .ok (.aload_n 0, 1) := by decide +kernel
theorem dX4_clears_11 : decode cX4_clears 11 = .ok (.iconst 3, 1) := by decide +kernel
theorem dX4_clears_12 : decode cX4_clears 12 = .ok (.putfield 52, 3) := by decide +kernel
theorem dX4_clears_15 : decode cX4_clears 15 = .ok (.iconst 0, 1) := by decide +kernel
theorem dX4_clears_16 : decode cX4_clears 16 = .ok (.istore_n 1, 1) := by decide +kernel
theorem dX4_clears_17 : decode cX4_clears 17 = .ok (.iload_n 1, 1) := by decide +kernel
theorem dX4_clears_18 : decode cX4_clears 18 = .ok (.bipush 91, 2) := by decide +kernel
theorem dX4_clears_20 : decode cX4_clears 20 = .ok (.if_icmp .ge 47, 3) := by decide +kernel
theorem dX4_clears_23 : decode cX4_clears 23 = .ok (.aload_n 0, 1) := by decide +kernel
theorem dX4_clears_24 : decode cX4_clears 24 = .ok (.getfield 16, 3) := by decide +kernel
theorem dX4_clears_27 : decode cX4_clears 27 = .ok (.sipush 1001, 3) := by decide +kernel
theorem dX4_clears_30 : decode cX4_clears 30 = .ok (.iload_n 1, 1) := by decide +kernel
theorem dX4_clears_31 : decode cX4_clears 31 = .ok (.iadd, 1) := by decide +kernel
theorem dX4_clears_32 : decode cX4_clears 32 = .ok (.iload_n 1, 1) := by decide +kernel
theorem dX4_clears_33 : decode cX4_clears 33 = .ok (.bipush 90, 2) := by decide +kernel
theorem dX4_clears_35 : decode cX4_clears 35 = .ok (.if_icmp .ge 24, 3) := by decide +kernel
theorem dX4_clears_38 : decode cX4_clears 38 = .ok (.iload_n 1, 1) := by decide +kernel
theorem dX4_clears_39 : decode cX4_clears 39 = .ok (.bipush 18, 2) := by decide +kernel
theorem dX4_clears_41 : decode cX4_clears 41 = .ok (.irem, 1) := by decide +kernel
theorem dX4_clears_42 : decode cX4_clears 42 = .ok (.iconst 2, 1) := by decide +kernel
theorem dX4_clears_43 : decode cX4_clears 43 = .ok (.if_icmp .lt 16, 3) := by decide +kernel
theorem dX4_clears_46 : decode cX4_clears 46 = .ok (.iload_n 1, 1) := by decide +kernel
theorem dX4_clears_47 : decode cX4_clears 47 = .ok (.bipush 18, 2) := by decide +kernel
theorem dX4_clears_49 : decode cX4_clears 49 = .ok (.irem, 1) := by decide +kernel
theorem dX4_clears_50 : decode cX4_clears 50 = .ok (.bipush 10, 2) := by decide +kernel
theorem dX4_clears_52 : decode cX4_clears 52 = .ok (.if_icmp .ge 7, 3) := by decide +kernel
theorem dX4_clears_55 : decode cX4_clears 55 = .ok (.iconst (-1), 1) := by decide +kernel
theorem dX4_clears_56 : decode cX4_clears 56 = .ok (.goto 4, 3) := by decide +kernel
theorem dX4_clears_59 : decode cX4_clears 59 = .ok (.iconst 0, 1) := by decide +kernel
theorem dX4_clears_60 : decode cX4_clears 60 = .ok (.iastore, 1) := by decide +kernel
theorem dX4_clears_61 : decode cX4_clears 61 = .ok (.iinc 1 1, 3) := by decide +kernel
theorem dX4_clears_64 : decode cX4_clears 64 = .ok (.goto (-47), 3) := by decide +kernel
theorem dX4_clears_67 : decode cX4_clears 67 = .ok (.return_, 1) := by decide +kernel
theorem dX4_sits_0 : decode cX4_sits 0 = .ok (.aload_n 0, 1) := by decide +kernel
theorem dX4_sits_1 : decode cX4_sits 1 = .ok (.getfield 16, 3) := by decide +kernel
theorem dX4_sits_4 : decode cX4_sits 4 = .ok (.sipush 1001, 3) := by decide +kernel
theorem dX4_sits_7 : decode cX4_sits 7 = .ok (.bipush 18, 2) := by decide +kernel
theorem dX4_sits_9 : decode cX4_sits 9 = .ok (.aload_n 0, 1) := by decide +kernel
theorem dX4_sits_10 : decode cX4_sits 10 = .ok (.getfield 58, 3) := by decide +kernel
theorem dX4_sits_13 : decode cX4_sits 13 = .ok (.imul, 1) := by decide +kernel
theorem dX4_sits_14 : decode cX4_sits 14 = .ok (.iadd, 1) := by decide +kernel
theorem dX4_sits_15 : decode cX4_sits 15 = .ok (.iload_n 1, 1) := by decide +kernel
theorem dX4_sits_16 : decode cX4_sits 16 = .ok (.iastore, 1) := by decide +kernel
theorem dX4_sits_17 : decode cX4_sits 17 = .ok (.aload_n 0, 1) := by decide +kernel
theorem dX4_sits_18 : decode cX4_sits 18 = .ok (.getfield 16, 3) := by decide +kernel
theorem dX4_sits_21 : decode cX4_sits 21 = .ok (.sipush 1001, 3) := by decide +kernel
theorem dX4_sits_24 : decode cX4_sits 24 = .ok (.bipush 18, 2) := by decide +kernel
theorem dX4_sits_26 : decode cX4_sits 26 = .ok (.aload_n 0, 1) := by decide +kernel
theorem dX4_sits_27 : decode cX4_sits 27 = .ok (.getfield 58, 3) := by decide +kernel
theorem dX4_sits_30 : decode cX4_sits 30 = .ok (.imul, 1) := by decide +kernel
theorem dX4_sits_31 : decode cX4_sits 31 = .ok (.iadd, 1) := by decide +kernel
theorem dX4_sits_32 : decode cX4_sits 32 = .ok (.iconst 1, 1) := by decide +kernel
theorem dX4_sits_33 : decode cX4_sits 33 = .ok (.iadd, 1) := by decide +kernel
theorem dX4_sits_34 : decode cX4_sits 34 = .ok (.iload_n 2, 1) := by decide +kernel
theorem dX4_sits_35 : decode cX4_sits 35 = .ok (.iastore, 1) := by decide +kernel
theorem dX4_sits_36 : decode cX4_sits 36 = .ok (.aload_n 0, 1) := by decide +kernel
theorem dX4_sits_37 : decode cX4_sits 37 = .ok (.dup, 1) := by decide +kernel
theorem dX4_sits_38 : decode cX4_sits 38 = .ok (.getfield 58, 3) := by decide +kernel
theorem dX4_sits_41 : decode cX4_sits 41 = .ok (.iconst 1, 1) := by decide +kernel
theorem dX4_sits_42 : decode cX4_sits 42 = .ok (.iadd, 1) := by decide +kernel
theorem dX4_sits_43 : decode cX4_sits 43 = .ok (.putfield 58, 3) := by decide +kernel
theorem dX4_sits_46 : decode cX4_sits 46 = .ok (.return_, 1) := by decide +kernel
theorem dX4_has_0 : decode cX4_has 0 = .ok (.aload_n 0, 1) := by decide +kernel
theorem dX4_has_1 : decode cX4_has 1 = .ok (.getfield 16, 3) := by decide +kernel
theorem dX4_has_4 : decode cX4_has 4 = .ok (.sipush 1001, 3) := by decide +kernel
theorem dX4_has_7 : decode cX4_has 7 = .ok (.bipush 18, 2) := by decide +kernel
theorem dX4_has_9 : decode cX4_has 9 = .ok (.aload_n 0, 1) := by decide +kernel
theorem dX4_has_10 : decode cX4_has 10 = .ok (.getfield 58, 3) := by decide +kernel
theorem dX4_has_13 : decode cX4_has 13 = .ok (.iconst 1, 1) := by decide +kernel
theorem dX4_has_14 : decode cX4_has 14 = .ok (.isub, 1) := by decide +kernel
theorem dX4_has_15 : decode cX4_has 15 = .ok (.imul, 1) := by decide +kernel
theorem dX4_has_16 : decode cX4_has 16 = .ok (.iadd, 1) := by decide +kernel
theorem dX4_has_17 : decode cX4_has 17 = .ok (.iconst 2, 1) := by decide +kernel
theorem dX4_has_18 : decode cX4_has 18 = .ok (.iadd, 1) := by decide +kernel
theorem dX4_has_19 : decode cX4_has 19 = .ok (.iload_n 1, 1) := by decide +kernel
theorem dX4_has_20 : decode cX4_has 20 = .ok (.iadd, 1) := by decide +kernel
theorem dX4_has_21 : decode cX4_has 21 = .ok (.iload_n 2, 1) := by decide +kernel
theorem dX4_has_22 : decode cX4_has 22 = .ok (.iastore, 1) := by decide +kernel
theorem dX4_has_23 : decode cX4_has 23 = .ok (.return_, 1) := by decide +kernel
theorem dX4_settles_0 : decode cX4_settles 0 = .ok (.aload_n 0, 1) := by decide +kernel
theorem dX4_settles_1 : decode cX4_settles 1 = .ok (.aload_n 0, 1) := by decide +kernel
theorem dX4_settles_2 : decode cX4_settles 2 = .ok (.getfield 41, 3) := by decide +kernel
theorem dX4_settles_5 : decode cX4_settles 5 = .ok (.putfield 61, 3) := by decide +kernel
theorem dX4_settles_8 : decode cX4_settles 8 = .ok (.aload_n 0, 1) := by decide +kernel
theorem dX4_settles_9 : decode cX4_settles 9 = .ok (.aload_n 0, 1) := by decide +kernel
theorem dX4_settles_10 : decode cX4_settles 10 = .ok (.getfield 58, 3) := by decide +kernel
theorem dX4_settles_13 : decode cX4_settles 13 = .ok (.putfield 64, 3) := by decide +kernel
theorem dX4_settles_16 : decode cX4_settles 16 = .ok (.aload_n 0, 1) := by decide +kernel
theorem dX4_settles_17 : decode cX4_settles 17 = .ok (.aload_n 0, 1) := by decide +kernel
theorem dX4_settles_18 : decode cX4_settles 18 = .ok (.getfield 52, 3) := by decide +kernel
theorem dX4_settles_21 : decode cX4_settles 21 = .ok (.putfield 67, 3) := by decide +kernel
theorem dX4_settles_24 : decode cX4_settles 24 = .ok (.iconst 0, 1) := by decide +kernel
theorem dX4_settles_25 : decode cX4_settles 25 = .ok (.istore_n 1, 1) := by decide +kernel
theorem dX4_settles_26 : decode cX4_settles 26 = .ok (.iload_n 1, 1) := by decide +kernel
theorem dX4_settles_27 : decode cX4_settles 27 = .ok (.bipush 8, 2) := by decide +kernel
theorem dX4_settles_29 : decode cX4_settles 29 = .ok (.if_icmp .ge 21, 3) := by decide +kernel
theorem dX4_settles_32 : decode cX4_settles 32 = .ok (.aload_n 0, 1) := by decide +kernel
theorem dX4_settles_33 : decode cX4_settles 33 = .ok (.getfield 7, 3) := by decide +kernel
theorem dX4_settles_36 : decode cX4_settles 36 = .ok (.iload_n 1, 1) := by decide +kernel
theorem dX4_settles_37 : decode cX4_settles 37 = .ok (.aload_n 0, 1) := by decide +kernel
theorem dX4_settles_38 : decode cX4_settles 38 = .ok (.getfield 13, 3) := by decide +kernel
theorem dX4_settles_41 : decode cX4_settles 41 = .ok (.iload_n 1, 1) := by decide +kernel
theorem dX4_settles_42 : decode cX4_settles 42 = .ok (.iaload, 1) := by decide +kernel
theorem dX4_settles_43 : decode cX4_settles 43 = .ok (.iastore, 1) := by decide +kernel
theorem dX4_settles_44 : decode cX4_settles 44 = .ok (.iinc 1 1, 3) := by decide +kernel
theorem dX4_settles_47 : decode cX4_settles 47 = .ok (.goto (-21), 3) := by decide +kernel
theorem dX4_settles_50 : decode cX4_settles 50 = .ok (.aload_n 0, 1) := by decide +kernel
theorem dX4_settles_51 : decode cX4_settles 51 = .ok (.sipush 1001, 3) := by decide +kernel
theorem dX4_settles_54 : decode cX4_settles 54 = .ok (.iconst 0, 1) := by decide +kernel
theorem dX4_settles_55 : decode cX4_settles 55 = .ok (.invokevirtual 70, 3) := by decide +kernel
theorem dX4_settles_58 : decode cX4_settles 58 = .ok (.return_, 1) := by decide +kernel
theorem dX4_copies_0 : decode cX4_copies 0 = .ok (.iconst 0, 1) := by decide +kernel
theorem dX4_copies_1 : decode cX4_copies 1 = .ok (.istore_n 3, 1) := by decide +kernel
theorem dX4_copies_2 : decode cX4_copies 2 = .ok (.iload_n 3, 1) := by decide +kernel
theorem dX4_copies_3 : decode cX4_copies 3 = .ok (.bipush 91, 2) := by decide +kernel
theorem dX4_copies_5 : decode cX4_copies 5 = .ok (.if_icmp .ge 25, 3) := by decide +kernel
theorem dX4_copies_8 : decode cX4_copies 8 = .ok (.aload_n 0, 1) := by decide +kernel
theorem dX4_copies_9 : decode cX4_copies 9 = .ok (.getfield 16, 3) := by decide +kernel
theorem dX4_copies_12 : decode cX4_copies 12 = .ok (.iload_n 2, 1) := by decide +kernel
theorem dX4_copies_13 : decode cX4_copies 13 = .ok (.iload_n 3, 1) := by decide +kernel
theorem dX4_copies_14 : decode cX4_copies 14 = .ok (.iadd, 1) := by decide +kernel
theorem dX4_copies_15 : decode cX4_copies 15 = .ok (.aload_n 0, 1) := by decide +kernel
theorem dX4_copies_16 : decode cX4_copies 16 = .ok (.getfield 16, 3) := by decide +kernel
theorem dX4_copies_19 : decode cX4_copies 19 = .ok (.iload_n 1, 1) := by decide +kernel
theorem dX4_copies_20 : decode cX4_copies 20 = .ok (.iload_n 3, 1) := by decide +kernel
theorem dX4_copies_21 : decode cX4_copies 21 = .ok (.iadd, 1) := by decide +kernel
theorem dX4_copies_22 : decode cX4_copies 22 = .ok (.iaload, 1) := by decide +kernel
theorem dX4_copies_23 : decode cX4_copies 23 = .ok (.iastore, 1) := by decide +kernel
theorem dX4_copies_24 : decode cX4_copies 24 = .ok (.iinc 3 1, 3) := by decide +kernel
theorem dX4_copies_27 : decode cX4_copies 27 = .ok (.goto (-25), 3) := by decide +kernel
theorem dX4_copies_30 : decode cX4_copies 30 = .ok (.return_, 1) := by decide +kernel
theorem dX4_isWord_0 : decode cX4_isWord 0 = .ok (.iload_n 1, 1) := by decide +kernel
theorem dX4_isWord_1 : decode cX4_isWord 1 = .ok (.i2l, 1) := by decide +kernel
theorem dX4_isWord_2 : decode cX4_isWord 2 = .ok (.lconst 0, 1) := by decide +kernel
theorem dX4_isWord_3 : decode cX4_isWord 3 = .ok (.aload_n 0, 1) := by decide +kernel
theorem dX4_isWord_4 : decode cX4_isWord 4 = .ok (.getfield 61, 3) := by decide +kernel
theorem dX4_isWord_7 : decode cX4_isWord 7 = .ok (.iconst 1, 1) := by decide +kernel
theorem dX4_isWord_8 : decode cX4_isWord 8 = .ok (.isub, 1) := by decide +kernel
theorem dX4_isWord_9 : decode cX4_isWord 9 = .ok (.i2l, 1) := by decide +kernel
theorem dX4_isWord_10 : decode cX4_isWord 10 = .ok (.invokestatic 73, 3) := by decide +kernel
theorem dX4_isWord_13 : decode cX4_isWord 13 = .ok (.ireturn, 1) := by decide +kernel
theorem dX4_isOne_0 : decode cX4_isOne 0 = .ok (.iload_n 1, 1) := by decide +kernel
theorem dX4_isOne_1 : decode cX4_isOne 1 = .ok (.i2l, 1) := by decide +kernel
theorem dX4_isOne_2 : decode cX4_isOne 2 = .ok (.lconst 0, 1) := by decide +kernel
theorem dX4_isOne_3 : decode cX4_isOne 3 = .ok (.aload_n 0, 1) := by decide +kernel
theorem dX4_isOne_4 : decode cX4_isOne 4 = .ok (.getfield 64, 3) := by decide +kernel
theorem dX4_isOne_7 : decode cX4_isOne 7 = .ok (.iconst 1, 1) := by decide +kernel
theorem dX4_isOne_8 : decode cX4_isOne 8 = .ok (.isub, 1) := by decide +kernel
theorem dX4_isOne_9 : decode cX4_isOne 9 = .ok (.i2l, 1) := by decide +kernel
theorem dX4_isOne_10 : decode cX4_isOne 10 = .ok (.invokestatic 73, 3) := by decide +kernel
theorem dX4_isOne_13 : decode cX4_isOne 13 = .ok (.ireturn, 1) := by decide +kernel
theorem dX4_write_0 : decode cX4_write 0 = .ok (.iload_n 1, 1) := by decide +kernel
theorem dX4_write_1 : decode cX4_write 1 = .ok (.i2l, 1) := by decide +kernel
theorem dX4_write_2 : decode cX4_write 2 = .ok (.ldc2_w 77, 3) := by decide +kernel
theorem dX4_write_5 : decode cX4_write 5 = .ok (.ldc2_w 79, 3) := by decide +kernel
theorem dX4_write_8 : decode cX4_write 8 = .ok (.invokestatic 73, 3) := by decide +kernel
theorem dX4_write_11 : decode cX4_write 11 = .ok (.ifCond .ne 5, 3) := by decide +kernel
theorem dX4_write_14 : decode cX4_write 14 = .ok (.iconst (-1), 1) := by decide +kernel
theorem dX4_write_15 : decode cX4_write 15 = .ok (.ireturn, 1) := by decide +kernel
theorem dX4_write_16 : decode cX4_write 16 = .ok (.aload_n 0, 1) := by decide +kernel
theorem dX4_write_17 : decode cX4_write 17 = .ok (.getfield 81, 3) := by decide +kernel
theorem dX4_write_20 : decode cX4_write 20 = .ok (.sipush 200, 3) := by decide +kernel
theorem dX4_write_23 : decode cX4_write 23 = .ok (.if_icmp .ne 6, 3) := by decide +kernel
theorem dX4_write_26 : decode cX4_write 26 = .ok (.bipush (-3), 2) := by decide +kernel
theorem dX4_write_28 : decode cX4_write 28 = .ok (.ireturn, 1) := by decide +kernel
theorem dX4_write_29 : decode cX4_write 29 = .ok (.aload_n 0, 1) := by decide +kernel
theorem dX4_write_30 : decode cX4_write 30 = .ok (.getfield 19, 3) := by decide +kernel
theorem dX4_write_33 : decode cX4_write 33 = .ok (.aload_n 0, 1) := by decide +kernel
theorem dX4_write_34 : decode cX4_write 34 = .ok (.getfield 81, 3) := by decide +kernel
theorem dX4_write_37 : decode cX4_write 37 = .ok (.iload_n 1, 1) := by decide +kernel
theorem dX4_write_38 : decode cX4_write 38 = .ok (.i2b, 1) := by decide +kernel
theorem dX4_write_39 : decode cX4_write 39 = .ok (.bastore, 1) := by decide +kernel
theorem dX4_write_40 : decode cX4_write 40 = .ok (.aload_n 0, 1) := by decide +kernel
theorem dX4_write_41 : decode cX4_write 41 = .ok (.dup, 1) := by decide +kernel
theorem dX4_write_42 : decode cX4_write 42 = .ok (.getfield 81, 3) := by decide +kernel
theorem dX4_write_45 : decode cX4_write 45 = .ok (.iconst 1, 1) := by decide +kernel
theorem dX4_write_46 : decode cX4_write 46 = .ok (.iadd, 1) := by decide +kernel
theorem dX4_write_47 : decode cX4_write 47 = .ok (.putfield 81, 3) := by decide +kernel
theorem dX4_write_50 : decode cX4_write 50 = .ok (.aload_n 0, 1) := by decide +kernel
theorem dX4_write_51 : decode cX4_write 51 = .ok (.getfield 81, 3) := by decide +kernel
theorem dX4_write_54 : decode cX4_write 54 = .ok (.ireturn, 1) := by decide +kernel
theorem dX4_wipe_0 : decode cX4_wipe 0 = .ok (.aload_n 0, 1) := by decide +kernel
theorem dX4_wipe_1 : decode cX4_wipe 1 = .ok (.getfield 81, 3) := by decide +kernel
theorem dX4_wipe_4 : decode cX4_wipe 4 = .ok (.istore_n 1, 1) := by decide +kernel
theorem dX4_wipe_5 : decode cX4_wipe 5 = .ok (.aload_n 0, 1) := by decide +kernel
theorem dX4_wipe_6 : decode cX4_wipe 6 = .ok (.iconst 0, 1) := by decide +kernel
theorem dX4_wipe_7 : decode cX4_wipe 7 = .ok (.putfield 81, 3) := by decide +kernel
theorem dX4_wipe_10 : decode cX4_wipe 10 = .ok (.iload_n 1, 1) := by decide +kernel
theorem dX4_wipe_11 : decode cX4_wipe 11 = .ok (.ireturn, 1) := by decide +kernel
theorem dX4_next_0 : decode cX4_next 0 = .ok (.aload_n 0, 1) := by decide +kernel
theorem dX4_next_1 : decode cX4_next 1 = .ok (.getfield 84, 3) := by decide +kernel
theorem dX4_next_4 : decode cX4_next 4 = .ok (.aload_n 0, 1) := by decide +kernel
theorem dX4_next_5 : decode cX4_next 5 = .ok (.getfield 81, 3) := by decide +kernel
theorem dX4_next_8 : decode cX4_next 8 = .ok (.if_icmp .ge 15, 3) := by decide +kernel
theorem dX4_next_11 : decode cX4_next 11 = .ok (.aload_n 0, 1) := by decide +kernel
theorem dX4_next_12 : decode cX4_next 12 = .ok (.getfield 19, 3) := by decide +kernel
theorem dX4_next_15 : decode cX4_next 15 = .ok (.aload_n 0, 1) := by decide +kernel
theorem dX4_next_16 : decode cX4_next 16 = .ok (.getfield 84, 3) := by decide +kernel
theorem dX4_next_19 : decode cX4_next 19 = .ok (.baload, 1) := by decide +kernel
theorem dX4_next_20 : decode cX4_next 20 = .ok (.goto 4, 3) := by decide +kernel
theorem dX4_next_23 : decode cX4_next 23 = .ok (.iconst (-1), 1) := by decide +kernel
theorem dX4_next_24 : decode cX4_next 24 = .ok (.ireturn, 1) := by decide +kernel
theorem dX4_number_0 : decode cX4_number 0 = .ok (.iconst 0, 1) := by decide +kernel
theorem dX4_number_1 : decode cX4_number 1 = .ok (.istore_n 3, 1) := by decide +kernel
theorem dX4_number_2 : decode cX4_number 2 = .ok (.iconst 0, 1) := by decide +kernel
theorem dX4_number_3 : decode cX4_number 3 = .ok (.istore 4, 2) := by decide +kernel
theorem dX4_number_5 : decode cX4_number 5 = .ok (.aload_n 0, 1) := by decide +kernel
theorem dX4_number_6 : decode cX4_number 6 = .ok (.invokevirtual 87, 3) := by decide +kernel
theorem dX4_number_9 : decode cX4_number 9 = .ok (.i2l, 1) := by decide +kernel
theorem dX4_number_10 : decode cX4_number 10 = .ok (.ldc2_w 91, 3) := by decide +kernel
theorem dX4_number_13 : decode cX4_number 13 = .ok (.ldc2_w 93, 3) := by decide +kernel
theorem dX4_number_16 : decode cX4_number 16 = .ok (.invokestatic 73, 3) := by decide +kernel
theorem dX4_number_19 : decode cX4_number 19 = .ok (.ifCond .eq 38, 3) := by decide +kernel
theorem dX4_number_22 : decode cX4_number 22 = .ok (.iload 4, 2) := by decide +kernel
theorem dX4_number_24 : decode cX4_number 24 = .ok (.iconst 3, 1) := by decide +kernel
theorem dX4_number_25 : decode cX4_number 25 = .ok (.if_icmp .ge 32, 3) := by decide +kernel
theorem dX4_number_28 : decode cX4_number 28 = .ok (.bipush 10, 2) := by decide +kernel
theorem dX4_number_30 : decode cX4_number 30 = .ok (.iload_n 3, 1) := by decide +kernel
theorem dX4_number_31 : decode cX4_number 31 = .ok (.imul, 1) := by decide +kernel
theorem dX4_number_32 : decode cX4_number 32 = .ok (.aload_n 0, 1) := by decide +kernel
theorem dX4_number_33 : decode cX4_number 33 = .ok (.invokevirtual 87, 3) := by decide +kernel
theorem dX4_number_36 : decode cX4_number 36 = .ok (.iadd, 1) := by decide +kernel
theorem dX4_number_37 : decode cX4_number 37 = .ok (.bipush 48, 2) := by decide +kernel
theorem dX4_number_39 : decode cX4_number 39 = .ok (.isub, 1) := by decide +kernel
theorem dX4_number_40 : decode cX4_number 40 = .ok (.istore_n 3, 1) := by decide +kernel
theorem dX4_number_41 : decode cX4_number 41 = .ok (.iinc 4 1, 3) := by decide +kernel
theorem dX4_number_44 : decode cX4_number 44 = .ok (.aload_n 0, 1) := by decide +kernel
theorem dX4_number_45 : decode cX4_number 45 = .ok (.dup, 1) := by decide +kernel
theorem dX4_number_46 : decode cX4_number 46 = .ok (.getfield 84, 3) := by decide +kernel
theorem dX4_number_49 : decode cX4_number 49 = .ok (.iconst 1, 1) := by decide +kernel
theorem dX4_number_50 : decode cX4_number 50 = .ok (.iadd, 1) := by decide +kernel
theorem dX4_number_51 : decode cX4_number 51 = .ok (.putfield 84, 3) := by decide +kernel
theorem dX4_number_54 : decode cX4_number 54 = .ok (.goto (-49), 3) := by decide +kernel
theorem dX4_number_57 : decode cX4_number 57 = .ok (.aload_n 0, 1) := by decide +kernel
theorem dX4_number_58 : decode cX4_number 58 = .ok (.aload_n 0, 1) := by decide +kernel
theorem dX4_number_59 : decode cX4_number 59 = .ok (.getfield 95, 3) := by decide +kernel
theorem dX4_number_62 : decode cX4_number 62 = .ok (.ifCond .ne 26, 3) := by decide +kernel
theorem dX4_number_65 : decode cX4_number 65 = .ok (.iload 4, 2) := by decide +kernel
theorem dX4_number_67 : decode cX4_number 67 = .ok (.ifCond .eq 21, 3) := by decide +kernel
theorem dX4_number_70 : decode cX4_number 70 = .ok (.iload 4, 2) := by decide +kernel
theorem dX4_number_72 : decode cX4_number 72 = .ok (.iconst 2, 1) := by decide +kernel
theorem dX4_number_73 : decode cX4_number 73 = .ok (.if_icmp .gt 15, 3) := by decide +kernel
theorem dX4_number_76 : decode cX4_number 76 = .ok (.iload_n 3, 1) := by decide +kernel
theorem dX4_number_77 : decode cX4_number 77 = .ok (.i2l, 1) := by decide +kernel
theorem dX4_number_78 : decode cX4_number 78 = .ok (.iload_n 1, 1) := by decide +kernel
theorem dX4_number_79 : decode cX4_number 79 = .ok (.i2l, 1) := by decide +kernel
theorem dX4_number_80 : decode cX4_number 80 = .ok (.iload_n 2, 1) := by decide +kernel
theorem dX4_number_81 : decode cX4_number 81 = .ok (.i2l, 1) := by decide +kernel
theorem dX4_number_82 : decode cX4_number 82 = .ok (.invokestatic 73, 3) := by decide +kernel
theorem dX4_number_85 : decode cX4_number 85 = .ok (.ifCond .ne 7, 3) := by decide +kernel
theorem dX4_number_88 : decode cX4_number 88 = .ok (.iconst 1, 1) := by decide +kernel
theorem dX4_number_89 : decode cX4_number 89 = .ok (.goto 4, 3) := by decide +kernel
theorem dX4_number_92 : decode cX4_number 92 = .ok (.iconst 0, 1) := by decide +kernel
theorem dX4_number_93 : decode cX4_number 93 = .ok (.putfield 95, 3) := by decide +kernel
theorem dX4_number_96 : decode cX4_number 96 = .ok (.aload_n 0, 1) := by decide +kernel
theorem dX4_number_97 : decode cX4_number 97 = .ok (.getfield 95, 3) := by decide +kernel
theorem dX4_number_100 : decode cX4_number 100 = .ok (.ifCond .eq 7, 3) := by decide +kernel
theorem dX4_number_103 : decode cX4_number 103 = .ok (.iconst 0, 1) := by decide +kernel
theorem dX4_number_104 : decode cX4_number 104 = .ok (.goto 4, 3) := by decide +kernel
theorem dX4_number_107 : decode cX4_number 107 = .ok (.iload_n 3, 1) := by decide +kernel
theorem dX4_number_108 : decode cX4_number 108 = .ok (.ireturn, 1) := by decide +kernel
theorem dX4_more_0 : decode cX4_more 0 = .ok (.aload_n 0, 1) := by decide +kernel
theorem dX4_more_1 : decode cX4_more 1 = .ok (.aload_n 0, 1) := by decide +kernel
theorem dX4_more_2 : decode cX4_more 2 = .ok (.getfield 95, 3) := by decide +kernel
theorem dX4_more_5 : decode cX4_more 5 = .ok (.ifCond .ne 12, 3) := by decide +kernel
theorem dX4_more_8 : decode cX4_more 8 = .ok (.aload_n 0, 1) := by decide +kernel
theorem dX4_more_9 : decode cX4_more 9 = .ok (.invokevirtual 87, 3) := by decide +kernel
theorem dX4_more_12 : decode cX4_more 12 = .ok (.bipush 44, 2) := by decide +kernel
theorem dX4_more_14 : decode cX4_more 14 = .ok (.if_icmp .eq 7, 3) := by decide +kernel
theorem dX4_more_17 : decode cX4_more 17 = .ok (.iconst 1, 1) := by decide +kernel
theorem dX4_more_18 : decode cX4_more 18 = .ok (.goto 4, 3) := by decide +kernel
theorem dX4_more_21 : decode cX4_more 21 = .ok (.iconst 0, 1) := by decide +kernel
theorem dX4_more_22 : decode cX4_more 22 = .ok (.putfield 95, 3) := by decide +kernel
theorem dX4_more_25 : decode cX4_more 25 = .ok (.aload_n 0, 1) := by decide +kernel
theorem dX4_more_26 : decode cX4_more 26 = .ok (.dup, 1) := by decide +kernel
theorem dX4_more_27 : decode cX4_more 27 = .ok (.getfield 84, 3) := by decide +kernel
theorem dX4_more_30 : decode cX4_more 30 = .ok (.iconst 1, 1) := by decide +kernel
theorem dX4_more_31 : decode cX4_more 31 = .ok (.iadd, 1) := by decide +kernel
theorem dX4_more_32 : decode cX4_more 32 = .ok (.putfield 84, 3) := by decide +kernel
theorem dX4_more_35 : decode cX4_more 35 = .ok (.aload_n 0, 1) := by decide +kernel
theorem dX4_more_36 : decode cX4_more 36 = .ok (.getfield 95, 3) := by decide +kernel
theorem dX4_more_39 : decode cX4_more 39 = .ok (.ifCond .eq 7, 3) := by decide +kernel
theorem dX4_more_42 : decode cX4_more 42 = .ok (.iconst 0, 1) := by decide +kernel
theorem dX4_more_43 : decode cX4_more 43 = .ok (.goto 9, 3) := by decide +kernel
theorem dX4_more_46 : decode cX4_more 46 = .ok (.aload_n 0, 1) := by decide +kernel
theorem dX4_more_47 : decode cX4_more 47 = .ok (.iload_n 1, 1) := by decide +kernel
theorem dX4_more_48 : decode cX4_more 48 = .ok (.iload_n 2, 1) := by decide +kernel
theorem dX4_more_49 : decode cX4_more 49 = .ok (.invokevirtual 99, 3) := by decide +kernel
theorem dX4_more_52 : decode cX4_more 52 = .ok (.ireturn, 1) := by decide +kernel
theorem dX4_tongueItem_0 : decode cX4_tongueItem 0 = .ok (.iconst 0, 1) := by decide +kernel
theorem dX4_tongueItem_1 : decode cX4_tongueItem 1 = .ok (.istore_n 1, 1) := by decide +kernel
theorem dX4_tongueItem_2 : decode cX4_tongueItem 2 = .ok (.aload_n 0, 1) := by decide +kernel
theorem dX4_tongueItem_3 : decode cX4_tongueItem 3 = .ok (.invokevirtual 87, 3) := by decide +kernel
theorem dX4_tongueItem_6 : decode cX4_tongueItem 6 = .ok (.i2l, 1) := by decide +kernel
theorem dX4_tongueItem_7 : decode cX4_tongueItem 7 = .ok (.ldc2_w 91, 3) := by decide +kernel
theorem dX4_tongueItem_10 : decode cX4_tongueItem 10 = .ok (.ldc2_w 93, 3) := by decide +kernel
theorem dX4_tongueItem_13 : decode cX4_tongueItem 13 = .ok (.invokestatic 73, 3) := by decide +kernel
theorem dX4_tongueItem_16 : decode cX4_tongueItem 16 = .ok (.ifCond .eq 43, 3) := by decide +kernel
theorem dX4_tongueItem_19 : decode cX4_tongueItem 19 = .ok (.iload_n 1, 1) := by decide +kernel
theorem dX4_tongueItem_20 : decode cX4_tongueItem 20 = .ok (.bipush 9, 2) := by decide +kernel
theorem dX4_tongueItem_22 : decode cX4_tongueItem 22 = .ok (.if_icmp .ge 37, 3) := by decide +kernel
theorem dX4_tongueItem_25 : decode cX4_tongueItem 25 = .ok (.aload_n 0, 1) := by decide +kernel
theorem dX4_tongueItem_26 : decode cX4_tongueItem 26 = .ok (.getfield 13, 3) := by decide +kernel
theorem dX4_tongueItem_29 : decode cX4_tongueItem 29 = .ok (.bipush 7, 2) := by decide +kernel
theorem dX4_tongueItem_31 : decode cX4_tongueItem 31 = .ok (.iload_n 1, 1) := by decide +kernel
theorem dX4_tongueItem_32 : decode cX4_tongueItem 32 = .ok (.invokestatic 103, 3) := by decide +kernel
theorem dX4_tongueItem_35 : decode cX4_tongueItem 35 = .ok (.aload_n 0, 1) := by decide +kernel
theorem dX4_tongueItem_36 : decode cX4_tongueItem 36 = .ok (.invokevirtual 87, 3) := by decide +kernel
theorem dX4_tongueItem_39 : decode cX4_tongueItem 39 = .ok (.bipush 48, 2) := by decide +kernel
theorem dX4_tongueItem_41 : decode cX4_tongueItem 41 = .ok (.isub, 1) := by decide +kernel
theorem dX4_tongueItem_42 : decode cX4_tongueItem 42 = .ok (.iastore, 1) := by decide +kernel
theorem dX4_tongueItem_43 : decode cX4_tongueItem 43 = .ok (.iinc 1 1, 3) := by decide +kernel
theorem dX4_tongueItem_46 : decode cX4_tongueItem 46 = .ok (.aload_n 0, 1) := by decide +kernel
theorem dX4_tongueItem_47 : decode cX4_tongueItem 47 = .ok (.dup, 1) := by decide +kernel
theorem dX4_tongueItem_48 : decode cX4_tongueItem 48 = .ok (.getfield 84, 3) := by decide +kernel
theorem dX4_tongueItem_51 : decode cX4_tongueItem 51 = .ok (.iconst 1, 1) := by decide +kernel
theorem dX4_tongueItem_52 : decode cX4_tongueItem 52 = .ok (.iadd, 1) := by decide +kernel
theorem dX4_tongueItem_53 : decode cX4_tongueItem 53 = .ok (.putfield 84, 3) := by decide +kernel
theorem dX4_tongueItem_56 : decode cX4_tongueItem 56 = .ok (.goto (-54), 3) := by decide +kernel
theorem dX4_tongueItem_59 : decode cX4_tongueItem 59 = .ok (.aload_n 0, 1) := by decide +kernel
theorem dX4_tongueItem_60 : decode cX4_tongueItem 60 = .ok (.iload_n 1, 1) := by decide +kernel
theorem dX4_tongueItem_61 : decode cX4_tongueItem 61 = .ok (.i2l, 1) := by decide +kernel
theorem dX4_tongueItem_62 : decode cX4_tongueItem 62 = .ok (.lconst 1, 1) := by decide +kernel
theorem dX4_tongueItem_63 : decode cX4_tongueItem 63 = .ok (.ldc2_w 106, 3) := by decide +kernel
theorem dX4_tongueItem_66 : decode cX4_tongueItem 66 = .ok (.invokestatic 73, 3) := by decide +kernel
theorem dX4_tongueItem_69 : decode cX4_tongueItem 69 = .ok (.ifCond .ne 7, 3) := by decide +kernel
theorem dX4_tongueItem_72 : decode cX4_tongueItem 72 = .ok (.iconst 1, 1) := by decide +kernel
theorem dX4_tongueItem_73 : decode cX4_tongueItem 73 = .ok (.goto 4, 3) := by decide +kernel
theorem dX4_tongueItem_76 : decode cX4_tongueItem 76 = .ok (.iconst 0, 1) := by decide +kernel
theorem dX4_tongueItem_77 : decode cX4_tongueItem 77 = .ok (.putfield 95, 3) := by decide +kernel
theorem dX4_tongueItem_80 : decode cX4_tongueItem 80 = .ok (.aload_n 0, 1) := by decide +kernel
theorem dX4_tongueItem_81 : decode cX4_tongueItem 81 = .ok (.iload_n 1, 1) := by decide +kernel
theorem dX4_tongueItem_82 : decode cX4_tongueItem 82 = .ok (.putfield 41, 3) := by decide +kernel
theorem dX4_tongueItem_85 : decode cX4_tongueItem 85 = .ok (.return_, 1) := by decide +kernel
theorem dX4_wooerItem_0 : decode cX4_wooerItem 0 = .ok (.aload_n 0, 1) := by decide +kernel
theorem dX4_wooerItem_1 : decode cX4_wooerItem 1 = .ok (.aload_n 0, 1) := by decide +kernel
theorem dX4_wooerItem_2 : decode cX4_wooerItem 2 = .ok (.getfield 58, 3) := by decide +kernel
theorem dX4_wooerItem_5 : decode cX4_wooerItem 5 = .ok (.iconst 5, 1) := by decide +kernel
theorem dX4_wooerItem_6 : decode cX4_wooerItem 6 = .ok (.if_icmp .eq 10, 3) := by decide +kernel
theorem dX4_wooerItem_9 : decode cX4_wooerItem 9 = .ok (.aload_n 0, 1) := by decide +kernel
theorem dX4_wooerItem_10 : decode cX4_wooerItem 10 = .ok (.getfield 41, 3) := by decide +kernel
theorem dX4_wooerItem_13 : decode cX4_wooerItem 13 = .ok (.ifCond .ne 7, 3) := by decide +kernel
theorem dX4_wooerItem_16 : decode cX4_wooerItem 16 = .ok (.iconst 1, 1) := by decide +kernel
theorem dX4_wooerItem_17 : decode cX4_wooerItem 17 = .ok (.goto 4, 3) := by decide +kernel
theorem dX4_wooerItem_20 : decode cX4_wooerItem 20 = .ok (.iconst 0, 1) := by decide +kernel
theorem dX4_wooerItem_21 : decode cX4_wooerItem 21 = .ok (.putfield 95, 3) := by decide +kernel
theorem dX4_wooerItem_24 : decode cX4_wooerItem 24 = .ok (.aload_n 0, 1) := by decide +kernel
theorem dX4_wooerItem_25 : decode cX4_wooerItem 25 = .ok (.getfield 95, 3) := by decide +kernel
theorem dX4_wooerItem_28 : decode cX4_wooerItem 28 = .ok (.ifCond .eq 7, 3) := by decide +kernel
theorem dX4_wooerItem_31 : decode cX4_wooerItem 31 = .ok (.iconst 0, 1) := by decide +kernel
theorem dX4_wooerItem_32 : decode cX4_wooerItem 32 = .ok (.goto 9, 3) := by decide +kernel
theorem dX4_wooerItem_35 : decode cX4_wooerItem 35 = .ok (.aload_n 0, 1) := by decide +kernel
theorem dX4_wooerItem_36 : decode cX4_wooerItem 36 = .ok (.iconst 0, 1) := by decide +kernel
theorem dX4_wooerItem_37 : decode cX4_wooerItem 37 = .ok (.iconst 3, 1) := by decide +kernel
theorem dX4_wooerItem_38 : decode cX4_wooerItem 38 = .ok (.invokevirtual 99, 3) := by decide +kernel
theorem dX4_wooerItem_41 : decode cX4_wooerItem 41 = .ok (.istore_n 1, 1) := by decide +kernel
theorem dX4_wooerItem_42 : decode cX4_wooerItem 42 = .ok (.aload_n 0, 1) := by decide +kernel
theorem dX4_wooerItem_43 : decode cX4_wooerItem 43 = .ok (.iconst 1, 1) := by decide +kernel
theorem dX4_wooerItem_44 : decode cX4_wooerItem 44 = .ok (.bipush 30, 2) := by decide +kernel
theorem dX4_wooerItem_46 : decode cX4_wooerItem 46 = .ok (.invokevirtual 108, 3) := by decide +kernel
theorem dX4_wooerItem_49 : decode cX4_wooerItem 49 = .ok (.istore_n 2, 1) := by decide +kernel
theorem dX4_wooerItem_50 : decode cX4_wooerItem 50 = .ok (.aload_n 0, 1) := by decide +kernel
theorem dX4_wooerItem_51 : decode cX4_wooerItem 51 = .ok (.aload_n 0, 1) := by decide +kernel
theorem dX4_wooerItem_52 : decode cX4_wooerItem 52 = .ok (.getfield 95, 3) := by decide +kernel
theorem dX4_wooerItem_55 : decode cX4_wooerItem 55 = .ok (.ifCond .ne 12, 3) := by decide +kernel
theorem dX4_wooerItem_58 : decode cX4_wooerItem 58 = .ok (.aload_n 0, 1) := by decide +kernel
theorem dX4_wooerItem_59 : decode cX4_wooerItem 59 = .ok (.invokevirtual 87, 3) := by decide +kernel
theorem dX4_wooerItem_62 : decode cX4_wooerItem 62 = .ok (.bipush 44, 2) := by decide +kernel
theorem dX4_wooerItem_64 : decode cX4_wooerItem 64 = .ok (.if_icmp .eq 7, 3) := by decide +kernel
theorem dX4_wooerItem_67 : decode cX4_wooerItem 67 = .ok (.iconst 1, 1) := by decide +kernel
theorem dX4_wooerItem_68 : decode cX4_wooerItem 68 = .ok (.goto 4, 3) := by decide +kernel
theorem dX4_wooerItem_71 : decode cX4_wooerItem 71 = .ok (.iconst 0, 1) := by decide +kernel
theorem dX4_wooerItem_72 : decode cX4_wooerItem 72 = .ok (.putfield 95, 3) := by decide +kernel
theorem dX4_wooerItem_75 : decode cX4_wooerItem 75 = .ok (.aload_n 0, 1) := by decide +kernel
theorem dX4_wooerItem_76 : decode cX4_wooerItem 76 = .ok (.dup, 1) := by decide +kernel
theorem dX4_wooerItem_77 : decode cX4_wooerItem 77 = .ok (.getfield 84, 3) := by decide +kernel
theorem dX4_wooerItem_80 : decode cX4_wooerItem 80 = .ok (.iconst 1, 1) := by decide +kernel
theorem dX4_wooerItem_81 : decode cX4_wooerItem 81 = .ok (.iadd, 1) := by decide +kernel
theorem dX4_wooerItem_82 : decode cX4_wooerItem 82 = .ok (.putfield 84, 3) := by decide +kernel
theorem dX4_wooerItem_85 : decode cX4_wooerItem 85 = .ok (.aload_n 0, 1) := by decide +kernel
theorem dX4_wooerItem_86 : decode cX4_wooerItem 86 = .ok (.getfield 95, 3) := by decide +kernel
theorem dX4_wooerItem_89 : decode cX4_wooerItem 89 = .ok (.ifCond .ne 109, 3) := by decide +kernel
theorem dX4_wooerItem_92 : decode cX4_wooerItem 92 = .ok (.aload_n 0, 1) := by decide +kernel
theorem dX4_wooerItem_93 : decode cX4_wooerItem 93 = .ok (.iload_n 1, 1) := by decide +kernel
theorem dX4_wooerItem_94 : decode cX4_wooerItem 94 = .ok (.iload_n 2, 1) := by decide +kernel
theorem dX4_wooerItem_95 : decode cX4_wooerItem 95 = .ok (.invokevirtual 45, 3) := by decide +kernel
theorem dX4_wooerItem_98 : decode cX4_wooerItem 98 = .ok (.iconst 0, 1) := by decide +kernel
theorem dX4_wooerItem_99 : decode cX4_wooerItem 99 = .ok (.istore_n 3, 1) := by decide +kernel
theorem dX4_wooerItem_100 : decode cX4_wooerItem 100 = .ok (.iload_n 3, 1) := by decide +kernel
theorem dX4_wooerItem_101 : decode cX4_wooerItem 101 = .ok (.aload_n 0, 1) := by decide +kernel
theorem dX4_wooerItem_102 : decode cX4_wooerItem 102 = .ok (.getfield 41, 3) := by decide +kernel
theorem dX4_wooerItem_105 : decode cX4_wooerItem 105 = .ok (.if_icmp .ge 93, 3) := by decide +kernel
theorem dX4_wooerItem_108 : decode cX4_wooerItem 108 = .ok (.aload_n 0, 1) := by decide +kernel
theorem dX4_wooerItem_109 : decode cX4_wooerItem 109 = .ok (.aload_n 0, 1) := by decide +kernel
theorem dX4_wooerItem_110 : decode cX4_wooerItem 110 = .ok (.getfield 95, 3) := by decide +kernel
theorem dX4_wooerItem_113 : decode cX4_wooerItem 113 = .ok (.ifCond .ne 29, 3) := by decide +kernel
theorem dX4_wooerItem_116 : decode cX4_wooerItem 116 = .ok (.aload_n 0, 1) := by decide +kernel
theorem dX4_wooerItem_117 : decode cX4_wooerItem 117 = .ok (.invokevirtual 87, 3) := by decide +kernel
theorem dX4_wooerItem_120 : decode cX4_wooerItem 120 = .ok (.bipush 45, 2) := by decide +kernel
theorem dX4_wooerItem_122 : decode cX4_wooerItem 122 = .ok (.if_icmp .eq 24, 3) := by decide +kernel
theorem dX4_wooerItem_125 : decode cX4_wooerItem 125 = .ok (.aload_n 0, 1) := by decide +kernel
theorem dX4_wooerItem_126 : decode cX4_wooerItem 126 = .ok (.invokevirtual 87, 3) := by decide +kernel
theorem dX4_wooerItem_129 : decode cX4_wooerItem 129 = .ok (.i2l, 1) := by decide +kernel
theorem dX4_wooerItem_130 : decode cX4_wooerItem 130 = .ok (.ldc2_w 91, 3) := by decide +kernel
theorem dX4_wooerItem_133 : decode cX4_wooerItem 133 = .ok (.ldc2_w 93, 3) := by decide +kernel
theorem dX4_wooerItem_136 : decode cX4_wooerItem 136 = .ok (.invokestatic 73, 3) := by decide +kernel
theorem dX4_wooerItem_139 : decode cX4_wooerItem 139 = .ok (.ifCond .ne 7, 3) := by decide +kernel
theorem dX4_wooerItem_142 : decode cX4_wooerItem 142 = .ok (.iconst 1, 1) := by decide +kernel
theorem dX4_wooerItem_143 : decode cX4_wooerItem 143 = .ok (.goto 4, 3) := by decide +kernel
theorem dX4_wooerItem_146 : decode cX4_wooerItem 146 = .ok (.iconst 0, 1) := by decide +kernel
theorem dX4_wooerItem_147 : decode cX4_wooerItem 147 = .ok (.putfield 95, 3) := by decide +kernel
theorem dX4_wooerItem_150 : decode cX4_wooerItem 150 = .ok (.aload_n 0, 1) := by decide +kernel
theorem dX4_wooerItem_151 : decode cX4_wooerItem 151 = .ok (.iload_n 3, 1) := by decide +kernel
theorem dX4_wooerItem_152 : decode cX4_wooerItem 152 = .ok (.aload_n 0, 1) := by decide +kernel
theorem dX4_wooerItem_153 : decode cX4_wooerItem 153 = .ok (.getfield 95, 3) := by decide +kernel
theorem dX4_wooerItem_156 : decode cX4_wooerItem 156 = .ok (.ifCond .ne 12, 3) := by decide +kernel
theorem dX4_wooerItem_159 : decode cX4_wooerItem 159 = .ok (.aload_n 0, 1) := by decide +kernel
theorem dX4_wooerItem_160 : decode cX4_wooerItem 160 = .ok (.invokevirtual 87, 3) := by decide +kernel
theorem dX4_wooerItem_163 : decode cX4_wooerItem 163 = .ok (.bipush 45, 2) := by decide +kernel
theorem dX4_wooerItem_165 : decode cX4_wooerItem 165 = .ok (.if_icmp .ne 7, 3) := by decide +kernel
theorem dX4_wooerItem_168 : decode cX4_wooerItem 168 = .ok (.iconst (-1), 1) := by decide +kernel
theorem dX4_wooerItem_169 : decode cX4_wooerItem 169 = .ok (.goto 10, 3) := by decide +kernel
theorem dX4_wooerItem_172 : decode cX4_wooerItem 172 = .ok (.aload_n 0, 1) := by decide +kernel
theorem dX4_wooerItem_173 : decode cX4_wooerItem 173 = .ok (.invokevirtual 87, 3) := by decide +kernel
theorem dX4_wooerItem_176 : decode cX4_wooerItem 176 = .ok (.bipush 48, 2) := by decide +kernel
theorem dX4_wooerItem_178 : decode cX4_wooerItem 178 = .ok (.isub, 1) := by decide +kernel
theorem dX4_wooerItem_179 : decode cX4_wooerItem 179 = .ok (.invokevirtual 49, 3) := by decide +kernel
theorem dX4_wooerItem_182 : decode cX4_wooerItem 182 = .ok (.aload_n 0, 1) := by decide +kernel
theorem dX4_wooerItem_183 : decode cX4_wooerItem 183 = .ok (.dup, 1) := by decide +kernel
theorem dX4_wooerItem_184 : decode cX4_wooerItem 184 = .ok (.getfield 84, 3) := by decide +kernel
theorem dX4_wooerItem_187 : decode cX4_wooerItem 187 = .ok (.iconst 1, 1) := by decide +kernel
theorem dX4_wooerItem_188 : decode cX4_wooerItem 188 = .ok (.iadd, 1) := by decide +kernel
theorem dX4_wooerItem_189 : decode cX4_wooerItem 189 = .ok (.putfield 84, 3) := by decide +kernel
theorem dX4_wooerItem_192 : decode cX4_wooerItem 192 = .ok (.iinc 3 1, 3) := by decide +kernel
theorem dX4_wooerItem_195 : decode cX4_wooerItem 195 = .ok (.goto (-95), 3) := by decide +kernel
theorem dX4_wooerItem_198 : decode cX4_wooerItem 198 = .ok (.return_, 1) := by decide +kernel
theorem dX4_item_0 : decode cX4_item 0 = .ok (.iload_n 1, 1) := by decide +kernel
theorem dX4_item_1 : decode cX4_item 1 = .ok (.bipush 116, 2) := by decide +kernel
theorem dX4_item_3 : decode cX4_item 3 = .ok (.if_icmp .ne 29, 3) := by decide +kernel
theorem dX4_item_6 : decode cX4_item 6 = .ok (.aload_n 0, 1) := by decide +kernel
theorem dX4_item_7 : decode cX4_item 7 = .ok (.iload_n 2, 1) := by decide +kernel
theorem dX4_item_8 : decode cX4_item 8 = .ok (.ifCond .ne 7, 3) := by decide +kernel
theorem dX4_item_11 : decode cX4_item 11 = .ok (.iconst 1, 1) := by decide +kernel
theorem dX4_item_12 : decode cX4_item 12 = .ok (.goto 4, 3) := by decide +kernel
theorem dX4_item_15 : decode cX4_item 15 = .ok (.iconst 0, 1) := by decide +kernel
theorem dX4_item_16 : decode cX4_item 16 = .ok (.putfield 95, 3) := by decide +kernel
theorem dX4_item_19 : decode cX4_item 19 = .ok (.aload_n 0, 1) := by decide +kernel
theorem dX4_item_20 : decode cX4_item 20 = .ok (.getfield 95, 3) := by decide +kernel
theorem dX4_item_23 : decode cX4_item 23 = .ok (.ifCond .ne 7, 3) := by decide +kernel
theorem dX4_item_26 : decode cX4_item 26 = .ok (.aload_n 0, 1) := by decide +kernel
theorem dX4_item_27 : decode cX4_item 27 = .ok (.invokevirtual 111, 3) := by decide +kernel
theorem dX4_item_30 : decode cX4_item 30 = .ok (.iconst 1, 1) := by decide +kernel
theorem dX4_item_31 : decode cX4_item 31 = .ok (.ireturn, 1) := by decide +kernel
theorem dX4_item_32 : decode cX4_item 32 = .ok (.iload_n 1, 1) := by decide +kernel
theorem dX4_item_33 : decode cX4_item 33 = .ok (.bipush 119, 2) := by decide +kernel
theorem dX4_item_35 : decode cX4_item 35 = .ok (.if_icmp .ne 10, 3) := by decide +kernel
theorem dX4_item_38 : decode cX4_item 38 = .ok (.aload_n 0, 1) := by decide +kernel
theorem dX4_item_39 : decode cX4_item 39 = .ok (.invokevirtual 114, 3) := by decide +kernel
theorem dX4_item_42 : decode cX4_item 42 = .ok (.goto 44, 3) := by decide +kernel
theorem dX4_item_45 : decode cX4_item 45 = .ok (.iload_n 1, 1) := by decide +kernel
theorem dX4_item_46 : decode cX4_item 46 = .ok (.bipush 115, 2) := by decide +kernel
theorem dX4_item_48 : decode cX4_item 48 = .ok (.if_icmp .ne 33, 3) := by decide +kernel
theorem dX4_item_51 : decode cX4_item 51 = .ok (.aload_n 0, 1) := by decide +kernel
theorem dX4_item_52 : decode cX4_item 52 = .ok (.iconst 1, 1) := by decide +kernel
theorem dX4_item_53 : decode cX4_item 53 = .ok (.bipush 8, 2) := by decide +kernel
theorem dX4_item_55 : decode cX4_item 55 = .ok (.invokevirtual 99, 3) := by decide +kernel
theorem dX4_item_58 : decode cX4_item 58 = .ok (.istore_n 3, 1) := by decide +kernel
theorem dX4_item_59 : decode cX4_item 59 = .ok (.aload_n 0, 1) := by decide +kernel
theorem dX4_item_60 : decode cX4_item 60 = .ok (.aload_n 0, 1) := by decide +kernel
theorem dX4_item_61 : decode cX4_item 61 = .ok (.getfield 95, 3) := by decide +kernel
theorem dX4_item_64 : decode cX4_item 64 = .ok (.ifCond .eq 10, 3) := by decide +kernel
theorem dX4_item_67 : decode cX4_item 67 = .ok (.aload_n 0, 1) := by decide +kernel
theorem dX4_item_68 : decode cX4_item 68 = .ok (.getfield 52, 3) := by decide +kernel
theorem dX4_item_71 : decode cX4_item 71 = .ok (.goto 4, 3) := by decide +kernel
theorem dX4_item_74 : decode cX4_item 74 = .ok (.iload_n 3, 1) := by decide +kernel
theorem dX4_item_75 : decode cX4_item 75 = .ok (.putfield 52, 3) := by decide +kernel
theorem dX4_item_78 : decode cX4_item 78 = .ok (.goto 8, 3) := by decide +kernel
theorem dX4_item_81 : decode cX4_item 81 = .ok (.aload_n 0, 1) := by decide +kernel
theorem dX4_item_82 : decode cX4_item 82 = .ok (.iconst 1, 1) := by decide +kernel
theorem dX4_item_83 : decode cX4_item 83 = .ok (.putfield 95, 3) := by decide +kernel
theorem dX4_item_86 : decode cX4_item 86 = .ok (.iconst 0, 1) := by decide +kernel
theorem dX4_item_87 : decode cX4_item 87 = .ok (.ireturn, 1) := by decide +kernel
theorem dX4_reads_0 : decode cX4_reads 0 = .ok (.aload_n 0, 1) := by decide +kernel
theorem dX4_reads_1 : decode cX4_reads 1 = .ok (.invokevirtual 38, 3) := by decide +kernel
theorem dX4_reads_4 : decode cX4_reads 4 = .ok (.aload_n 0, 1) := by decide +kernel
theorem dX4_reads_5 : decode cX4_reads 5 = .ok (.iconst 0, 1) := by decide +kernel
theorem dX4_reads_6 : decode cX4_reads 6 = .ok (.putfield 84, 3) := by decide +kernel
theorem dX4_reads_9 : decode cX4_reads 9 = .ok (.aload_n 0, 1) := by decide +kernel
theorem dX4_reads_10 : decode cX4_reads 10 = .ok (.iconst 0, 1) := by decide +kernel
theorem dX4_reads_11 : decode cX4_reads 11 = .ok (.putfield 95, 3) := by decide +kernel
theorem dX4_reads_14 : decode cX4_reads 14 = .ok (.iconst 1, 1) := by decide +kernel
theorem dX4_reads_15 : decode cX4_reads 15 = .ok (.istore_n 1, 1) := by decide +kernel
theorem dX4_reads_16 : decode cX4_reads 16 = .ok (.aload_n 0, 1) := by decide +kernel
theorem dX4_reads_17 : decode cX4_reads 17 = .ok (.getfield 84, 3) := by decide +kernel
theorem dX4_reads_20 : decode cX4_reads 20 = .ok (.aload_n 0, 1) := by decide +kernel
theorem dX4_reads_21 : decode cX4_reads 21 = .ok (.getfield 81, 3) := by decide +kernel
theorem dX4_reads_24 : decode cX4_reads 24 = .ok (.if_icmp .ge 90, 3) := by decide +kernel
theorem dX4_reads_27 : decode cX4_reads 27 = .ok (.aload_n 0, 1) := by decide +kernel
theorem dX4_reads_28 : decode cX4_reads 28 = .ok (.getfield 95, 3) := by decide +kernel
theorem dX4_reads_31 : decode cX4_reads 31 = .ok (.ifCond .ne 83, 3) := by decide +kernel
theorem dX4_reads_34 : decode cX4_reads 34 = .ok (.aload_n 0, 1) := by decide +kernel
theorem dX4_reads_35 : decode cX4_reads 35 = .ok (.aload_n 0, 1) := by decide +kernel
theorem dX4_reads_36 : decode cX4_reads 36 = .ok (.getfield 84, 3) := by decide +kernel
theorem dX4_reads_39 : decode cX4_reads 39 = .ok (.putfield 117, 3) := by decide +kernel
theorem dX4_reads_42 : decode cX4_reads 42 = .ok (.aload_n 0, 1) := by decide +kernel
theorem dX4_reads_43 : decode cX4_reads 43 = .ok (.invokevirtual 87, 3) := by decide +kernel
theorem dX4_reads_46 : decode cX4_reads 46 = .ok (.istore_n 2, 1) := by decide +kernel
theorem dX4_reads_47 : decode cX4_reads 47 = .ok (.aload_n 0, 1) := by decide +kernel
theorem dX4_reads_48 : decode cX4_reads 48 = .ok (.dup, 1) := by decide +kernel
theorem dX4_reads_49 : decode cX4_reads 49 = .ok (.getfield 84, 3) := by decide +kernel
theorem dX4_reads_52 : decode cX4_reads 52 = .ok (.iconst 1, 1) := by decide +kernel
theorem dX4_reads_53 : decode cX4_reads 53 = .ok (.iadd, 1) := by decide +kernel
theorem dX4_reads_54 : decode cX4_reads 54 = .ok (.putfield 84, 3) := by decide +kernel
theorem dX4_reads_57 : decode cX4_reads 57 = .ok (.aload_n 0, 1) := by decide +kernel
theorem dX4_reads_58 : decode cX4_reads 58 = .ok (.iload_n 2, 1) := by decide +kernel
theorem dX4_reads_59 : decode cX4_reads 59 = .ok (.iload_n 1, 1) := by decide +kernel
theorem dX4_reads_60 : decode cX4_reads 60 = .ok (.invokevirtual 120, 3) := by decide +kernel
theorem dX4_reads_63 : decode cX4_reads 63 = .ok (.ifCond .eq 11, 3) := by decide +kernel
theorem dX4_reads_66 : decode cX4_reads 66 = .ok (.iload_n 1, 1) := by decide +kernel
theorem dX4_reads_67 : decode cX4_reads 67 = .ok (.ifCond .eq 7, 3) := by decide +kernel
theorem dX4_reads_70 : decode cX4_reads 70 = .ok (.iconst 1, 1) := by decide +kernel
theorem dX4_reads_71 : decode cX4_reads 71 = .ok (.goto 4, 3) := by decide +kernel
theorem dX4_reads_74 : decode cX4_reads 74 = .ok (.iconst 0, 1) := by decide +kernel
theorem dX4_reads_75 : decode cX4_reads 75 = .ok (.istore_n 1, 1) := by decide +kernel
theorem dX4_reads_76 : decode cX4_reads 76 = .ok (.aload_n 0, 1) := by decide +kernel
theorem dX4_reads_77 : decode cX4_reads 77 = .ok (.aload_n 0, 1) := by decide +kernel
theorem dX4_reads_78 : decode cX4_reads 78 = .ok (.getfield 95, 3) := by decide +kernel
theorem dX4_reads_81 : decode cX4_reads 81 = .ok (.ifCond .ne 12, 3) := by decide +kernel
theorem dX4_reads_84 : decode cX4_reads 84 = .ok (.aload_n 0, 1) := by decide +kernel
theorem dX4_reads_85 : decode cX4_reads 85 = .ok (.invokevirtual 87, 3) := by decide +kernel
theorem dX4_reads_88 : decode cX4_reads 88 = .ok (.bipush 59, 2) := by decide +kernel
theorem dX4_reads_90 : decode cX4_reads 90 = .ok (.if_icmp .eq 7, 3) := by decide +kernel
theorem dX4_reads_93 : decode cX4_reads 93 = .ok (.iconst 1, 1) := by decide +kernel
theorem dX4_reads_94 : decode cX4_reads 94 = .ok (.goto 4, 3) := by decide +kernel
theorem dX4_reads_97 : decode cX4_reads 97 = .ok (.iconst 0, 1) := by decide +kernel
theorem dX4_reads_98 : decode cX4_reads 98 = .ok (.putfield 95, 3) := by decide +kernel
theorem dX4_reads_101 : decode cX4_reads 101 = .ok (.aload_n 0, 1) := by decide +kernel
theorem dX4_reads_102 : decode cX4_reads 102 = .ok (.dup, 1) := by decide +kernel
theorem dX4_reads_103 : decode cX4_reads 103 = .ok (.getfield 84, 3) := by decide +kernel
theorem dX4_reads_106 : decode cX4_reads 106 = .ok (.iconst 1, 1) := by decide +kernel
theorem dX4_reads_107 : decode cX4_reads 107 = .ok (.iadd, 1) := by decide +kernel
theorem dX4_reads_108 : decode cX4_reads 108 = .ok (.putfield 84, 3) := by decide +kernel
theorem dX4_reads_111 : decode cX4_reads 111 = .ok (.goto (-95), 3) := by decide +kernel
theorem dX4_reads_114 : decode cX4_reads 114 = .ok (.aload_n 0, 1) := by decide +kernel
theorem dX4_reads_115 : decode cX4_reads 115 = .ok (.getfield 95, 3) := by decide +kernel
theorem dX4_reads_118 : decode cX4_reads 118 = .ok (.ifCond .ne 7, 3) := by decide +kernel
theorem dX4_reads_121 : decode cX4_reads 121 = .ok (.iconst 1, 1) := by decide +kernel
theorem dX4_reads_122 : decode cX4_reads 122 = .ok (.goto 4, 3) := by decide +kernel
theorem dX4_reads_125 : decode cX4_reads 125 = .ok (.iconst 0, 1) := by decide +kernel
theorem dX4_reads_126 : decode cX4_reads 126 = .ok (.ireturn, 1) := by decide +kernel
theorem dX4_fault_0 : decode cX4_fault 0 = .ok (.aload_n 0, 1) := by decide +kernel
theorem dX4_fault_1 : decode cX4_fault 1 = .ok (.invokevirtual 124, 3) := by decide +kernel
theorem dX4_fault_4 : decode cX4_fault 4 = .ok (.ifCond .eq 8, 3) := by decide +kernel
theorem dX4_fault_7 : decode cX4_fault 7 = .ok (.bipush (-4), 2) := by decide +kernel
theorem dX4_fault_9 : decode cX4_fault 9 = .ok (.goto 7, 3) := by decide +kernel
theorem dX4_fault_12 : decode cX4_fault 12 = .ok (.aload_n 0, 1) := by decide +kernel
theorem dX4_fault_13 : decode cX4_fault 13 = .ok (.getfield 117, 3) := by decide +kernel
theorem dX4_fault_16 : decode cX4_fault 16 = .ok (.ireturn, 1) := by decide +kernel
theorem dX4_lay_0 : decode cX4_lay 0 = .ok (.aload_n 0, 1) := by decide +kernel
theorem dX4_lay_1 : decode cX4_lay 1 = .ok (.invokevirtual 124, 3) := by decide +kernel
theorem dX4_lay_4 : decode cX4_lay 4 = .ok (.ifCond .eq 17, 3) := by decide +kernel
theorem dX4_lay_7 : decode cX4_lay 7 = .ok (.aload_n 0, 1) := by decide +kernel
theorem dX4_lay_8 : decode cX4_lay 8 = .ok (.getfield 41, 3) := by decide +kernel
theorem dX4_lay_11 : decode cX4_lay 11 = .ok (.ifCond .eq 10, 3) := by decide +kernel
theorem dX4_lay_14 : decode cX4_lay 14 = .ok (.aload_n 0, 1) := by decide +kernel
theorem dX4_lay_15 : decode cX4_lay 15 = .ok (.getfield 58, 3) := by decide +kernel
theorem dX4_lay_18 : decode cX4_lay 18 = .ok (.ifCond .ne 6, 3) := by decide +kernel
theorem dX4_lay_21 : decode cX4_lay 21 = .ok (.bipush (-2), 2) := by decide +kernel
theorem dX4_lay_23 : decode cX4_lay 23 = .ok (.ireturn, 1) := by decide +kernel
theorem dX4_lay_24 : decode cX4_lay 24 = .ok (.aload_n 0, 1) := by decide +kernel
theorem dX4_lay_25 : decode cX4_lay 25 = .ok (.invokevirtual 55, 3) := by decide +kernel
theorem dX4_lay_28 : decode cX4_lay 28 = .ok (.aload_n 0, 1) := by decide +kernel
theorem dX4_lay_29 : decode cX4_lay 29 = .ok (.iconst 0, 1) := by decide +kernel
theorem dX4_lay_30 : decode cX4_lay 30 = .ok (.putfield 128, 3) := by decide +kernel
theorem dX4_lay_33 : decode cX4_lay 33 = .ok (.aload_n 0, 1) := by decide +kernel
theorem dX4_lay_34 : decode cX4_lay 34 = .ok (.iconst 0, 1) := by decide +kernel
theorem dX4_lay_35 : decode cX4_lay 35 = .ok (.putfield 131, 3) := by decide +kernel
theorem dX4_lay_38 : decode cX4_lay 38 = .ok (.aload_n 0, 1) := by decide +kernel
theorem dX4_lay_39 : decode cX4_lay 39 = .ok (.iconst 0, 1) := by decide +kernel
theorem dX4_lay_40 : decode cX4_lay 40 = .ok (.putfield 134, 3) := by decide +kernel
theorem dX4_lay_43 : decode cX4_lay 43 = .ok (.aload_n 0, 1) := by decide +kernel
theorem dX4_lay_44 : decode cX4_lay 44 = .ok (.getfield 64, 3) := by decide +kernel
theorem dX4_lay_47 : decode cX4_lay 47 = .ok (.ireturn, 1) := by decide +kernel
theorem dX4_sound_0 : decode cX4_sound 0 = .ok (.aload_n 0, 1) := by decide +kernel
theorem dX4_sound_1 : decode cX4_sound 1 = .ok (.iload_n 1, 1) := by decide +kernel
theorem dX4_sound_2 : decode cX4_sound 2 = .ok (.invokevirtual 137, 3) := by decide +kernel
theorem dX4_sound_5 : decode cX4_sound 5 = .ok (.ifCond .eq 12, 3) := by decide +kernel
theorem dX4_sound_8 : decode cX4_sound 8 = .ok (.aload_n 0, 1) := by decide +kernel
theorem dX4_sound_9 : decode cX4_sound 9 = .ok (.getfield 7, 3) := by decide +kernel
theorem dX4_sound_12 : decode cX4_sound 12 = .ok (.iload_n 1, 1) := by decide +kernel
theorem dX4_sound_13 : decode cX4_sound 13 = .ok (.iaload, 1) := by decide +kernel
theorem dX4_sound_14 : decode cX4_sound 14 = .ok (.goto 4, 3) := by decide +kernel
theorem dX4_sound_17 : decode cX4_sound 17 = .ok (.iconst (-1), 1) := by decide +kernel
theorem dX4_sound_18 : decode cX4_sound 18 = .ok (.ireturn, 1) := by decide +kernel
theorem dX4_hasIt_0 : decode cX4_hasIt 0 = .ok (.aload_n 0, 1) := by decide +kernel
theorem dX4_hasIt_1 : decode cX4_hasIt 1 = .ok (.getfield 16, 3) := by decide +kernel
theorem dX4_hasIt_4 : decode cX4_hasIt 4 = .ok (.iload_n 1, 1) := by decide +kernel
theorem dX4_hasIt_5 : decode cX4_hasIt 5 = .ok (.bipush 18, 2) := by decide +kernel
theorem dX4_hasIt_7 : decode cX4_hasIt 7 = .ok (.iload_n 2, 1) := by decide +kernel
theorem dX4_hasIt_8 : decode cX4_hasIt 8 = .ok (.imul, 1) := by decide +kernel
theorem dX4_hasIt_9 : decode cX4_hasIt 9 = .ok (.iadd, 1) := by decide +kernel
theorem dX4_hasIt_10 : decode cX4_hasIt 10 = .ok (.iconst 2, 1) := by decide +kernel
theorem dX4_hasIt_11 : decode cX4_hasIt 11 = .ok (.iadd, 1) := by decide +kernel
theorem dX4_hasIt_12 : decode cX4_hasIt 12 = .ok (.iload_n 3, 1) := by decide +kernel
theorem dX4_hasIt_13 : decode cX4_hasIt 13 = .ok (.iadd, 1) := by decide +kernel
theorem dX4_hasIt_14 : decode cX4_hasIt 14 = .ok (.iaload, 1) := by decide +kernel
theorem dX4_hasIt_15 : decode cX4_hasIt 15 = .ok (.ireturn, 1) := by decide +kernel
theorem dX4_gets_0 : decode cX4_gets 0 = .ok (.aload_n 0, 1) := by decide +kernel
theorem dX4_gets_1 : decode cX4_gets 1 = .ok (.getfield 16, 3) := by decide +kernel
theorem dX4_gets_4 : decode cX4_gets 4 = .ok (.iload_n 1, 1) := by decide +kernel
theorem dX4_gets_5 : decode cX4_gets 5 = .ok (.bipush 18, 2) := by decide +kernel
theorem dX4_gets_7 : decode cX4_gets 7 = .ok (.iload_n 2, 1) := by decide +kernel
theorem dX4_gets_8 : decode cX4_gets 8 = .ok (.imul, 1) := by decide +kernel
theorem dX4_gets_9 : decode cX4_gets 9 = .ok (.iadd, 1) := by decide +kernel
theorem dX4_gets_10 : decode cX4_gets 10 = .ok (.iconst 2, 1) := by decide +kernel
theorem dX4_gets_11 : decode cX4_gets 11 = .ok (.iadd, 1) := by decide +kernel
theorem dX4_gets_12 : decode cX4_gets 12 = .ok (.iload_n 3, 1) := by decide +kernel
theorem dX4_gets_13 : decode cX4_gets 13 = .ok (.iadd, 1) := by decide +kernel
theorem dX4_gets_14 : decode cX4_gets 14 = .ok (.iload 4, 2) := by decide +kernel
theorem dX4_gets_16 : decode cX4_gets 16 = .ok (.iastore, 1) := by decide +kernel
theorem dX4_gets_17 : decode cX4_gets 17 = .ok (.aload_n 0, 1) := by decide +kernel
theorem dX4_gets_18 : decode cX4_gets 18 = .ok (.getfield 16, 3) := by decide +kernel
theorem dX4_gets_21 : decode cX4_gets 21 = .ok (.iload_n 1, 1) := by decide +kernel
theorem dX4_gets_22 : decode cX4_gets 22 = .ok (.bipush 18, 2) := by decide +kernel
theorem dX4_gets_24 : decode cX4_gets 24 = .ok (.iload_n 2, 1) := by decide +kernel
theorem dX4_gets_25 : decode cX4_gets 25 = .ok (.imul, 1) := by decide +kernel
theorem dX4_gets_26 : decode cX4_gets 26 = .ok (.iadd, 1) := by decide +kernel
theorem dX4_gets_27 : decode cX4_gets 27 = .ok (.bipush 10, 2) := by decide +kernel
theorem dX4_gets_29 : decode cX4_gets 29 = .ok (.iadd, 1) := by decide +kernel
theorem dX4_gets_30 : decode cX4_gets 30 = .ok (.iload_n 3, 1) := by decide +kernel
theorem dX4_gets_31 : decode cX4_gets 31 = .ok (.iadd, 1) := by decide +kernel
theorem dX4_gets_32 : decode cX4_gets 32 = .ok (.iconst 0, 1) := by decide +kernel
theorem dX4_gets_33 : decode cX4_gets 33 = .ok (.iastore, 1) := by decide +kernel
theorem dX4_gets_34 : decode cX4_gets 34 = .ok (.return_, 1) := by decide +kernel
theorem dX4_had_0 : decode cX4_had 0 = .ok (.iconst 0, 1) := by decide +kernel
theorem dX4_had_1 : decode cX4_had 1 = .ok (.istore_n 3, 1) := by decide +kernel
theorem dX4_had_2 : decode cX4_had 2 = .ok (.iconst 0, 1) := by decide +kernel
theorem dX4_had_3 : decode cX4_had 3 = .ok (.istore 4, 2) := by decide +kernel
theorem dX4_had_5 : decode cX4_had 5 = .ok (.iload 4, 2) := by decide +kernel
theorem dX4_had_7 : decode cX4_had 7 = .ok (.aload_n 0, 1) := by decide +kernel
theorem dX4_had_8 : decode cX4_had 8 = .ok (.getfield 61, 3) := by decide +kernel
theorem dX4_had_11 : decode cX4_had 11 = .ok (.if_icmp .ge 31, 3) := by decide +kernel
theorem dX4_had_14 : decode cX4_had 14 = .ok (.iload_n 3, 1) := by decide +kernel
theorem dX4_had_15 : decode cX4_had 15 = .ok (.aload_n 0, 1) := by decide +kernel
theorem dX4_had_16 : decode cX4_had 16 = .ok (.iload_n 1, 1) := by decide +kernel
theorem dX4_had_17 : decode cX4_had 17 = .ok (.iload_n 2, 1) := by decide +kernel
theorem dX4_had_18 : decode cX4_had 18 = .ok (.iload 4, 2) := by decide +kernel
theorem dX4_had_20 : decode cX4_had 20 = .ok (.invokevirtual 141, 3) := by decide +kernel
theorem dX4_had_23 : decode cX4_had 23 = .ok (.ifCond .lt 10, 3) := by decide +kernel
theorem dX4_had_26 : decode cX4_had 26 = .ok (.iconst 1, 1) := by decide +kernel
theorem dX4_had_27 : decode cX4_had 27 = .ok (.iload 4, 2) := by decide +kernel
theorem dX4_had_29 : decode cX4_had 29 = .ok (.ishl, 1) := by decide +kernel
theorem dX4_had_30 : decode cX4_had 30 = .ok (.goto 4, 3) := by decide +kernel
theorem dX4_had_33 : decode cX4_had 33 = .ok (.iconst 0, 1) := by decide +kernel
theorem dX4_had_34 : decode cX4_had 34 = .ok (.ior, 1) := by decide +kernel
theorem dX4_had_35 : decode cX4_had 35 = .ok (.istore_n 3, 1) := by decide +kernel
theorem dX4_had_36 : decode cX4_had 36 = .ok (.iinc 4 1, 3) := by decide +kernel
theorem dX4_had_39 : decode cX4_had 39 = .ok (.goto (-34), 3) := by decide +kernel
theorem dX4_had_42 : decode cX4_had 42 = .ok (.iload_n 3, 1) := by decide +kernel
theorem dX4_had_43 : decode cX4_had 43 = .ok (.ireturn, 1) := by decide +kernel
theorem dX4_right_0 : decode cX4_right 0 = .ok (.iconst 0, 1) := by decide +kernel
theorem dX4_right_1 : decode cX4_right 1 = .ok (.istore_n 3, 1) := by decide +kernel
theorem dX4_right_2 : decode cX4_right 2 = .ok (.iconst 0, 1) := by decide +kernel
theorem dX4_right_3 : decode cX4_right 3 = .ok (.istore 4, 2) := by decide +kernel
theorem dX4_right_5 : decode cX4_right 5 = .ok (.iload 4, 2) := by decide +kernel
theorem dX4_right_7 : decode cX4_right 7 = .ok (.aload_n 0, 1) := by decide +kernel
theorem dX4_right_8 : decode cX4_right 8 = .ok (.getfield 61, 3) := by decide +kernel
theorem dX4_right_11 : decode cX4_right 11 = .ok (.if_icmp .ge 38, 3) := by decide +kernel
theorem dX4_right_14 : decode cX4_right 14 = .ok (.iload_n 3, 1) := by decide +kernel
theorem dX4_right_15 : decode cX4_right 15 = .ok (.aload_n 0, 1) := by decide +kernel
theorem dX4_right_16 : decode cX4_right 16 = .ok (.iload_n 1, 1) := by decide +kernel
theorem dX4_right_17 : decode cX4_right 17 = .ok (.iload_n 2, 1) := by decide +kernel
theorem dX4_right_18 : decode cX4_right 18 = .ok (.iload 4, 2) := by decide +kernel
theorem dX4_right_20 : decode cX4_right 20 = .ok (.invokevirtual 141, 3) := by decide +kernel
theorem dX4_right_23 : decode cX4_right 23 = .ok (.aload_n 0, 1) := by decide +kernel
theorem dX4_right_24 : decode cX4_right 24 = .ok (.getfield 7, 3) := by decide +kernel
theorem dX4_right_27 : decode cX4_right 27 = .ok (.iload 4, 2) := by decide +kernel
theorem dX4_right_29 : decode cX4_right 29 = .ok (.iaload, 1) := by decide +kernel
theorem dX4_right_30 : decode cX4_right 30 = .ok (.if_icmp .ne 10, 3) := by decide +kernel
theorem dX4_right_33 : decode cX4_right 33 = .ok (.iconst 1, 1) := by decide +kernel
theorem dX4_right_34 : decode cX4_right 34 = .ok (.iload 4, 2) := by decide +kernel
theorem dX4_right_36 : decode cX4_right 36 = .ok (.ishl, 1) := by decide +kernel
theorem dX4_right_37 : decode cX4_right 37 = .ok (.goto 4, 3) := by decide +kernel
theorem dX4_right_40 : decode cX4_right 40 = .ok (.iconst 0, 1) := by decide +kernel
theorem dX4_right_41 : decode cX4_right 41 = .ok (.ior, 1) := by decide +kernel
theorem dX4_right_42 : decode cX4_right 42 = .ok (.istore_n 3, 1) := by decide +kernel
theorem dX4_right_43 : decode cX4_right 43 = .ok (.iinc 4 1, 3) := by decide +kernel
theorem dX4_right_46 : decode cX4_right 46 = .ok (.goto (-41), 3) := by decide +kernel
theorem dX4_right_49 : decode cX4_right 49 = .ok (.iload_n 3, 1) := by decide +kernel
theorem dX4_right_50 : decode cX4_right 50 = .ok (.ireturn, 1) := by decide +kernel
theorem dX4_isSpeaker_0 : decode cX4_isSpeaker 0 = .ok (.aload_n 0, 1) := by decide +kernel
theorem dX4_isSpeaker_1 : decode cX4_isSpeaker 1 = .ok (.iload_n 1, 1) := by decide +kernel
theorem dX4_isSpeaker_2 : decode cX4_isSpeaker 2 = .ok (.iload_n 2, 1) := by decide +kernel
theorem dX4_isSpeaker_3 : decode cX4_isSpeaker 3 = .ok (.invokevirtual 145, 3) := by decide +kernel
theorem dX4_isSpeaker_6 : decode cX4_isSpeaker 6 = .ok (.invokestatic 148, 3) := by decide +kernel
theorem dX4_isSpeaker_9 : decode cX4_isSpeaker 9 = .ok (.aload_n 0, 1) := by decide +kernel
theorem dX4_isSpeaker_10 : decode cX4_isSpeaker 10 = .ok (.getfield 67, 3) := by decide +kernel
theorem dX4_isSpeaker_13 : decode cX4_isSpeaker 13 = .ok (.if_icmp .lt 7, 3) := by decide +kernel
theorem dX4_isSpeaker_16 : decode cX4_isSpeaker 16 = .ok (.iconst 1, 1) := by decide +kernel
theorem dX4_isSpeaker_17 : decode cX4_isSpeaker 17 = .ok (.goto 4, 3) := by decide +kernel
theorem dX4_isSpeaker_20 : decode cX4_isSpeaker 20 = .ok (.iconst 0, 1) := by decide +kernel
theorem dX4_isSpeaker_21 : decode cX4_isSpeaker 21 = .ok (.ireturn, 1) := by decide +kernel
theorem dX4_wooer_0 : decode cX4_wooer 0 = .ok (.aload_n 0, 1) := by decide +kernel
theorem dX4_wooer_1 : decode cX4_wooer 1 = .ok (.iload_n 1, 1) := by decide +kernel
theorem dX4_wooer_2 : decode cX4_wooer 2 = .ok (.invokevirtual 152, 3) := by decide +kernel
theorem dX4_wooer_5 : decode cX4_wooer 5 = .ok (.ifCond .eq 15, 3) := by decide +kernel
theorem dX4_wooer_8 : decode cX4_wooer 8 = .ok (.iload_n 2, 1) := by decide +kernel
theorem dX4_wooer_9 : decode cX4_wooer 9 = .ok (.i2l, 1) := by decide +kernel
theorem dX4_wooer_10 : decode cX4_wooer 10 = .ok (.lconst 0, 1) := by decide +kernel
theorem dX4_wooer_11 : decode cX4_wooer 11 = .ok (.ldc2_w 155, 3) := by decide +kernel
theorem dX4_wooer_14 : decode cX4_wooer 14 = .ok (.invokestatic 73, 3) := by decide +kernel
theorem dX4_wooer_17 : decode cX4_wooer 17 = .ok (.ifCond .ne 5, 3) := by decide +kernel
theorem dX4_wooer_20 : decode cX4_wooer 20 = .ok (.iconst (-1), 1) := by decide +kernel
theorem dX4_wooer_21 : decode cX4_wooer 21 = .ok (.ireturn, 1) := by decide +kernel
theorem dX4_wooer_22 : decode cX4_wooer 22 = .ok (.iload_n 2, 1) := by decide +kernel
theorem dX4_wooer_23 : decode cX4_wooer 23 = .ok (.iconst 2, 1) := by decide +kernel
theorem dX4_wooer_24 : decode cX4_wooer 24 = .ok (.if_icmp .ge 17, 3) := by decide +kernel
theorem dX4_wooer_27 : decode cX4_wooer 27 = .ok (.aload_n 0, 1) := by decide +kernel
theorem dX4_wooer_28 : decode cX4_wooer 28 = .ok (.getfield 16, 3) := by decide +kernel
theorem dX4_wooer_31 : decode cX4_wooer 31 = .ok (.bipush 18, 2) := by decide +kernel
theorem dX4_wooer_33 : decode cX4_wooer 33 = .ok (.iload_n 1, 1) := by decide +kernel
theorem dX4_wooer_34 : decode cX4_wooer 34 = .ok (.imul, 1) := by decide +kernel
theorem dX4_wooer_35 : decode cX4_wooer 35 = .ok (.iload_n 2, 1) := by decide +kernel
theorem dX4_wooer_36 : decode cX4_wooer 36 = .ok (.iadd, 1) := by decide +kernel
theorem dX4_wooer_37 : decode cX4_wooer 37 = .ok (.iaload, 1) := by decide +kernel
theorem dX4_wooer_38 : decode cX4_wooer 38 = .ok (.goto 45, 3) := by decide +kernel
theorem dX4_wooer_41 : decode cX4_wooer 41 = .ok (.iload_n 2, 1) := by decide +kernel
theorem dX4_wooer_42 : decode cX4_wooer 42 = .ok (.iconst 2, 1) := by decide +kernel
theorem dX4_wooer_43 : decode cX4_wooer 43 = .ok (.if_icmp .ne 12, 3) := by decide +kernel
theorem dX4_wooer_46 : decode cX4_wooer 46 = .ok (.aload_n 0, 1) := by decide +kernel
theorem dX4_wooer_47 : decode cX4_wooer 47 = .ok (.iconst 0, 1) := by decide +kernel
theorem dX4_wooer_48 : decode cX4_wooer 48 = .ok (.iload_n 1, 1) := by decide +kernel
theorem dX4_wooer_49 : decode cX4_wooer 49 = .ok (.invokevirtual 157, 3) := by decide +kernel
theorem dX4_wooer_52 : decode cX4_wooer 52 = .ok (.goto 31, 3) := by decide +kernel
theorem dX4_wooer_55 : decode cX4_wooer 55 = .ok (.iload_n 2, 1) := by decide +kernel
theorem dX4_wooer_56 : decode cX4_wooer 56 = .ok (.iconst 3, 1) := by decide +kernel
theorem dX4_wooer_57 : decode cX4_wooer 57 = .ok (.if_icmp .ne 12, 3) := by decide +kernel
theorem dX4_wooer_60 : decode cX4_wooer 60 = .ok (.aload_n 0, 1) := by decide +kernel
theorem dX4_wooer_61 : decode cX4_wooer 61 = .ok (.iconst 0, 1) := by decide +kernel
theorem dX4_wooer_62 : decode cX4_wooer 62 = .ok (.iload_n 1, 1) := by decide +kernel
theorem dX4_wooer_63 : decode cX4_wooer 63 = .ok (.invokevirtual 145, 3) := by decide +kernel
theorem dX4_wooer_66 : decode cX4_wooer 66 = .ok (.goto 17, 3) := by decide +kernel
theorem dX4_wooer_69 : decode cX4_wooer 69 = .ok (.aload_n 0, 1) := by decide +kernel
theorem dX4_wooer_70 : decode cX4_wooer 70 = .ok (.iconst 0, 1) := by decide +kernel
theorem dX4_wooer_71 : decode cX4_wooer 71 = .ok (.iload_n 1, 1) := by decide +kernel
theorem dX4_wooer_72 : decode cX4_wooer 72 = .ok (.invokevirtual 160, 3) := by decide +kernel
theorem dX4_wooer_75 : decode cX4_wooer 75 = .ok (.ifCond .eq 7, 3) := by decide +kernel
theorem dX4_wooer_78 : decode cX4_wooer 78 = .ok (.iconst 1, 1) := by decide +kernel
theorem dX4_wooer_79 : decode cX4_wooer 79 = .ok (.goto 4, 3) := by decide +kernel
theorem dX4_wooer_82 : decode cX4_wooer 82 = .ok (.iconst 0, 1) := by decide +kernel
theorem dX4_wooer_83 : decode cX4_wooer 83 = .ok (.ireturn, 1) := by decide +kernel
theorem dX4_word_0 : decode cX4_word 0 = .ok (.aload_n 0, 1) := by decide +kernel
theorem dX4_word_1 : decode cX4_word 1 = .ok (.iload_n 1, 1) := by decide +kernel
theorem dX4_word_2 : decode cX4_word 2 = .ok (.invokevirtual 152, 3) := by decide +kernel
theorem dX4_word_5 : decode cX4_word 5 = .ok (.ifCond .eq 21, 3) := by decide +kernel
theorem dX4_word_8 : decode cX4_word 8 = .ok (.aload_n 0, 1) := by decide +kernel
theorem dX4_word_9 : decode cX4_word 9 = .ok (.iload_n 2, 1) := by decide +kernel
theorem dX4_word_10 : decode cX4_word 10 = .ok (.invokevirtual 137, 3) := by decide +kernel
theorem dX4_word_13 : decode cX4_word 13 = .ok (.ifCond .eq 13, 3) := by decide +kernel
theorem dX4_word_16 : decode cX4_word 16 = .ok (.iload_n 3, 1) := by decide +kernel
theorem dX4_word_17 : decode cX4_word 17 = .ok (.i2l, 1) := by decide +kernel
theorem dX4_word_18 : decode cX4_word 18 = .ok (.lconst 0, 1) := by decide +kernel
theorem dX4_word_19 : decode cX4_word 19 = .ok (.lconst 1, 1) := by decide +kernel
theorem dX4_word_20 : decode cX4_word 20 = .ok (.invokestatic 73, 3) := by decide +kernel
theorem dX4_word_23 : decode cX4_word 23 = .ok (.ifCond .ne 5, 3) := by decide +kernel
theorem dX4_word_26 : decode cX4_word 26 = .ok (.iconst (-1), 1) := by decide +kernel
theorem dX4_word_27 : decode cX4_word 27 = .ok (.ireturn, 1) := by decide +kernel
theorem dX4_word_28 : decode cX4_word 28 = .ok (.aload_n 0, 1) := by decide +kernel
theorem dX4_word_29 : decode cX4_word 29 = .ok (.iconst 0, 1) := by decide +kernel
theorem dX4_word_30 : decode cX4_word 30 = .ok (.iload_n 1, 1) := by decide +kernel
theorem dX4_word_31 : decode cX4_word 31 = .ok (.iload_n 2, 1) := by decide +kernel
theorem dX4_word_32 : decode cX4_word 32 = .ok (.invokevirtual 141, 3) := by decide +kernel
theorem dX4_word_35 : decode cX4_word 35 = .ok (.ifCond .ge 8, 3) := by decide +kernel
theorem dX4_word_38 : decode cX4_word 38 = .ok (.bipush (-4), 2) := by decide +kernel
theorem dX4_word_40 : decode cX4_word 40 = .ok (.goto 31, 3) := by decide +kernel
theorem dX4_word_43 : decode cX4_word 43 = .ok (.iload_n 3, 1) := by decide +kernel
theorem dX4_word_44 : decode cX4_word 44 = .ok (.ifCond .ne 13, 3) := by decide +kernel
theorem dX4_word_47 : decode cX4_word 47 = .ok (.aload_n 0, 1) := by decide +kernel
theorem dX4_word_48 : decode cX4_word 48 = .ok (.iconst 0, 1) := by decide +kernel
theorem dX4_word_49 : decode cX4_word 49 = .ok (.iload_n 1, 1) := by decide +kernel
theorem dX4_word_50 : decode cX4_word 50 = .ok (.iload_n 2, 1) := by decide +kernel
theorem dX4_word_51 : decode cX4_word 51 = .ok (.invokevirtual 141, 3) := by decide +kernel
theorem dX4_word_54 : decode cX4_word 54 = .ok (.goto 17, 3) := by decide +kernel
theorem dX4_word_57 : decode cX4_word 57 = .ok (.aload_n 0, 1) := by decide +kernel
theorem dX4_word_58 : decode cX4_word 58 = .ok (.getfield 16, 3) := by decide +kernel
theorem dX4_word_61 : decode cX4_word 61 = .ok (.bipush 18, 2) := by decide +kernel
theorem dX4_word_63 : decode cX4_word 63 = .ok (.iload_n 1, 1) := by decide +kernel
theorem dX4_word_64 : decode cX4_word 64 = .ok (.imul, 1) := by decide +kernel
theorem dX4_word_65 : decode cX4_word 65 = .ok (.bipush 10, 2) := by decide +kernel
theorem dX4_word_67 : decode cX4_word 67 = .ok (.iadd, 1) := by decide +kernel
theorem dX4_word_68 : decode cX4_word 68 = .ok (.iload_n 2, 1) := by decide +kernel
theorem dX4_word_69 : decode cX4_word 69 = .ok (.iadd, 1) := by decide +kernel
theorem dX4_word_70 : decode cX4_word 70 = .ok (.iaload, 1) := by decide +kernel
theorem dX4_word_71 : decode cX4_word 71 = .ok (.ireturn, 1) := by decide +kernel
theorem dX4_known_0 : decode cX4_known 0 = .ok (.aload_n 0, 1) := by decide +kernel
theorem dX4_known_1 : decode cX4_known 1 = .ok (.getfield 128, 3) := by decide +kernel
theorem dX4_known_4 : decode cX4_known 4 = .ok (.bipush 8, 2) := by decide +kernel
theorem dX4_known_6 : decode cX4_known 6 = .ok (.if_icmp .ne 40, 3) := by decide +kernel
theorem dX4_known_9 : decode cX4_known 9 = .ok (.bipush 91, 2) := by decide +kernel
theorem dX4_known_11 : decode cX4_known 11 = .ok (.istore_n 1, 1) := by decide +kernel
theorem dX4_known_12 : decode cX4_known 12 = .ok (.iload_n 1, 1) := by decide +kernel
theorem dX4_known_13 : decode cX4_known 13 = .ok (.sipush 728, 3) := by decide +kernel
theorem dX4_known_16 : decode cX4_known 16 = .ok (.if_icmp .ge 24, 3) := by decide +kernel
theorem dX4_known_19 : decode cX4_known 19 = .ok (.aload_n 0, 1) := by decide +kernel
theorem dX4_known_20 : decode cX4_known 20 = .ok (.getfield 16, 3) := by decide +kernel
theorem dX4_known_23 : decode cX4_known 23 = .ok (.iload_n 1, 1) := by decide +kernel
theorem dX4_known_24 : decode cX4_known 24 = .ok (.aload_n 0, 1) := by decide +kernel
theorem dX4_known_25 : decode cX4_known 25 = .ok (.getfield 16, 3) := by decide +kernel
theorem dX4_known_28 : decode cX4_known 28 = .ok (.iload_n 1, 1) := by decide +kernel
theorem dX4_known_29 : decode cX4_known 29 = .ok (.bipush 91, 2) := by decide +kernel
theorem dX4_known_31 : decode cX4_known 31 = .ok (.iadd, 1) := by decide +kernel
theorem dX4_known_32 : decode cX4_known 32 = .ok (.iaload, 1) := by decide +kernel
theorem dX4_known_33 : decode cX4_known 33 = .ok (.iastore, 1) := by decide +kernel
theorem dX4_known_34 : decode cX4_known 34 = .ok (.iinc 1 1, 3) := by decide +kernel
theorem dX4_known_37 : decode cX4_known 37 = .ok (.goto (-25), 3) := by decide +kernel
theorem dX4_known_40 : decode cX4_known 40 = .ok (.aload_n 0, 1) := by decide +kernel
theorem dX4_known_41 : decode cX4_known 41 = .ok (.bipush 7, 2) := by decide +kernel
theorem dX4_known_43 : decode cX4_known 43 = .ok (.putfield 128, 3) := by decide +kernel
theorem dX4_known_46 : decode cX4_known 46 = .ok (.aload_n 0, 1) := by decide +kernel
theorem dX4_known_47 : decode cX4_known 47 = .ok (.dup, 1) := by decide +kernel
theorem dX4_known_48 : decode cX4_known 48 = .ok (.getfield 128, 3) := by decide +kernel
theorem dX4_known_51 : decode cX4_known 51 = .ok (.iconst 1, 1) := by decide +kernel
theorem dX4_known_52 : decode cX4_known 52 = .ok (.iadd, 1) := by decide +kernel
theorem dX4_known_53 : decode cX4_known 53 = .ok (.putfield 128, 3) := by decide +kernel
theorem dX4_known_56 : decode cX4_known 56 = .ok (.aload_n 0, 1) := by decide +kernel
theorem dX4_known_57 : decode cX4_known 57 = .ok (.iconst 0, 1) := by decide +kernel
theorem dX4_known_58 : decode cX4_known 58 = .ok (.aload_n 0, 1) := by decide +kernel
theorem dX4_known_59 : decode cX4_known 59 = .ok (.getfield 128, 3) := by decide +kernel
theorem dX4_known_62 : decode cX4_known 62 = .ok (.bipush 91, 2) := by decide +kernel
theorem dX4_known_64 : decode cX4_known 64 = .ok (.imul, 1) := by decide +kernel
theorem dX4_known_65 : decode cX4_known 65 = .ok (.invokevirtual 70, 3) := by decide +kernel
theorem dX4_known_68 : decode cX4_known 68 = .ok (.return_, 1) := by decide +kernel
theorem dX4_hears_0 : decode cX4_hears 0 = .ok (.aload_n 0, 1) := by decide +kernel
theorem dX4_hears_1 : decode cX4_hears 1 = .ok (.getfield 16, 3) := by decide +kernel
theorem dX4_hears_4 : decode cX4_hears 4 = .ok (.iload_n 1, 1) := by decide +kernel
theorem dX4_hears_5 : decode cX4_hears 5 = .ok (.bipush 18, 2) := by decide +kernel
theorem dX4_hears_7 : decode cX4_hears 7 = .ok (.iload_n 2, 1) := by decide +kernel
theorem dX4_hears_8 : decode cX4_hears 8 = .ok (.imul, 1) := by decide +kernel
theorem dX4_hears_9 : decode cX4_hears 9 = .ok (.iadd, 1) := by decide +kernel
theorem dX4_hears_10 : decode cX4_hears 10 = .ok (.iaload, 1) := by decide +kernel
theorem dX4_hears_11 : decode cX4_hears 11 = .ok (.iconst 1, 1) := by decide +kernel
theorem dX4_hears_12 : decode cX4_hears 12 = .ok (.if_icmp .ne 19, 3) := by decide +kernel
theorem dX4_hears_15 : decode cX4_hears 15 = .ok (.iload_n 3, 1) := by decide +kernel
theorem dX4_hears_16 : decode cX4_hears 16 = .ok (.iconst 2, 1) := by decide +kernel
theorem dX4_hears_17 : decode cX4_hears 17 = .ok (.irem, 1) := by decide +kernel
theorem dX4_hears_18 : decode cX4_hears 18 = .ok (.iconst 1, 1) := by decide +kernel
theorem dX4_hears_19 : decode cX4_hears 19 = .ok (.if_icmp .ne 12, 3) := by decide +kernel
theorem dX4_hears_22 : decode cX4_hears 22 = .ok (.iload_n 3, 1) := by decide +kernel
theorem dX4_hears_23 : decode cX4_hears 23 = .ok (.iconst 1, 1) := by decide +kernel
theorem dX4_hears_24 : decode cX4_hears 24 = .ok (.iadd, 1) := by decide +kernel
theorem dX4_hears_25 : decode cX4_hears 25 = .ok (.bipush 10, 2) := by decide +kernel
theorem dX4_hears_27 : decode cX4_hears 27 = .ok (.irem, 1) := by decide +kernel
theorem dX4_hears_28 : decode cX4_hears 28 = .ok (.goto 4, 3) := by decide +kernel
theorem dX4_hears_31 : decode cX4_hears 31 = .ok (.iload_n 3, 1) := by decide +kernel
theorem dX4_hears_32 : decode cX4_hears 32 = .ok (.ireturn, 1) := by decide +kernel
theorem dX4_learns_0 : decode cX4_learns 0 = .ok (.aload_n 0, 1) := by decide +kernel
theorem dX4_learns_1 : decode cX4_learns 1 = .ok (.getfield 16, 3) := by decide +kernel
theorem dX4_learns_4 : decode cX4_learns 4 = .ok (.iload_n 1, 1) := by decide +kernel
theorem dX4_learns_5 : decode cX4_learns 5 = .ok (.bipush 18, 2) := by decide +kernel
theorem dX4_learns_7 : decode cX4_learns 7 = .ok (.iload_n 2, 1) := by decide +kernel
theorem dX4_learns_8 : decode cX4_learns 8 = .ok (.imul, 1) := by decide +kernel
theorem dX4_learns_9 : decode cX4_learns 9 = .ok (.iadd, 1) := by decide +kernel
theorem dX4_learns_10 : decode cX4_learns 10 = .ok (.iaload, 1) := by decide +kernel
theorem dX4_learns_11 : decode cX4_learns 11 = .ok (.istore 4, 2) := by decide +kernel
theorem dX4_learns_13 : decode cX4_learns 13 = .ok (.aload_n 0, 1) := by decide +kernel
theorem dX4_learns_14 : decode cX4_learns 14 = .ok (.iload_n 1, 1) := by decide +kernel
theorem dX4_learns_15 : decode cX4_learns 15 = .ok (.iload_n 2, 1) := by decide +kernel
theorem dX4_learns_16 : decode cX4_learns 16 = .ok (.iload_n 3, 1) := by decide +kernel
theorem dX4_learns_17 : decode cX4_learns 17 = .ok (.invokevirtual 141, 3) := by decide +kernel
theorem dX4_learns_20 : decode cX4_learns 20 = .ok (.istore 5, 2) := by decide +kernel
theorem dX4_learns_22 : decode cX4_learns 22 = .ok (.aload_n 0, 1) := by decide +kernel
theorem dX4_learns_23 : decode cX4_learns 23 = .ok (.iload_n 1, 1) := by decide +kernel
theorem dX4_learns_24 : decode cX4_learns 24 = .ok (.iload_n 2, 1) := by decide +kernel
theorem dX4_learns_25 : decode cX4_learns 25 = .ok (.iload_n 3, 1) := by decide +kernel
theorem dX4_learns_26 : decode cX4_learns 26 = .ok (.iload 4, 2) := by decide +kernel
theorem dX4_learns_28 : decode cX4_learns 28 = .ok (.iconst 3, 1) := by decide +kernel
theorem dX4_learns_29 : decode cX4_learns 29 = .ok (.if_icmp .ne 13, 3) := by decide +kernel
theorem dX4_learns_32 : decode cX4_learns 32 = .ok (.iload 5, 2) := by decide +kernel
theorem dX4_learns_34 : decode cX4_learns 34 = .ok (.ifCond .lt 8, 3) := by decide +kernel
theorem dX4_learns_37 : decode cX4_learns 37 = .ok (.iload 5, 2) := by decide +kernel
theorem dX4_learns_39 : decode cX4_learns 39 = .ok (.goto 15, 3) := by decide +kernel
theorem dX4_learns_42 : decode cX4_learns 42 = .ok (.aload_n 0, 1) := by decide +kernel
theorem dX4_learns_43 : decode cX4_learns 43 = .ok (.iload_n 1, 1) := by decide +kernel
theorem dX4_learns_44 : decode cX4_learns 44 = .ok (.iload_n 2, 1) := by decide +kernel
theorem dX4_learns_45 : decode cX4_learns 45 = .ok (.aload_n 0, 1) := by decide +kernel
theorem dX4_learns_46 : decode cX4_learns 46 = .ok (.getfield 7, 3) := by decide +kernel
theorem dX4_learns_49 : decode cX4_learns 49 = .ok (.iload_n 3, 1) := by decide +kernel
theorem dX4_learns_50 : decode cX4_learns 50 = .ok (.iaload, 1) := by decide +kernel
theorem dX4_learns_51 : decode cX4_learns 51 = .ok (.invokevirtual 164, 3) := by decide +kernel
theorem dX4_learns_54 : decode cX4_learns 54 = .ok (.invokevirtual 167, 3) := by decide +kernel
theorem dX4_learns_57 : decode cX4_learns 57 = .ok (.iload_n 3, 1) := by decide +kernel
theorem dX4_learns_58 : decode cX4_learns 58 = .ok (.iconst 1, 1) := by decide +kernel
theorem dX4_learns_59 : decode cX4_learns 59 = .ok (.iadd, 1) := by decide +kernel
theorem dX4_learns_60 : decode cX4_learns 60 = .ok (.aload_n 0, 1) := by decide +kernel
theorem dX4_learns_61 : decode cX4_learns 61 = .ok (.getfield 61, 3) := by decide +kernel
theorem dX4_learns_64 : decode cX4_learns 64 = .ok (.irem, 1) := by decide +kernel
theorem dX4_learns_65 : decode cX4_learns 65 = .ok (.istore 6, 2) := by decide +kernel
theorem dX4_learns_67 : decode cX4_learns 67 = .ok (.iload 4, 2) := by decide +kernel
theorem dX4_learns_69 : decode cX4_learns 69 = .ok (.iconst 2, 1) := by decide +kernel
theorem dX4_learns_70 : decode cX4_learns 70 = .ok (.if_icmp .ne 29, 3) := by decide +kernel
theorem dX4_learns_73 : decode cX4_learns 73 = .ok (.aload_n 0, 1) := by decide +kernel
theorem dX4_learns_74 : decode cX4_learns 74 = .ok (.iload_n 1, 1) := by decide +kernel
theorem dX4_learns_75 : decode cX4_learns 75 = .ok (.iload_n 2, 1) := by decide +kernel
theorem dX4_learns_76 : decode cX4_learns 76 = .ok (.iload 6, 2) := by decide +kernel
theorem dX4_learns_78 : decode cX4_learns 78 = .ok (.invokevirtual 141, 3) := by decide +kernel
theorem dX4_learns_81 : decode cX4_learns 81 = .ok (.ifCond .ge 18, 3) := by decide +kernel
theorem dX4_learns_84 : decode cX4_learns 84 = .ok (.aload_n 0, 1) := by decide +kernel
theorem dX4_learns_85 : decode cX4_learns 85 = .ok (.iload_n 1, 1) := by decide +kernel
theorem dX4_learns_86 : decode cX4_learns 86 = .ok (.iload_n 2, 1) := by decide +kernel
theorem dX4_learns_87 : decode cX4_learns 87 = .ok (.iload 6, 2) := by decide +kernel
theorem dX4_learns_89 : decode cX4_learns 89 = .ok (.aload_n 0, 1) := by decide +kernel
theorem dX4_learns_90 : decode cX4_learns 90 = .ok (.getfield 7, 3) := by decide +kernel
theorem dX4_learns_93 : decode cX4_learns 93 = .ok (.iload 6, 2) := by decide +kernel
theorem dX4_learns_95 : decode cX4_learns 95 = .ok (.iaload, 1) := by decide +kernel
theorem dX4_learns_96 : decode cX4_learns 96 = .ok (.invokevirtual 167, 3) := by decide +kernel
theorem dX4_learns_99 : decode cX4_learns 99 = .ok (.return_, 1) := by decide +kernel
theorem dX4_lesson_0 : decode cX4_lesson 0 = .ok (.aload_n 0, 1) := by decide +kernel
theorem dX4_lesson_1 : decode cX4_lesson 1 = .ok (.iload_n 1, 1) := by decide +kernel
theorem dX4_lesson_2 : decode cX4_lesson 2 = .ok (.invokevirtual 152, 3) := by decide +kernel
theorem dX4_lesson_5 : decode cX4_lesson 5 = .ok (.ifCond .eq 11, 3) := by decide +kernel
theorem dX4_lesson_8 : decode cX4_lesson 8 = .ok (.aload_n 0, 1) := by decide +kernel
theorem dX4_lesson_9 : decode cX4_lesson 9 = .ok (.iload_n 2, 1) := by decide +kernel
theorem dX4_lesson_10 : decode cX4_lesson 10 = .ok (.invokevirtual 137, 3) := by decide +kernel
theorem dX4_lesson_13 : decode cX4_lesson 13 = .ok (.ifCond .ne 5, 3) := by decide +kernel
theorem dX4_lesson_16 : decode cX4_lesson 16 = .ok (.iconst (-1), 1) := by decide +kernel
theorem dX4_lesson_17 : decode cX4_lesson 17 = .ok (.ireturn, 1) := by decide +kernel
theorem dX4_lesson_18 : decode cX4_lesson 18 = .ok (.aload_n 0, 1) := by decide +kernel
theorem dX4_lesson_19 : decode cX4_lesson 19 = .ok (.invokevirtual 171, 3) := by decide +kernel
theorem dX4_lesson_22 : decode cX4_lesson 22 = .ok (.aload_n 0, 1) := by decide +kernel
theorem dX4_lesson_23 : decode cX4_lesson 23 = .ok (.iconst 0, 1) := by decide +kernel
theorem dX4_lesson_24 : decode cX4_lesson 24 = .ok (.iload_n 1, 1) := by decide +kernel
theorem dX4_lesson_25 : decode cX4_lesson 25 = .ok (.iload_n 2, 1) := by decide +kernel
theorem dX4_lesson_26 : decode cX4_lesson 26 = .ok (.invokevirtual 174, 3) := by decide +kernel
theorem dX4_lesson_29 : decode cX4_lesson 29 = .ok (.aload_n 0, 1) := by decide +kernel
theorem dX4_lesson_30 : decode cX4_lesson 30 = .ok (.iconst 0, 1) := by decide +kernel
theorem dX4_lesson_31 : decode cX4_lesson 31 = .ok (.iload_n 1, 1) := by decide +kernel
theorem dX4_lesson_32 : decode cX4_lesson 32 = .ok (.iload_n 2, 1) := by decide +kernel
theorem dX4_lesson_33 : decode cX4_lesson 33 = .ok (.invokevirtual 141, 3) := by decide +kernel
theorem dX4_lesson_36 : decode cX4_lesson 36 = .ok (.ireturn, 1) := by decide +kernel
theorem dX4_tellings_0 : decode cX4_tellings 0 = .ok (.iconst 0, 1) := by decide +kernel
theorem dX4_tellings_1 : decode cX4_tellings 1 = .ok (.istore_n 3, 1) := by decide +kernel
theorem dX4_tellings_2 : decode cX4_tellings 2 = .ok (.iload_n 3, 1) := by decide +kernel
theorem dX4_tellings_3 : decode cX4_tellings 3 = .ok (.aload_n 0, 1) := by decide +kernel
theorem dX4_tellings_4 : decode cX4_tellings 4 = .ok (.getfield 64, 3) := by decide +kernel
theorem dX4_tellings_7 : decode cX4_tellings 7 = .ok (.if_icmp .ge 128, 3) := by decide +kernel
theorem dX4_tellings_10 : decode cX4_tellings 10 = .ok (.iload_n 3, 1) := by decide +kernel
theorem dX4_tellings_11 : decode cX4_tellings 11 = .ok (.iconst 1, 1) := by decide +kernel
theorem dX4_tellings_12 : decode cX4_tellings 12 = .ok (.iadd, 1) := by decide +kernel
theorem dX4_tellings_13 : decode cX4_tellings 13 = .ok (.aload_n 0, 1) := by decide +kernel
theorem dX4_tellings_14 : decode cX4_tellings 14 = .ok (.getfield 64, 3) := by decide +kernel
theorem dX4_tellings_17 : decode cX4_tellings 17 = .ok (.irem, 1) := by decide +kernel
theorem dX4_tellings_18 : decode cX4_tellings 18 = .ok (.istore 4, 2) := by decide +kernel
theorem dX4_tellings_20 : decode cX4_tellings 20 = .ok (.aload_n 0, 1) := by decide +kernel
theorem dX4_tellings_21 : decode cX4_tellings 21 = .ok (.getfield 32, 3) := by decide +kernel
theorem dX4_tellings_24 : decode cX4_tellings 24 = .ok (.iload_n 3, 1) := by decide +kernel
theorem dX4_tellings_25 : decode cX4_tellings 25 = .ok (.bipush (-4), 2) := by decide +kernel
theorem dX4_tellings_27 : decode cX4_tellings 27 = .ok (.iastore, 1) := by decide +kernel
theorem dX4_tellings_28 : decode cX4_tellings 28 = .ok (.aload_n 0, 1) := by decide +kernel
theorem dX4_tellings_29 : decode cX4_tellings 29 = .ok (.getfield 61, 3) := by decide +kernel
theorem dX4_tellings_32 : decode cX4_tellings 32 = .ok (.iconst 1, 1) := by decide +kernel
theorem dX4_tellings_33 : decode cX4_tellings 33 = .ok (.isub, 1) := by decide +kernel
theorem dX4_tellings_34 : decode cX4_tellings 34 = .ok (.istore 5, 2) := by decide +kernel
theorem dX4_tellings_36 : decode cX4_tellings 36 = .ok (.iload 5, 2) := by decide +kernel
theorem dX4_tellings_38 : decode cX4_tellings 38 = .ok (.ifCond .lt 59, 3) := by decide +kernel
theorem dX4_tellings_41 : decode cX4_tellings 41 = .ok (.iload 4, 2) := by decide +kernel
theorem dX4_tellings_43 : decode cX4_tellings 43 = .ok (.iload_n 3, 1) := by decide +kernel
theorem dX4_tellings_44 : decode cX4_tellings 44 = .ok (.if_icmp .eq 53, 3) := by decide +kernel
theorem dX4_tellings_47 : decode cX4_tellings 47 = .ok (.iload_n 2, 1) := by decide +kernel
theorem dX4_tellings_48 : decode cX4_tellings 48 = .ok (.ifCond .ne 49, 3) := by decide +kernel
theorem dX4_tellings_51 : decode cX4_tellings 51 = .ok (.aload_n 0, 1) := by decide +kernel
theorem dX4_tellings_52 : decode cX4_tellings 52 = .ok (.getfield 32, 3) := by decide +kernel
theorem dX4_tellings_55 : decode cX4_tellings 55 = .ok (.iload_n 3, 1) := by decide +kernel
theorem dX4_tellings_56 : decode cX4_tellings 56 = .ok (.aload_n 0, 1) := by decide +kernel
theorem dX4_tellings_57 : decode cX4_tellings 57 = .ok (.iload_n 1, 1) := by decide +kernel
theorem dX4_tellings_58 : decode cX4_tellings 58 = .ok (.iload_n 3, 1) := by decide +kernel
theorem dX4_tellings_59 : decode cX4_tellings 59 = .ok (.iload 5, 2) := by decide +kernel
theorem dX4_tellings_61 : decode cX4_tellings 61 = .ok (.invokevirtual 141, 3) := by decide +kernel
theorem dX4_tellings_64 : decode cX4_tellings 64 = .ok (.ifCond .lt 20, 3) := by decide +kernel
theorem dX4_tellings_67 : decode cX4_tellings 67 = .ok (.aload_n 0, 1) := by decide +kernel
theorem dX4_tellings_68 : decode cX4_tellings 68 = .ok (.iload_n 1, 1) := by decide +kernel
theorem dX4_tellings_69 : decode cX4_tellings 69 = .ok (.iload 4, 2) := by decide +kernel
theorem dX4_tellings_71 : decode cX4_tellings 71 = .ok (.iload 5, 2) := by decide +kernel
theorem dX4_tellings_73 : decode cX4_tellings 73 = .ok (.invokevirtual 141, 3) := by decide +kernel
theorem dX4_tellings_76 : decode cX4_tellings 76 = .ok (.ifCond .ge 8, 3) := by decide +kernel
theorem dX4_tellings_79 : decode cX4_tellings 79 = .ok (.iload 5, 2) := by decide +kernel
theorem dX4_tellings_81 : decode cX4_tellings 81 = .ok (.goto 9, 3) := by decide +kernel
theorem dX4_tellings_84 : decode cX4_tellings 84 = .ok (.aload_n 0, 1) := by decide +kernel
theorem dX4_tellings_85 : decode cX4_tellings 85 = .ok (.getfield 32, 3) := by decide +kernel
theorem dX4_tellings_88 : decode cX4_tellings 88 = .ok (.iload_n 3, 1) := by decide +kernel
theorem dX4_tellings_89 : decode cX4_tellings 89 = .ok (.iaload, 1) := by decide +kernel
theorem dX4_tellings_90 : decode cX4_tellings 90 = .ok (.iastore, 1) := by decide +kernel
theorem dX4_tellings_91 : decode cX4_tellings 91 = .ok (.iinc 5 (-1), 3) := by decide +kernel
theorem dX4_tellings_94 : decode cX4_tellings 94 = .ok (.goto (-58), 3) := by decide +kernel
theorem dX4_tellings_97 : decode cX4_tellings 97 = .ok (.aload_n 0, 1) := by decide +kernel
theorem dX4_tellings_98 : decode cX4_tellings 98 = .ok (.getfield 35, 3) := by decide +kernel
theorem dX4_tellings_101 : decode cX4_tellings 101 = .ok (.iload_n 3, 1) := by decide +kernel
theorem dX4_tellings_102 : decode cX4_tellings 102 = .ok (.aload_n 0, 1) := by decide +kernel
theorem dX4_tellings_103 : decode cX4_tellings 103 = .ok (.getfield 32, 3) := by decide +kernel
theorem dX4_tellings_106 : decode cX4_tellings 106 = .ok (.iload_n 3, 1) := by decide +kernel
theorem dX4_tellings_107 : decode cX4_tellings 107 = .ok (.iaload, 1) := by decide +kernel
theorem dX4_tellings_108 : decode cX4_tellings 108 = .ok (.ifCond .ge 8, 3) := by decide +kernel
theorem dX4_tellings_111 : decode cX4_tellings 111 = .ok (.bipush (-4), 2) := by decide +kernel
theorem dX4_tellings_113 : decode cX4_tellings 113 = .ok (.goto 15, 3) := by decide +kernel
theorem dX4_tellings_116 : decode cX4_tellings 116 = .ok (.aload_n 0, 1) := by decide +kernel
theorem dX4_tellings_117 : decode cX4_tellings 117 = .ok (.iload_n 1, 1) := by decide +kernel
theorem dX4_tellings_118 : decode cX4_tellings 118 = .ok (.iload_n 3, 1) := by decide +kernel
theorem dX4_tellings_119 : decode cX4_tellings 119 = .ok (.aload_n 0, 1) := by decide +kernel
theorem dX4_tellings_120 : decode cX4_tellings 120 = .ok (.getfield 32, 3) := by decide +kernel
theorem dX4_tellings_123 : decode cX4_tellings 123 = .ok (.iload_n 3, 1) := by decide +kernel
theorem dX4_tellings_124 : decode cX4_tellings 124 = .ok (.iaload, 1) := by decide +kernel
theorem dX4_tellings_125 : decode cX4_tellings 125 = .ok (.invokevirtual 141, 3) := by decide +kernel
theorem dX4_tellings_128 : decode cX4_tellings 128 = .ok (.iastore, 1) := by decide +kernel
theorem dX4_tellings_129 : decode cX4_tellings 129 = .ok (.iinc 3 1, 3) := by decide +kernel
theorem dX4_tellings_132 : decode cX4_tellings 132 = .ok (.goto (-130), 3) := by decide +kernel
theorem dX4_tellings_135 : decode cX4_tellings 135 = .ok (.return_, 1) := by decide +kernel
theorem dX4_grows_0 : decode cX4_grows 0 = .ok (.iconst 0, 1) := by decide +kernel
theorem dX4_grows_1 : decode cX4_grows 1 = .ok (.istore_n 3, 1) := by decide +kernel
theorem dX4_grows_2 : decode cX4_grows 2 = .ok (.iload_n 3, 1) := by decide +kernel
theorem dX4_grows_3 : decode cX4_grows 3 = .ok (.aload_n 0, 1) := by decide +kernel
theorem dX4_grows_4 : decode cX4_grows 4 = .ok (.getfield 61, 3) := by decide +kernel
theorem dX4_grows_7 : decode cX4_grows 7 = .ok (.if_icmp .ge 107, 3) := by decide +kernel
theorem dX4_grows_10 : decode cX4_grows 10 = .ok (.aload_n 0, 1) := by decide +kernel
theorem dX4_grows_11 : decode cX4_grows 11 = .ok (.iload_n 1, 1) := by decide +kernel
theorem dX4_grows_12 : decode cX4_grows 12 = .ok (.iload_n 2, 1) := by decide +kernel
theorem dX4_grows_13 : decode cX4_grows 13 = .ok (.iload_n 3, 1) := by decide +kernel
theorem dX4_grows_14 : decode cX4_grows 14 = .ok (.invokevirtual 141, 3) := by decide +kernel
theorem dX4_grows_17 : decode cX4_grows 17 = .ok (.ifCond .lt 91, 3) := by decide +kernel
theorem dX4_grows_20 : decode cX4_grows 20 = .ok (.iload_n 3, 1) := by decide +kernel
theorem dX4_grows_21 : decode cX4_grows 21 = .ok (.aload_n 0, 1) := by decide +kernel
theorem dX4_grows_22 : decode cX4_grows 22 = .ok (.getfield 32, 3) := by decide +kernel
theorem dX4_grows_25 : decode cX4_grows 25 = .ok (.iload_n 2, 1) := by decide +kernel
theorem dX4_grows_26 : decode cX4_grows 26 = .ok (.iaload, 1) := by decide +kernel
theorem dX4_grows_27 : decode cX4_grows 27 = .ok (.if_icmp .ne 7, 3) := by decide +kernel
theorem dX4_grows_30 : decode cX4_grows 30 = .ok (.iconst 0, 1) := by decide +kernel
theorem dX4_grows_31 : decode cX4_grows 31 = .ok (.goto 21, 3) := by decide +kernel
theorem dX4_grows_34 : decode cX4_grows 34 = .ok (.aload_n 0, 1) := by decide +kernel
theorem dX4_grows_35 : decode cX4_grows 35 = .ok (.getfield 16, 3) := by decide +kernel
theorem dX4_grows_38 : decode cX4_grows 38 = .ok (.iload_n 1, 1) := by decide +kernel
theorem dX4_grows_39 : decode cX4_grows 39 = .ok (.bipush 18, 2) := by decide +kernel
theorem dX4_grows_41 : decode cX4_grows 41 = .ok (.iload_n 2, 1) := by decide +kernel
theorem dX4_grows_42 : decode cX4_grows 42 = .ok (.imul, 1) := by decide +kernel
theorem dX4_grows_43 : decode cX4_grows 43 = .ok (.iadd, 1) := by decide +kernel
theorem dX4_grows_44 : decode cX4_grows 44 = .ok (.bipush 10, 2) := by decide +kernel
theorem dX4_grows_46 : decode cX4_grows 46 = .ok (.iadd, 1) := by decide +kernel
theorem dX4_grows_47 : decode cX4_grows 47 = .ok (.iload_n 3, 1) := by decide +kernel
theorem dX4_grows_48 : decode cX4_grows 48 = .ok (.iadd, 1) := by decide +kernel
theorem dX4_grows_49 : decode cX4_grows 49 = .ok (.iaload, 1) := by decide +kernel
theorem dX4_grows_50 : decode cX4_grows 50 = .ok (.iconst 1, 1) := by decide +kernel
theorem dX4_grows_51 : decode cX4_grows 51 = .ok (.iadd, 1) := by decide +kernel
theorem dX4_grows_52 : decode cX4_grows 52 = .ok (.istore 4, 2) := by decide +kernel
theorem dX4_grows_54 : decode cX4_grows 54 = .ok (.aload_n 0, 1) := by decide +kernel
theorem dX4_grows_55 : decode cX4_grows 55 = .ok (.getfield 16, 3) := by decide +kernel
theorem dX4_grows_58 : decode cX4_grows 58 = .ok (.iload_n 1, 1) := by decide +kernel
theorem dX4_grows_59 : decode cX4_grows 59 = .ok (.bipush 18, 2) := by decide +kernel
theorem dX4_grows_61 : decode cX4_grows 61 = .ok (.iload_n 2, 1) := by decide +kernel
theorem dX4_grows_62 : decode cX4_grows 62 = .ok (.imul, 1) := by decide +kernel
theorem dX4_grows_63 : decode cX4_grows 63 = .ok (.iadd, 1) := by decide +kernel
theorem dX4_grows_64 : decode cX4_grows 64 = .ok (.bipush 10, 2) := by decide +kernel
theorem dX4_grows_66 : decode cX4_grows 66 = .ok (.iadd, 1) := by decide +kernel
theorem dX4_grows_67 : decode cX4_grows 67 = .ok (.iload_n 3, 1) := by decide +kernel
theorem dX4_grows_68 : decode cX4_grows 68 = .ok (.iadd, 1) := by decide +kernel
theorem dX4_grows_69 : decode cX4_grows 69 = .ok (.iload 4, 2) := by decide +kernel
theorem dX4_grows_71 : decode cX4_grows 71 = .ok (.iastore, 1) := by decide +kernel
theorem dX4_grows_72 : decode cX4_grows 72 = .ok (.iload 4, 2) := by decide +kernel
theorem dX4_grows_74 : decode cX4_grows 74 = .ok (.aload_n 0, 1) := by decide +kernel
theorem dX4_grows_75 : decode cX4_grows 75 = .ok (.getfield 16, 3) := by decide +kernel
theorem dX4_grows_78 : decode cX4_grows 78 = .ok (.iload_n 1, 1) := by decide +kernel
theorem dX4_grows_79 : decode cX4_grows 79 = .ok (.bipush 18, 2) := by decide +kernel
theorem dX4_grows_81 : decode cX4_grows 81 = .ok (.iload_n 2, 1) := by decide +kernel
theorem dX4_grows_82 : decode cX4_grows 82 = .ok (.imul, 1) := by decide +kernel
theorem dX4_grows_83 : decode cX4_grows 83 = .ok (.iadd, 1) := by decide +kernel
theorem dX4_grows_84 : decode cX4_grows 84 = .ok (.iconst 1, 1) := by decide +kernel
theorem dX4_grows_85 : decode cX4_grows 85 = .ok (.iadd, 1) := by decide +kernel
theorem dX4_grows_86 : decode cX4_grows 86 = .ok (.iaload, 1) := by decide +kernel
theorem dX4_grows_87 : decode cX4_grows 87 = .ok (.if_icmp .lt 21, 3) := by decide +kernel
theorem dX4_grows_90 : decode cX4_grows 90 = .ok (.iload_n 3, 1) := by decide +kernel
theorem dX4_grows_91 : decode cX4_grows 91 = .ok (.aload_n 0, 1) := by decide +kernel
theorem dX4_grows_92 : decode cX4_grows 92 = .ok (.getfield 32, 3) := by decide +kernel
theorem dX4_grows_95 : decode cX4_grows 95 = .ok (.iload_n 2, 1) := by decide +kernel
theorem dX4_grows_96 : decode cX4_grows 96 = .ok (.iaload, 1) := by decide +kernel
theorem dX4_grows_97 : decode cX4_grows 97 = .ok (.if_icmp .eq 11, 3) := by decide +kernel
theorem dX4_grows_100 : decode cX4_grows 100 = .ok (.aload_n 0, 1) := by decide +kernel
theorem dX4_grows_101 : decode cX4_grows 101 = .ok (.iload_n 1, 1) := by decide +kernel
theorem dX4_grows_102 : decode cX4_grows 102 = .ok (.iload_n 2, 1) := by decide +kernel
theorem dX4_grows_103 : decode cX4_grows 103 = .ok (.iload_n 3, 1) := by decide +kernel
theorem dX4_grows_104 : decode cX4_grows 104 = .ok (.iconst (-1), 1) := by decide +kernel
theorem dX4_grows_105 : decode cX4_grows 105 = .ok (.invokevirtual 167, 3) := by decide +kernel
theorem dX4_grows_108 : decode cX4_grows 108 = .ok (.iinc 3 1, 3) := by decide +kernel
theorem dX4_grows_111 : decode cX4_grows 111 = .ok (.goto (-109), 3) := by decide +kernel
theorem dX4_grows_114 : decode cX4_grows 114 = .ok (.return_, 1) := by decide +kernel
theorem dX4_goesOn_0 : decode cX4_goesOn 0 = .ok (.aload_n 0, 1) := by decide +kernel
theorem dX4_goesOn_1 : decode cX4_goesOn 1 = .ok (.iload_n 1, 1) := by decide +kernel
theorem dX4_goesOn_2 : decode cX4_goesOn 2 = .ok (.iload_n 2, 1) := by decide +kernel
theorem dX4_goesOn_3 : decode cX4_goesOn 3 = .ok (.invokevirtual 178, 3) := by decide +kernel
theorem dX4_goesOn_6 : decode cX4_goesOn 6 = .ok (.iconst 0, 1) := by decide +kernel
theorem dX4_goesOn_7 : decode cX4_goesOn 7 = .ok (.istore_n 3, 1) := by decide +kernel
theorem dX4_goesOn_8 : decode cX4_goesOn 8 = .ok (.iload_n 3, 1) := by decide +kernel
theorem dX4_goesOn_9 : decode cX4_goesOn 9 = .ok (.aload_n 0, 1) := by decide +kernel
theorem dX4_goesOn_10 : decode cX4_goesOn 10 = .ok (.getfield 64, 3) := by decide +kernel
theorem dX4_goesOn_13 : decode cX4_goesOn 13 = .ok (.if_icmp .ge 15, 3) := by decide +kernel
theorem dX4_goesOn_16 : decode cX4_goesOn 16 = .ok (.aload_n 0, 1) := by decide +kernel
theorem dX4_goesOn_17 : decode cX4_goesOn 17 = .ok (.iload_n 1, 1) := by decide +kernel
theorem dX4_goesOn_18 : decode cX4_goesOn 18 = .ok (.iload_n 3, 1) := by decide +kernel
theorem dX4_goesOn_19 : decode cX4_goesOn 19 = .ok (.invokevirtual 182, 3) := by decide +kernel
theorem dX4_goesOn_22 : decode cX4_goesOn 22 = .ok (.iinc 3 1, 3) := by decide +kernel
theorem dX4_goesOn_25 : decode cX4_goesOn 25 = .ok (.goto (-17), 3) := by decide +kernel
theorem dX4_goesOn_28 : decode cX4_goesOn 28 = .ok (.iconst 0, 1) := by decide +kernel
theorem dX4_goesOn_29 : decode cX4_goesOn 29 = .ok (.istore_n 3, 1) := by decide +kernel
theorem dX4_goesOn_30 : decode cX4_goesOn 30 = .ok (.iload_n 3, 1) := by decide +kernel
theorem dX4_goesOn_31 : decode cX4_goesOn 31 = .ok (.aload_n 0, 1) := by decide +kernel
theorem dX4_goesOn_32 : decode cX4_goesOn 32 = .ok (.getfield 64, 3) := by decide +kernel
theorem dX4_goesOn_35 : decode cX4_goesOn 35 = .ok (.if_icmp .ge 54, 3) := by decide +kernel
theorem dX4_goesOn_38 : decode cX4_goesOn 38 = .ok (.aload_n 0, 1) := by decide +kernel
theorem dX4_goesOn_39 : decode cX4_goesOn 39 = .ok (.getfield 32, 3) := by decide +kernel
theorem dX4_goesOn_42 : decode cX4_goesOn 42 = .ok (.iload_n 3, 1) := by decide +kernel
theorem dX4_goesOn_43 : decode cX4_goesOn 43 = .ok (.iaload, 1) := by decide +kernel
theorem dX4_goesOn_44 : decode cX4_goesOn 44 = .ok (.ifCond .lt 39, 3) := by decide +kernel
theorem dX4_goesOn_47 : decode cX4_goesOn 47 = .ok (.iload_n 3, 1) := by decide +kernel
theorem dX4_goesOn_48 : decode cX4_goesOn 48 = .ok (.iconst 1, 1) := by decide +kernel
theorem dX4_goesOn_49 : decode cX4_goesOn 49 = .ok (.iadd, 1) := by decide +kernel
theorem dX4_goesOn_50 : decode cX4_goesOn 50 = .ok (.aload_n 0, 1) := by decide +kernel
theorem dX4_goesOn_51 : decode cX4_goesOn 51 = .ok (.getfield 64, 3) := by decide +kernel
theorem dX4_goesOn_54 : decode cX4_goesOn 54 = .ok (.irem, 1) := by decide +kernel
theorem dX4_goesOn_55 : decode cX4_goesOn 55 = .ok (.istore 4, 2) := by decide +kernel
theorem dX4_goesOn_57 : decode cX4_goesOn 57 = .ok (.aload_n 0, 1) := by decide +kernel
theorem dX4_goesOn_58 : decode cX4_goesOn 58 = .ok (.iload_n 1, 1) := by decide +kernel
theorem dX4_goesOn_59 : decode cX4_goesOn 59 = .ok (.iload 4, 2) := by decide +kernel
theorem dX4_goesOn_61 : decode cX4_goesOn 61 = .ok (.aload_n 0, 1) := by decide +kernel
theorem dX4_goesOn_62 : decode cX4_goesOn 62 = .ok (.getfield 32, 3) := by decide +kernel
theorem dX4_goesOn_65 : decode cX4_goesOn 65 = .ok (.iload_n 3, 1) := by decide +kernel
theorem dX4_goesOn_66 : decode cX4_goesOn 66 = .ok (.iaload, 1) := by decide +kernel
theorem dX4_goesOn_67 : decode cX4_goesOn 67 = .ok (.aload_n 0, 1) := by decide +kernel
theorem dX4_goesOn_68 : decode cX4_goesOn 68 = .ok (.iload_n 1, 1) := by decide +kernel
theorem dX4_goesOn_69 : decode cX4_goesOn 69 = .ok (.iload 4, 2) := by decide +kernel
theorem dX4_goesOn_71 : decode cX4_goesOn 71 = .ok (.aload_n 0, 1) := by decide +kernel
theorem dX4_goesOn_72 : decode cX4_goesOn 72 = .ok (.getfield 35, 3) := by decide +kernel
theorem dX4_goesOn_75 : decode cX4_goesOn 75 = .ok (.iload_n 3, 1) := by decide +kernel
theorem dX4_goesOn_76 : decode cX4_goesOn 76 = .ok (.iaload, 1) := by decide +kernel
theorem dX4_goesOn_77 : decode cX4_goesOn 77 = .ok (.invokevirtual 164, 3) := by decide +kernel
theorem dX4_goesOn_80 : decode cX4_goesOn 80 = .ok (.invokevirtual 167, 3) := by decide +kernel
theorem dX4_goesOn_83 : decode cX4_goesOn 83 = .ok (.iinc 3 1, 3) := by decide +kernel
theorem dX4_goesOn_86 : decode cX4_goesOn 86 = .ok (.goto (-56), 3) := by decide +kernel
theorem dX4_goesOn_89 : decode cX4_goesOn 89 = .ok (.aload_n 0, 1) := by decide +kernel
theorem dX4_goesOn_90 : decode cX4_goesOn 90 = .ok (.getfield 16, 3) := by decide +kernel
theorem dX4_goesOn_93 : decode cX4_goesOn 93 = .ok (.iload_n 1, 1) := by decide +kernel
theorem dX4_goesOn_94 : decode cX4_goesOn 94 = .ok (.bipush 90, 2) := by decide +kernel
theorem dX4_goesOn_96 : decode cX4_goesOn 96 = .ok (.iadd, 1) := by decide +kernel
theorem dX4_goesOn_97 : decode cX4_goesOn 97 = .ok (.dup2, 1) := by decide +kernel
theorem dX4_goesOn_98 : decode cX4_goesOn 98 = .ok (.iaload, 1) := by decide +kernel
theorem dX4_goesOn_99 : decode cX4_goesOn 99 = .ok (.iconst 1, 1) := by decide +kernel
theorem dX4_goesOn_100 : decode cX4_goesOn 100 = .ok (.iadd, 1) := by decide +kernel
theorem dX4_goesOn_101 : decode cX4_goesOn 101 = .ok (.iastore, 1) := by decide +kernel
theorem dX4_goesOn_102 : decode cX4_goesOn 102 = .ok (.return_, 1) := by decide +kernel
theorem dX4_days_0 : decode cX4_days 0 = .ok (.iconst 0, 1) := by decide +kernel
theorem dX4_days_1 : decode cX4_days 1 = .ok (.istore_n 3, 1) := by decide +kernel
theorem dX4_days_2 : decode cX4_days 2 = .ok (.iload_n 3, 1) := by decide +kernel
theorem dX4_days_3 : decode cX4_days 3 = .ok (.iload_n 2, 1) := by decide +kernel
theorem dX4_days_4 : decode cX4_days 4 = .ok (.if_icmp .ge 15, 3) := by decide +kernel
theorem dX4_days_7 : decode cX4_days 7 = .ok (.aload_n 0, 1) := by decide +kernel
theorem dX4_days_8 : decode cX4_days 8 = .ok (.iload_n 1, 1) := by decide +kernel
theorem dX4_days_9 : decode cX4_days 9 = .ok (.iconst 0, 1) := by decide +kernel
theorem dX4_days_10 : decode cX4_days 10 = .ok (.invokevirtual 185, 3) := by decide +kernel
theorem dX4_days_13 : decode cX4_days 13 = .ok (.iinc 3 1, 3) := by decide +kernel
theorem dX4_days_16 : decode cX4_days 16 = .ok (.goto (-14), 3) := by decide +kernel
theorem dX4_days_19 : decode cX4_days 19 = .ok (.return_, 1) := by decide +kernel
theorem dX4_speakers_0 : decode cX4_speakers 0 = .ok (.iconst 0, 1) := by decide +kernel
theorem dX4_speakers_1 : decode cX4_speakers 1 = .ok (.istore_n 2, 1) := by decide +kernel
theorem dX4_speakers_2 : decode cX4_speakers 2 = .ok (.iconst 0, 1) := by decide +kernel
theorem dX4_speakers_3 : decode cX4_speakers 3 = .ok (.istore_n 3, 1) := by decide +kernel
theorem dX4_speakers_4 : decode cX4_speakers 4 = .ok (.iload_n 3, 1) := by decide +kernel
theorem dX4_speakers_5 : decode cX4_speakers 5 = .ok (.aload_n 0, 1) := by decide +kernel
theorem dX4_speakers_6 : decode cX4_speakers 6 = .ok (.getfield 64, 3) := by decide +kernel
theorem dX4_speakers_9 : decode cX4_speakers 9 = .ok (.if_icmp .ge 26, 3) := by decide +kernel
theorem dX4_speakers_12 : decode cX4_speakers 12 = .ok (.iload_n 2, 1) := by decide +kernel
theorem dX4_speakers_13 : decode cX4_speakers 13 = .ok (.aload_n 0, 1) := by decide +kernel
theorem dX4_speakers_14 : decode cX4_speakers 14 = .ok (.iload_n 1, 1) := by decide +kernel
theorem dX4_speakers_15 : decode cX4_speakers 15 = .ok (.iload_n 3, 1) := by decide +kernel
theorem dX4_speakers_16 : decode cX4_speakers 16 = .ok (.invokevirtual 160, 3) := by decide +kernel
theorem dX4_speakers_19 : decode cX4_speakers 19 = .ok (.ifCond .eq 7, 3) := by decide +kernel
theorem dX4_speakers_22 : decode cX4_speakers 22 = .ok (.iconst 1, 1) := by decide +kernel
theorem dX4_speakers_23 : decode cX4_speakers 23 = .ok (.goto 4, 3) := by decide +kernel
theorem dX4_speakers_26 : decode cX4_speakers 26 = .ok (.iconst 0, 1) := by decide +kernel
theorem dX4_speakers_27 : decode cX4_speakers 27 = .ok (.iadd, 1) := by decide +kernel
theorem dX4_speakers_28 : decode cX4_speakers 28 = .ok (.istore_n 2, 1) := by decide +kernel
theorem dX4_speakers_29 : decode cX4_speakers 29 = .ok (.iinc 3 1, 3) := by decide +kernel
theorem dX4_speakers_32 : decode cX4_speakers 32 = .ok (.goto (-28), 3) := by decide +kernel
theorem dX4_speakers_35 : decode cX4_speakers 35 = .ok (.iload_n 2, 1) := by decide +kernel
theorem dX4_speakers_36 : decode cX4_speakers 36 = .ok (.ireturn, 1) := by decide +kernel
theorem dX4_rights_0 : decode cX4_rights 0 = .ok (.iconst 0, 1) := by decide +kernel
theorem dX4_rights_1 : decode cX4_rights 1 = .ok (.istore_n 2, 1) := by decide +kernel
theorem dX4_rights_2 : decode cX4_rights 2 = .ok (.iconst 0, 1) := by decide +kernel
theorem dX4_rights_3 : decode cX4_rights 3 = .ok (.istore_n 3, 1) := by decide +kernel
theorem dX4_rights_4 : decode cX4_rights 4 = .ok (.iload_n 3, 1) := by decide +kernel
theorem dX4_rights_5 : decode cX4_rights 5 = .ok (.aload_n 0, 1) := by decide +kernel
theorem dX4_rights_6 : decode cX4_rights 6 = .ok (.getfield 64, 3) := by decide +kernel
theorem dX4_rights_9 : decode cX4_rights 9 = .ok (.if_icmp .ge 21, 3) := by decide +kernel
theorem dX4_rights_12 : decode cX4_rights 12 = .ok (.iload_n 2, 1) := by decide +kernel
theorem dX4_rights_13 : decode cX4_rights 13 = .ok (.aload_n 0, 1) := by decide +kernel
theorem dX4_rights_14 : decode cX4_rights 14 = .ok (.iload_n 1, 1) := by decide +kernel
theorem dX4_rights_15 : decode cX4_rights 15 = .ok (.iload_n 3, 1) := by decide +kernel
theorem dX4_rights_16 : decode cX4_rights 16 = .ok (.invokevirtual 145, 3) := by decide +kernel
theorem dX4_rights_19 : decode cX4_rights 19 = .ok (.invokestatic 148, 3) := by decide +kernel
theorem dX4_rights_22 : decode cX4_rights 22 = .ok (.iadd, 1) := by decide +kernel
theorem dX4_rights_23 : decode cX4_rights 23 = .ok (.istore_n 2, 1) := by decide +kernel
theorem dX4_rights_24 : decode cX4_rights 24 = .ok (.iinc 3 1, 3) := by decide +kernel
theorem dX4_rights_27 : decode cX4_rights 27 = .ok (.goto (-23), 3) := by decide +kernel
theorem dX4_rights_30 : decode cX4_rights 30 = .ok (.iload_n 2, 1) := by decide +kernel
theorem dX4_rights_31 : decode cX4_rights 31 = .ok (.ireturn, 1) := by decide +kernel
theorem dX4_pass_0 : decode cX4_pass 0 = .ok (.iload_n 1, 1) := by decide +kernel
theorem dX4_pass_1 : decode cX4_pass 1 = .ok (.i2l, 1) := by decide +kernel
theorem dX4_pass_2 : decode cX4_pass 2 = .ok (.lconst 1, 1) := by decide +kernel
theorem dX4_pass_3 : decode cX4_pass 3 = .ok (.ldc2_w 188, 3) := by decide +kernel
theorem dX4_pass_6 : decode cX4_pass 6 = .ok (.invokestatic 73, 3) := by decide +kernel
theorem dX4_pass_9 : decode cX4_pass 9 = .ok (.ifCond .ne 5, 3) := by decide +kernel
theorem dX4_pass_12 : decode cX4_pass 12 = .ok (.iconst (-1), 1) := by decide +kernel
theorem dX4_pass_13 : decode cX4_pass 13 = .ok (.ireturn, 1) := by decide +kernel
theorem dX4_pass_14 : decode cX4_pass 14 = .ok (.aload_n 0, 1) := by decide +kernel
theorem dX4_pass_15 : decode cX4_pass 15 = .ok (.getfield 16, 3) := by decide +kernel
theorem dX4_pass_18 : decode cX4_pass 18 = .ok (.bipush 90, 2) := by decide +kernel
theorem dX4_pass_20 : decode cX4_pass 20 = .ok (.iaload, 1) := by decide +kernel
theorem dX4_pass_21 : decode cX4_pass 21 = .ok (.iload_n 1, 1) := by decide +kernel
theorem dX4_pass_22 : decode cX4_pass 22 = .ok (.iadd, 1) := by decide +kernel
theorem dX4_pass_23 : decode cX4_pass 23 = .ok (.sipush 999, 3) := by decide +kernel
theorem dX4_pass_26 : decode cX4_pass 26 = .ok (.if_icmp .le 6, 3) := by decide +kernel
theorem dX4_pass_29 : decode cX4_pass 29 = .ok (.bipush (-2), 2) := by decide +kernel
theorem dX4_pass_31 : decode cX4_pass 31 = .ok (.ireturn, 1) := by decide +kernel
theorem dX4_pass_32 : decode cX4_pass 32 = .ok (.aload_n 0, 1) := by decide +kernel
theorem dX4_pass_33 : decode cX4_pass 33 = .ok (.invokevirtual 171, 3) := by decide +kernel
theorem dX4_pass_36 : decode cX4_pass 36 = .ok (.aload_n 0, 1) := by decide +kernel
theorem dX4_pass_37 : decode cX4_pass 37 = .ok (.iconst 0, 1) := by decide +kernel
theorem dX4_pass_38 : decode cX4_pass 38 = .ok (.iload_n 1, 1) := by decide +kernel
theorem dX4_pass_39 : decode cX4_pass 39 = .ok (.invokevirtual 190, 3) := by decide +kernel
theorem dX4_pass_42 : decode cX4_pass 42 = .ok (.aload_n 0, 1) := by decide +kernel
theorem dX4_pass_43 : decode cX4_pass 43 = .ok (.iconst 0, 1) := by decide +kernel
theorem dX4_pass_44 : decode cX4_pass 44 = .ok (.invokevirtual 193, 3) := by decide +kernel
theorem dX4_pass_47 : decode cX4_pass 47 = .ok (.ireturn, 1) := by decide +kernel
theorem dX4_canMend_0 : decode cX4_canMend 0 = .ok (.aload_n 0, 1) := by decide +kernel
theorem dX4_canMend_1 : decode cX4_canMend 1 = .ok (.iload_n 1, 1) := by decide +kernel
theorem dX4_canMend_2 : decode cX4_canMend 2 = .ok (.iload_n 2, 1) := by decide +kernel
theorem dX4_canMend_3 : decode cX4_canMend 3 = .ok (.iload_n 3, 1) := by decide +kernel
theorem dX4_canMend_4 : decode cX4_canMend 4 = .ok (.invokevirtual 141, 3) := by decide +kernel
theorem dX4_canMend_7 : decode cX4_canMend 7 = .ok (.ifCond .lt 23, 3) := by decide +kernel
theorem dX4_canMend_10 : decode cX4_canMend 10 = .ok (.aload_n 0, 1) := by decide +kernel
theorem dX4_canMend_11 : decode cX4_canMend 11 = .ok (.iload_n 1, 1) := by decide +kernel
theorem dX4_canMend_12 : decode cX4_canMend 12 = .ok (.iload_n 2, 1) := by decide +kernel
theorem dX4_canMend_13 : decode cX4_canMend 13 = .ok (.iload_n 3, 1) := by decide +kernel
theorem dX4_canMend_14 : decode cX4_canMend 14 = .ok (.invokevirtual 141, 3) := by decide +kernel
theorem dX4_canMend_17 : decode cX4_canMend 17 = .ok (.aload_n 0, 1) := by decide +kernel
theorem dX4_canMend_18 : decode cX4_canMend 18 = .ok (.getfield 7, 3) := by decide +kernel
theorem dX4_canMend_21 : decode cX4_canMend 21 = .ok (.iload_n 3, 1) := by decide +kernel
theorem dX4_canMend_22 : decode cX4_canMend 22 = .ok (.iaload, 1) := by decide +kernel
theorem dX4_canMend_23 : decode cX4_canMend 23 = .ok (.if_icmp .eq 7, 3) := by decide +kernel
theorem dX4_canMend_26 : decode cX4_canMend 26 = .ok (.iconst 1, 1) := by decide +kernel
theorem dX4_canMend_27 : decode cX4_canMend 27 = .ok (.goto 4, 3) := by decide +kernel
theorem dX4_canMend_30 : decode cX4_canMend 30 = .ok (.iconst 0, 1) := by decide +kernel
theorem dX4_canMend_31 : decode cX4_canMend 31 = .ok (.ireturn, 1) := by decide +kernel
theorem dX4_mend_0 : decode cX4_mend 0 = .ok (.aload_n 0, 1) := by decide +kernel
theorem dX4_mend_1 : decode cX4_mend 1 = .ok (.iload_n 1, 1) := by decide +kernel
theorem dX4_mend_2 : decode cX4_mend 2 = .ok (.invokevirtual 152, 3) := by decide +kernel
theorem dX4_mend_5 : decode cX4_mend 5 = .ok (.ifCond .eq 11, 3) := by decide +kernel
theorem dX4_mend_8 : decode cX4_mend 8 = .ok (.aload_n 0, 1) := by decide +kernel
theorem dX4_mend_9 : decode cX4_mend 9 = .ok (.iload_n 2, 1) := by decide +kernel
theorem dX4_mend_10 : decode cX4_mend 10 = .ok (.invokevirtual 137, 3) := by decide +kernel
theorem dX4_mend_13 : decode cX4_mend 13 = .ok (.ifCond .ne 5, 3) := by decide +kernel
theorem dX4_mend_16 : decode cX4_mend 16 = .ok (.iconst (-1), 1) := by decide +kernel
theorem dX4_mend_17 : decode cX4_mend 17 = .ok (.ireturn, 1) := by decide +kernel
theorem dX4_mend_18 : decode cX4_mend 18 = .ok (.aload_n 0, 1) := by decide +kernel
theorem dX4_mend_19 : decode cX4_mend 19 = .ok (.iconst 0, 1) := by decide +kernel
theorem dX4_mend_20 : decode cX4_mend 20 = .ok (.iload_n 1, 1) := by decide +kernel
theorem dX4_mend_21 : decode cX4_mend 21 = .ok (.iload_n 2, 1) := by decide +kernel
theorem dX4_mend_22 : decode cX4_mend 22 = .ok (.invokevirtual 196, 3) := by decide +kernel
theorem dX4_mend_25 : decode cX4_mend 25 = .ok (.ifCond .ne 6, 3) := by decide +kernel
theorem dX4_mend_28 : decode cX4_mend 28 = .ok (.bipush (-2), 2) := by decide +kernel
theorem dX4_mend_30 : decode cX4_mend 30 = .ok (.ireturn, 1) := by decide +kernel
theorem dX4_mend_31 : decode cX4_mend 31 = .ok (.aload_n 0, 1) := by decide +kernel
theorem dX4_mend_32 : decode cX4_mend 32 = .ok (.invokevirtual 171, 3) := by decide +kernel
theorem dX4_mend_35 : decode cX4_mend 35 = .ok (.aload_n 0, 1) := by decide +kernel
theorem dX4_mend_36 : decode cX4_mend 36 = .ok (.iconst 0, 1) := by decide +kernel
theorem dX4_mend_37 : decode cX4_mend 37 = .ok (.iload_n 1, 1) := by decide +kernel
theorem dX4_mend_38 : decode cX4_mend 38 = .ok (.iload_n 2, 1) := by decide +kernel
theorem dX4_mend_39 : decode cX4_mend 39 = .ok (.invokevirtual 141, 3) := by decide +kernel
theorem dX4_mend_42 : decode cX4_mend 42 = .ok (.istore_n 3, 1) := by decide +kernel
theorem dX4_mend_43 : decode cX4_mend 43 = .ok (.aload_n 0, 1) := by decide +kernel
theorem dX4_mend_44 : decode cX4_mend 44 = .ok (.iconst 0, 1) := by decide +kernel
theorem dX4_mend_45 : decode cX4_mend 45 = .ok (.iload_n 1, 1) := by decide +kernel
theorem dX4_mend_46 : decode cX4_mend 46 = .ok (.iload_n 2, 1) := by decide +kernel
theorem dX4_mend_47 : decode cX4_mend 47 = .ok (.aload_n 0, 1) := by decide +kernel
theorem dX4_mend_48 : decode cX4_mend 48 = .ok (.getfield 7, 3) := by decide +kernel
theorem dX4_mend_51 : decode cX4_mend 51 = .ok (.iload_n 2, 1) := by decide +kernel
theorem dX4_mend_52 : decode cX4_mend 52 = .ok (.iaload, 1) := by decide +kernel
theorem dX4_mend_53 : decode cX4_mend 53 = .ok (.invokevirtual 167, 3) := by decide +kernel
theorem dX4_mend_56 : decode cX4_mend 56 = .ok (.iload_n 3, 1) := by decide +kernel
theorem dX4_mend_57 : decode cX4_mend 57 = .ok (.ireturn, 1) := by decide +kernel
theorem dX4_swaps_0 : decode cX4_swaps 0 = .ok (.iconst 0, 1) := by decide +kernel
theorem dX4_swaps_1 : decode cX4_swaps 1 = .ok (.istore 4, 2) := by decide +kernel
theorem dX4_swaps_3 : decode cX4_swaps 3 = .ok (.iload 4, 2) := by decide +kernel
theorem dX4_swaps_5 : decode cX4_swaps 5 = .ok (.bipush 18, 2) := by decide +kernel
theorem dX4_swaps_7 : decode cX4_swaps 7 = .ok (.if_icmp .ge 69, 3) := by decide +kernel
theorem dX4_swaps_10 : decode cX4_swaps 10 = .ok (.aload_n 0, 1) := by decide +kernel
theorem dX4_swaps_11 : decode cX4_swaps 11 = .ok (.getfield 16, 3) := by decide +kernel
theorem dX4_swaps_14 : decode cX4_swaps 14 = .ok (.iload_n 1, 1) := by decide +kernel
theorem dX4_swaps_15 : decode cX4_swaps 15 = .ok (.bipush 18, 2) := by decide +kernel
theorem dX4_swaps_17 : decode cX4_swaps 17 = .ok (.iload_n 2, 1) := by decide +kernel
theorem dX4_swaps_18 : decode cX4_swaps 18 = .ok (.imul, 1) := by decide +kernel
theorem dX4_swaps_19 : decode cX4_swaps 19 = .ok (.iadd, 1) := by decide +kernel
theorem dX4_swaps_20 : decode cX4_swaps 20 = .ok (.iload 4, 2) := by decide +kernel
theorem dX4_swaps_22 : decode cX4_swaps 22 = .ok (.iadd, 1) := by decide +kernel
theorem dX4_swaps_23 : decode cX4_swaps 23 = .ok (.iaload, 1) := by decide +kernel
theorem dX4_swaps_24 : decode cX4_swaps 24 = .ok (.istore 5, 2) := by decide +kernel
theorem dX4_swaps_26 : decode cX4_swaps 26 = .ok (.aload_n 0, 1) := by decide +kernel
theorem dX4_swaps_27 : decode cX4_swaps 27 = .ok (.getfield 16, 3) := by decide +kernel
theorem dX4_swaps_30 : decode cX4_swaps 30 = .ok (.iload_n 1, 1) := by decide +kernel
theorem dX4_swaps_31 : decode cX4_swaps 31 = .ok (.bipush 18, 2) := by decide +kernel
theorem dX4_swaps_33 : decode cX4_swaps 33 = .ok (.iload_n 2, 1) := by decide +kernel
theorem dX4_swaps_34 : decode cX4_swaps 34 = .ok (.imul, 1) := by decide +kernel
theorem dX4_swaps_35 : decode cX4_swaps 35 = .ok (.iadd, 1) := by decide +kernel
theorem dX4_swaps_36 : decode cX4_swaps 36 = .ok (.iload 4, 2) := by decide +kernel
theorem dX4_swaps_38 : decode cX4_swaps 38 = .ok (.iadd, 1) := by decide +kernel
theorem dX4_swaps_39 : decode cX4_swaps 39 = .ok (.aload_n 0, 1) := by decide +kernel
theorem dX4_swaps_40 : decode cX4_swaps 40 = .ok (.getfield 16, 3) := by decide +kernel
theorem dX4_swaps_43 : decode cX4_swaps 43 = .ok (.iload_n 1, 1) := by decide +kernel
theorem dX4_swaps_44 : decode cX4_swaps 44 = .ok (.bipush 18, 2) := by decide +kernel
theorem dX4_swaps_46 : decode cX4_swaps 46 = .ok (.iload_n 3, 1) := by decide +kernel
theorem dX4_swaps_47 : decode cX4_swaps 47 = .ok (.imul, 1) := by decide +kernel
theorem dX4_swaps_48 : decode cX4_swaps 48 = .ok (.iadd, 1) := by decide +kernel
theorem dX4_swaps_49 : decode cX4_swaps 49 = .ok (.iload 4, 2) := by decide +kernel
theorem dX4_swaps_51 : decode cX4_swaps 51 = .ok (.iadd, 1) := by decide +kernel
theorem dX4_swaps_52 : decode cX4_swaps 52 = .ok (.iaload, 1) := by decide +kernel
theorem dX4_swaps_53 : decode cX4_swaps 53 = .ok (.iastore, 1) := by decide +kernel
theorem dX4_swaps_54 : decode cX4_swaps 54 = .ok (.aload_n 0, 1) := by decide +kernel
theorem dX4_swaps_55 : decode cX4_swaps 55 = .ok (.getfield 16, 3) := by decide +kernel
theorem dX4_swaps_58 : decode cX4_swaps 58 = .ok (.iload_n 1, 1) := by decide +kernel
theorem dX4_swaps_59 : decode cX4_swaps 59 = .ok (.bipush 18, 2) := by decide +kernel
theorem dX4_swaps_61 : decode cX4_swaps 61 = .ok (.iload_n 3, 1) := by decide +kernel
theorem dX4_swaps_62 : decode cX4_swaps 62 = .ok (.imul, 1) := by decide +kernel
theorem dX4_swaps_63 : decode cX4_swaps 63 = .ok (.iadd, 1) := by decide +kernel
theorem dX4_swaps_64 : decode cX4_swaps 64 = .ok (.iload 4, 2) := by decide +kernel
theorem dX4_swaps_66 : decode cX4_swaps 66 = .ok (.iadd, 1) := by decide +kernel
theorem dX4_swaps_67 : decode cX4_swaps 67 = .ok (.iload 5, 2) := by decide +kernel
theorem dX4_swaps_69 : decode cX4_swaps 69 = .ok (.iastore, 1) := by decide +kernel
theorem dX4_swaps_70 : decode cX4_swaps 70 = .ok (.iinc 4 1, 3) := by decide +kernel
theorem dX4_swaps_73 : decode cX4_swaps 73 = .ok (.goto (-70), 3) := by decide +kernel
theorem dX4_swaps_76 : decode cX4_swaps 76 = .ok (.return_, 1) := by decide +kernel
theorem dX4_change_0 : decode cX4_change 0 = .ok (.aload_n 0, 1) := by decide +kernel
theorem dX4_change_1 : decode cX4_change 1 = .ok (.iload_n 1, 1) := by decide +kernel
theorem dX4_change_2 : decode cX4_change 2 = .ok (.invokevirtual 152, 3) := by decide +kernel
theorem dX4_change_5 : decode cX4_change 5 = .ok (.ifCond .eq 16, 3) := by decide +kernel
theorem dX4_change_8 : decode cX4_change 8 = .ok (.aload_n 0, 1) := by decide +kernel
theorem dX4_change_9 : decode cX4_change 9 = .ok (.iload_n 2, 1) := by decide +kernel
theorem dX4_change_10 : decode cX4_change 10 = .ok (.invokevirtual 152, 3) := by decide +kernel
theorem dX4_change_13 : decode cX4_change 13 = .ok (.ifCond .eq 8, 3) := by decide +kernel
theorem dX4_change_16 : decode cX4_change 16 = .ok (.iload_n 1, 1) := by decide +kernel
theorem dX4_change_17 : decode cX4_change 17 = .ok (.iload_n 2, 1) := by decide +kernel
theorem dX4_change_18 : decode cX4_change 18 = .ok (.if_icmp .ne 5, 3) := by decide +kernel
theorem dX4_change_21 : decode cX4_change 21 = .ok (.iconst (-1), 1) := by decide +kernel
theorem dX4_change_22 : decode cX4_change 22 = .ok (.ireturn, 1) := by decide +kernel
theorem dX4_change_23 : decode cX4_change 23 = .ok (.aload_n 0, 1) := by decide +kernel
theorem dX4_change_24 : decode cX4_change 24 = .ok (.invokevirtual 171, 3) := by decide +kernel
theorem dX4_change_27 : decode cX4_change 27 = .ok (.aload_n 0, 1) := by decide +kernel
theorem dX4_change_28 : decode cX4_change 28 = .ok (.iconst 0, 1) := by decide +kernel
theorem dX4_change_29 : decode cX4_change 29 = .ok (.iload_n 1, 1) := by decide +kernel
theorem dX4_change_30 : decode cX4_change 30 = .ok (.iload_n 2, 1) := by decide +kernel
theorem dX4_change_31 : decode cX4_change 31 = .ok (.invokevirtual 200, 3) := by decide +kernel
theorem dX4_change_34 : decode cX4_change 34 = .ok (.aload_n 0, 1) := by decide +kernel
theorem dX4_change_35 : decode cX4_change 35 = .ok (.getfield 16, 3) := by decide +kernel
theorem dX4_change_38 : decode cX4_change 38 = .ok (.bipush 18, 2) := by decide +kernel
theorem dX4_change_40 : decode cX4_change 40 = .ok (.iload_n 1, 1) := by decide +kernel
theorem dX4_change_41 : decode cX4_change 41 = .ok (.imul, 1) := by decide +kernel
theorem dX4_change_42 : decode cX4_change 42 = .ok (.iaload, 1) := by decide +kernel
theorem dX4_change_43 : decode cX4_change 43 = .ok (.ireturn, 1) := by decide +kernel
theorem dX4_undo_0 : decode cX4_undo 0 = .ok (.aload_n 0, 1) := by decide +kernel
theorem dX4_undo_1 : decode cX4_undo 1 = .ok (.getfield 128, 3) := by decide +kernel
theorem dX4_undo_4 : decode cX4_undo 4 = .ok (.ifCond .ne 6, 3) := by decide +kernel
theorem dX4_undo_7 : decode cX4_undo 7 = .ok (.bipush (-2), 2) := by decide +kernel
theorem dX4_undo_9 : decode cX4_undo 9 = .ok (.ireturn, 1) := by decide +kernel
theorem dX4_undo_10 : decode cX4_undo 10 = .ok (.aload_n 0, 1) := by decide +kernel
theorem dX4_undo_11 : decode cX4_undo 11 = .ok (.aload_n 0, 1) := by decide +kernel
theorem dX4_undo_12 : decode cX4_undo 12 = .ok (.getfield 128, 3) := by decide +kernel
theorem dX4_undo_15 : decode cX4_undo 15 = .ok (.bipush 91, 2) := by decide +kernel
theorem dX4_undo_17 : decode cX4_undo 17 = .ok (.imul, 1) := by decide +kernel
theorem dX4_undo_18 : decode cX4_undo 18 = .ok (.iconst 0, 1) := by decide +kernel
theorem dX4_undo_19 : decode cX4_undo 19 = .ok (.invokevirtual 70, 3) := by decide +kernel
theorem dX4_undo_22 : decode cX4_undo 22 = .ok (.aload_n 0, 1) := by decide +kernel
theorem dX4_undo_23 : decode cX4_undo 23 = .ok (.dup, 1) := by decide +kernel
theorem dX4_undo_24 : decode cX4_undo 24 = .ok (.getfield 128, 3) := by decide +kernel
theorem dX4_undo_27 : decode cX4_undo 27 = .ok (.iconst 1, 1) := by decide +kernel
theorem dX4_undo_28 : decode cX4_undo 28 = .ok (.isub, 1) := by decide +kernel
theorem dX4_undo_29 : decode cX4_undo 29 = .ok (.putfield 128, 3) := by decide +kernel
theorem dX4_undo_32 : decode cX4_undo 32 = .ok (.aload_n 0, 1) := by decide +kernel
theorem dX4_undo_33 : decode cX4_undo 33 = .ok (.getfield 128, 3) := by decide +kernel
theorem dX4_undo_36 : decode cX4_undo 36 = .ok (.ireturn, 1) := by decide +kernel
theorem dX4_behind_0 : decode cX4_behind 0 = .ok (.iload_n 1, 1) := by decide +kernel
theorem dX4_behind_1 : decode cX4_behind 1 = .ok (.i2l, 1) := by decide +kernel
theorem dX4_behind_2 : decode cX4_behind 2 = .ok (.lconst 0, 1) := by decide +kernel
theorem dX4_behind_3 : decode cX4_behind 3 = .ok (.ldc2_w 203, 3) := by decide +kernel
theorem dX4_behind_6 : decode cX4_behind 6 = .ok (.invokestatic 73, 3) := by decide +kernel
theorem dX4_behind_9 : decode cX4_behind 9 = .ok (.ifCond .eq 29, 3) := by decide +kernel
theorem dX4_behind_12 : decode cX4_behind 12 = .ok (.aload_n 0, 1) := by decide +kernel
theorem dX4_behind_13 : decode cX4_behind 13 = .ok (.iload_n 2, 1) := by decide +kernel
theorem dX4_behind_14 : decode cX4_behind 14 = .ok (.invokevirtual 152, 3) := by decide +kernel
theorem dX4_behind_17 : decode cX4_behind 17 = .ok (.ifCond .eq 21, 3) := by decide +kernel
theorem dX4_behind_20 : decode cX4_behind 20 = .ok (.iload_n 3, 1) := by decide +kernel
theorem dX4_behind_21 : decode cX4_behind 21 = .ok (.i2l, 1) := by decide +kernel
theorem dX4_behind_22 : decode cX4_behind 22 = .ok (.ldc2_w 205, 3) := by decide +kernel
theorem dX4_behind_25 : decode cX4_behind 25 = .ok (.aload_n 0, 1) := by decide +kernel
theorem dX4_behind_26 : decode cX4_behind 26 = .ok (.getfield 61, 3) := by decide +kernel
theorem dX4_behind_29 : decode cX4_behind 29 = .ok (.iconst 1, 1) := by decide +kernel
theorem dX4_behind_30 : decode cX4_behind 30 = .ok (.isub, 1) := by decide +kernel
theorem dX4_behind_31 : decode cX4_behind 31 = .ok (.i2l, 1) := by decide +kernel
theorem dX4_behind_32 : decode cX4_behind 32 = .ok (.invokestatic 73, 3) := by decide +kernel
theorem dX4_behind_35 : decode cX4_behind 35 = .ok (.ifCond .ne 5, 3) := by decide +kernel
theorem dX4_behind_38 : decode cX4_behind 38 = .ok (.iconst (-1), 1) := by decide +kernel
theorem dX4_behind_39 : decode cX4_behind 39 = .ok (.ireturn, 1) := by decide +kernel
theorem dX4_behind_40 : decode cX4_behind 40 = .ok (.aload_n 0, 1) := by decide +kernel
theorem dX4_behind_41 : decode cX4_behind 41 = .ok (.iconst 0, 1) := by decide +kernel
theorem dX4_behind_42 : decode cX4_behind 42 = .ok (.sipush 1001, 3) := by decide +kernel
theorem dX4_behind_45 : decode cX4_behind 45 = .ok (.invokevirtual 70, 3) := by decide +kernel
theorem dX4_behind_48 : decode cX4_behind 48 = .ok (.aload_n 0, 1) := by decide +kernel
theorem dX4_behind_49 : decode cX4_behind 49 = .ok (.sipush 1001, 3) := by decide +kernel
theorem dX4_behind_52 : decode cX4_behind 52 = .ok (.iload_n 1, 1) := by decide +kernel
theorem dX4_behind_53 : decode cX4_behind 53 = .ok (.invokevirtual 190, 3) := by decide +kernel
theorem dX4_behind_56 : decode cX4_behind 56 = .ok (.iload_n 3, 1) := by decide +kernel
theorem dX4_behind_57 : decode cX4_behind 57 = .ok (.ifCond .ge 17, 3) := by decide +kernel
theorem dX4_behind_60 : decode cX4_behind 60 = .ok (.aload_n 0, 1) := by decide +kernel
theorem dX4_behind_61 : decode cX4_behind 61 = .ok (.sipush 1001, 3) := by decide +kernel
theorem dX4_behind_64 : decode cX4_behind 64 = .ok (.iload_n 2, 1) := by decide +kernel
theorem dX4_behind_65 : decode cX4_behind 65 = .ok (.invokevirtual 145, 3) := by decide +kernel
theorem dX4_behind_68 : decode cX4_behind 68 = .ok (.invokestatic 148, 3) := by decide +kernel
theorem dX4_behind_71 : decode cX4_behind 71 = .ok (.goto 29, 3) := by decide +kernel
theorem dX4_behind_74 : decode cX4_behind 74 = .ok (.aload_n 0, 1) := by decide +kernel
theorem dX4_behind_75 : decode cX4_behind 75 = .ok (.sipush 1001, 3) := by decide +kernel
theorem dX4_behind_78 : decode cX4_behind 78 = .ok (.iload_n 2, 1) := by decide +kernel
theorem dX4_behind_79 : decode cX4_behind 79 = .ok (.iload_n 3, 1) := by decide +kernel
theorem dX4_behind_80 : decode cX4_behind 80 = .ok (.invokevirtual 141, 3) := by decide +kernel
theorem dX4_behind_83 : decode cX4_behind 83 = .ok (.ifCond .ge 8, 3) := by decide +kernel
theorem dX4_behind_86 : decode cX4_behind 86 = .ok (.bipush (-4), 2) := by decide +kernel
theorem dX4_behind_88 : decode cX4_behind 88 = .ok (.goto 12, 3) := by decide +kernel
theorem dX4_behind_91 : decode cX4_behind 91 = .ok (.aload_n 0, 1) := by decide +kernel
theorem dX4_behind_92 : decode cX4_behind 92 = .ok (.sipush 1001, 3) := by decide +kernel
theorem dX4_behind_95 : decode cX4_behind 95 = .ok (.iload_n 2, 1) := by decide +kernel
theorem dX4_behind_96 : decode cX4_behind 96 = .ok (.iload_n 3, 1) := by decide +kernel
theorem dX4_behind_97 : decode cX4_behind 97 = .ok (.invokevirtual 141, 3) := by decide +kernel
theorem dX4_behind_100 : decode cX4_behind 100 = .ok (.ireturn, 1) := by decide +kernel
theorem dX4_made_0 : decode cX4_made 0 = .ok (.aload_n 0, 1) := by decide +kernel
theorem dX4_made_1 : decode cX4_made 1 = .ok (.iload_n 1, 1) := by decide +kernel
theorem dX4_made_2 : decode cX4_made 2 = .ok (.invokevirtual 152, 3) := by decide +kernel
theorem dX4_made_5 : decode cX4_made 5 = .ok (.ifCond .ne 5, 3) := by decide +kernel
theorem dX4_made_8 : decode cX4_made 8 = .ok (.iconst (-1), 1) := by decide +kernel
theorem dX4_made_9 : decode cX4_made 9 = .ok (.ireturn, 1) := by decide +kernel
theorem dX4_made_10 : decode cX4_made 10 = .ok (.aload_n 0, 1) := by decide +kernel
theorem dX4_made_11 : decode cX4_made 11 = .ok (.iconst 0, 1) := by decide +kernel
theorem dX4_made_12 : decode cX4_made 12 = .ok (.sipush 1001, 3) := by decide +kernel
theorem dX4_made_15 : decode cX4_made 15 = .ok (.invokevirtual 70, 3) := by decide +kernel
theorem dX4_made_18 : decode cX4_made 18 = .ok (.iconst 0, 1) := by decide +kernel
theorem dX4_made_19 : decode cX4_made 19 = .ok (.istore_n 2, 1) := by decide +kernel
theorem dX4_made_20 : decode cX4_made 20 = .ok (.iload_n 2, 1) := by decide +kernel
theorem dX4_made_21 : decode cX4_made 21 = .ok (.bipush 60, 2) := by decide +kernel
theorem dX4_made_23 : decode cX4_made 23 = .ok (.if_icmp .gt 30, 3) := by decide +kernel
theorem dX4_made_26 : decode cX4_made 26 = .ok (.aload_n 0, 1) := by decide +kernel
theorem dX4_made_27 : decode cX4_made 27 = .ok (.sipush 1001, 3) := by decide +kernel
theorem dX4_made_30 : decode cX4_made 30 = .ok (.iload_n 1, 1) := by decide +kernel
theorem dX4_made_31 : decode cX4_made 31 = .ok (.invokevirtual 160, 3) := by decide +kernel
theorem dX4_made_34 : decode cX4_made 34 = .ok (.ifCond .eq 5, 3) := by decide +kernel
theorem dX4_made_37 : decode cX4_made 37 = .ok (.iload_n 2, 1) := by decide +kernel
theorem dX4_made_38 : decode cX4_made 38 = .ok (.ireturn, 1) := by decide +kernel
theorem dX4_made_39 : decode cX4_made 39 = .ok (.aload_n 0, 1) := by decide +kernel
theorem dX4_made_40 : decode cX4_made 40 = .ok (.sipush 1001, 3) := by decide +kernel
theorem dX4_made_43 : decode cX4_made 43 = .ok (.iconst 0, 1) := by decide +kernel
theorem dX4_made_44 : decode cX4_made 44 = .ok (.invokevirtual 185, 3) := by decide +kernel
theorem dX4_made_47 : decode cX4_made 47 = .ok (.iinc 2 1, 3) := by decide +kernel
theorem dX4_made_50 : decode cX4_made 50 = .ok (.goto (-30), 3) := by decide +kernel
theorem dX4_made_53 : decode cX4_made 53 = .ok (.bipush (-4), 2) := by decide +kernel
theorem dX4_made_55 : decode cX4_made 55 = .ok (.ireturn, 1) := by decide +kernel
theorem dX4_best_0 : decode cX4_best 0 = .ok (.aload_n 0, 1) := by decide +kernel
theorem dX4_best_1 : decode cX4_best 1 = .ok (.iload_n 1, 1) := by decide +kernel
theorem dX4_best_2 : decode cX4_best 2 = .ok (.invokevirtual 152, 3) := by decide +kernel
theorem dX4_best_5 : decode cX4_best 5 = .ok (.ifCond .eq 29, 3) := by decide +kernel
theorem dX4_best_8 : decode cX4_best 8 = .ok (.iload_n 2, 1) := by decide +kernel
theorem dX4_best_9 : decode cX4_best 9 = .ok (.i2l, 1) := by decide +kernel
theorem dX4_best_10 : decode cX4_best 10 = .ok (.lconst 1, 1) := by decide +kernel
theorem dX4_best_11 : decode cX4_best 11 = .ok (.ldc2_w 207, 3) := by decide +kernel
theorem dX4_best_14 : decode cX4_best 14 = .ok (.invokestatic 73, 3) := by decide +kernel
theorem dX4_best_17 : decode cX4_best 17 = .ok (.ifCond .eq 17, 3) := by decide +kernel
theorem dX4_best_20 : decode cX4_best 20 = .ok (.iload_n 3, 1) := by decide +kernel
theorem dX4_best_21 : decode cX4_best 21 = .ok (.i2l, 1) := by decide +kernel
theorem dX4_best_22 : decode cX4_best 22 = .ok (.ldc2_w 205, 3) := by decide +kernel
theorem dX4_best_25 : decode cX4_best 25 = .ok (.ldc2_w 209, 3) := by decide +kernel
theorem dX4_best_28 : decode cX4_best 28 = .ok (.invokestatic 73, 3) := by decide +kernel
theorem dX4_best_31 : decode cX4_best 31 = .ok (.ifCond .ne 5, 3) := by decide +kernel
theorem dX4_best_34 : decode cX4_best 34 = .ok (.iconst (-1), 1) := by decide +kernel
theorem dX4_best_35 : decode cX4_best 35 = .ok (.ireturn, 1) := by decide +kernel
theorem dX4_best_36 : decode cX4_best 36 = .ok (.iload_n 2, 1) := by decide +kernel
theorem dX4_best_37 : decode cX4_best 37 = .ok (.iconst 1, 1) := by decide +kernel
theorem dX4_best_38 : decode cX4_best 38 = .ok (.if_icmp .ne 10, 3) := by decide +kernel
theorem dX4_best_41 : decode cX4_best 41 = .ok (.aload_n 0, 1) := by decide +kernel
theorem dX4_best_42 : decode cX4_best 42 = .ok (.getfield 61, 3) := by decide +kernel
theorem dX4_best_45 : decode cX4_best 45 = .ok (.goto 34, 3) := by decide +kernel
theorem dX4_best_48 : decode cX4_best 48 = .ok (.iload_n 2, 1) := by decide +kernel
theorem dX4_best_49 : decode cX4_best 49 = .ok (.iconst 2, 1) := by decide +kernel
theorem dX4_best_50 : decode cX4_best 50 = .ok (.if_icmp .ne 15, 3) := by decide +kernel
theorem dX4_best_53 : decode cX4_best 53 = .ok (.aload_n 0, 1) := by decide +kernel
theorem dX4_best_54 : decode cX4_best 54 = .ok (.getfield 61, 3) := by decide +kernel
theorem dX4_best_57 : decode cX4_best 57 = .ok (.aload_n 0, 1) := by decide +kernel
theorem dX4_best_58 : decode cX4_best 58 = .ok (.getfield 61, 3) := by decide +kernel
theorem dX4_best_61 : decode cX4_best 61 = .ok (.imul, 1) := by decide +kernel
theorem dX4_best_62 : decode cX4_best 62 = .ok (.goto 17, 3) := by decide +kernel
theorem dX4_best_65 : decode cX4_best 65 = .ok (.aload_n 0, 1) := by decide +kernel
theorem dX4_best_66 : decode cX4_best 66 = .ok (.getfield 61, 3) := by decide +kernel
theorem dX4_best_69 : decode cX4_best 69 = .ok (.aload_n 0, 1) := by decide +kernel
theorem dX4_best_70 : decode cX4_best 70 = .ok (.getfield 61, 3) := by decide +kernel
theorem dX4_best_73 : decode cX4_best 73 = .ok (.imul, 1) := by decide +kernel
theorem dX4_best_74 : decode cX4_best 74 = .ok (.aload_n 0, 1) := by decide +kernel
theorem dX4_best_75 : decode cX4_best 75 = .ok (.getfield 61, 3) := by decide +kernel
theorem dX4_best_78 : decode cX4_best 78 = .ok (.imul, 1) := by decide +kernel
theorem dX4_best_79 : decode cX4_best 79 = .ok (.istore 4, 2) := by decide +kernel
theorem dX4_best_81 : decode cX4_best 81 = .ok (.iconst 0, 1) := by decide +kernel
theorem dX4_best_82 : decode cX4_best 82 = .ok (.istore 5, 2) := by decide +kernel
theorem dX4_best_84 : decode cX4_best 84 = .ok (.iconst (-1), 1) := by decide +kernel
theorem dX4_best_85 : decode cX4_best 85 = .ok (.istore 6, 2) := by decide +kernel
theorem dX4_best_87 : decode cX4_best 87 = .ok (.iconst 0, 1) := by decide +kernel
theorem dX4_best_88 : decode cX4_best 88 = .ok (.istore 7, 2) := by decide +kernel
theorem dX4_best_90 : decode cX4_best 90 = .ok (.iload 7, 2) := by decide +kernel
theorem dX4_best_92 : decode cX4_best 92 = .ok (.iload 4, 2) := by decide +kernel
theorem dX4_best_94 : decode cX4_best 94 = .ok (.if_icmp .ge 115, 3) := by decide +kernel
theorem dX4_best_97 : decode cX4_best 97 = .ok (.aload_n 0, 1) := by decide +kernel
theorem dX4_best_98 : decode cX4_best 98 = .ok (.iconst 0, 1) := by decide +kernel
theorem dX4_best_99 : decode cX4_best 99 = .ok (.sipush 1001, 3) := by decide +kernel
theorem dX4_best_102 : decode cX4_best 102 = .ok (.invokevirtual 70, 3) := by decide +kernel
theorem dX4_best_105 : decode cX4_best 105 = .ok (.iload 4, 2) := by decide +kernel
theorem dX4_best_107 : decode cX4_best 107 = .ok (.istore 8, 2) := by decide +kernel
theorem dX4_best_109 : decode cX4_best 109 = .ok (.iload 7, 2) := by decide +kernel
theorem dX4_best_111 : decode cX4_best 111 = .ok (.istore 9, 2) := by decide +kernel
theorem dX4_best_113 : decode cX4_best 113 = .ok (.iconst 0, 1) := by decide +kernel
theorem dX4_best_114 : decode cX4_best 114 = .ok (.istore 10, 2) := by decide +kernel
theorem dX4_best_116 : decode cX4_best 116 = .ok (.iload 10, 2) := by decide +kernel
theorem dX4_best_118 : decode cX4_best 118 = .ok (.iload_n 2, 1) := by decide +kernel
theorem dX4_best_119 : decode cX4_best 119 = .ok (.if_icmp .ge 46, 3) := by decide +kernel
theorem dX4_best_122 : decode cX4_best 122 = .ok (.iload 8, 2) := by decide +kernel
theorem dX4_best_124 : decode cX4_best 124 = .ok (.aload_n 0, 1) := by decide +kernel
theorem dX4_best_125 : decode cX4_best 125 = .ok (.getfield 61, 3) := by decide +kernel
theorem dX4_best_128 : decode cX4_best 128 = .ok (.idiv, 1) := by decide +kernel
theorem dX4_best_129 : decode cX4_best 129 = .ok (.istore 8, 2) := by decide +kernel
theorem dX4_best_131 : decode cX4_best 131 = .ok (.aload_n 0, 1) := by decide +kernel
theorem dX4_best_132 : decode cX4_best 132 = .ok (.sipush 1001, 3) := by decide +kernel
theorem dX4_best_135 : decode cX4_best 135 = .ok (.iload_n 1, 1) := by decide +kernel
theorem dX4_best_136 : decode cX4_best 136 = .ok (.iload 9, 2) := by decide +kernel
theorem dX4_best_138 : decode cX4_best 138 = .ok (.iload 8, 2) := by decide +kernel
theorem dX4_best_140 : decode cX4_best 140 = .ok (.idiv, 1) := by decide +kernel
theorem dX4_best_141 : decode cX4_best 141 = .ok (.invokevirtual 174, 3) := by decide +kernel
theorem dX4_best_144 : decode cX4_best 144 = .ok (.iload 9, 2) := by decide +kernel
theorem dX4_best_146 : decode cX4_best 146 = .ok (.iload 8, 2) := by decide +kernel
theorem dX4_best_148 : decode cX4_best 148 = .ok (.irem, 1) := by decide +kernel
theorem dX4_best_149 : decode cX4_best 149 = .ok (.istore 9, 2) := by decide +kernel
theorem dX4_best_151 : decode cX4_best 151 = .ok (.aload_n 0, 1) := by decide +kernel
theorem dX4_best_152 : decode cX4_best 152 = .ok (.sipush 1001, 3) := by decide +kernel
theorem dX4_best_155 : decode cX4_best 155 = .ok (.iconst 0, 1) := by decide +kernel
theorem dX4_best_156 : decode cX4_best 156 = .ok (.invokevirtual 185, 3) := by decide +kernel
theorem dX4_best_159 : decode cX4_best 159 = .ok (.iinc 10 1, 3) := by decide +kernel
theorem dX4_best_162 : decode cX4_best 162 = .ok (.goto (-46), 3) := by decide +kernel
theorem dX4_best_165 : decode cX4_best 165 = .ok (.aload_n 0, 1) := by decide +kernel
theorem dX4_best_166 : decode cX4_best 166 = .ok (.sipush 1001, 3) := by decide +kernel
theorem dX4_best_169 : decode cX4_best 169 = .ok (.iload_n 1, 1) := by decide +kernel
theorem dX4_best_170 : decode cX4_best 170 = .ok (.invokevirtual 145, 3) := by decide +kernel
theorem dX4_best_173 : decode cX4_best 173 = .ok (.invokestatic 148, 3) := by decide +kernel
theorem dX4_best_176 : decode cX4_best 176 = .ok (.istore 10, 2) := by decide +kernel
theorem dX4_best_178 : decode cX4_best 178 = .ok (.iload 10, 2) := by decide +kernel
theorem dX4_best_180 : decode cX4_best 180 = .ok (.iload 6, 2) := by decide +kernel
theorem dX4_best_182 : decode cX4_best 182 = .ok (.if_icmp .le 8, 3) := by decide +kernel
theorem dX4_best_185 : decode cX4_best 185 = .ok (.iload 7, 2) := by decide +kernel
theorem dX4_best_187 : decode cX4_best 187 = .ok (.goto 5, 3) := by decide +kernel
theorem dX4_best_190 : decode cX4_best 190 = .ok (.iload 5, 2) := by decide +kernel
theorem dX4_best_192 : decode cX4_best 192 = .ok (.istore 5, 2) := by decide +kernel
theorem dX4_best_194 : decode cX4_best 194 = .ok (.iload 6, 2) := by decide +kernel
theorem dX4_best_196 : decode cX4_best 196 = .ok (.iload 10, 2) := by decide +kernel
theorem dX4_best_198 : decode cX4_best 198 = .ok (.invokestatic 211, 3) := by decide +kernel
theorem dX4_best_201 : decode cX4_best 201 = .ok (.istore 6, 2) := by decide +kernel
theorem dX4_best_203 : decode cX4_best 203 = .ok (.iinc 7 1, 3) := by decide +kernel
theorem dX4_best_206 : decode cX4_best 206 = .ok (.goto (-116), 3) := by decide +kernel
theorem dX4_best_209 : decode cX4_best 209 = .ok (.iload 4, 2) := by decide +kernel
theorem dX4_best_211 : decode cX4_best 211 = .ok (.istore 7, 2) := by decide +kernel
theorem dX4_best_213 : decode cX4_best 213 = .ok (.iload 5, 2) := by decide +kernel
theorem dX4_best_215 : decode cX4_best 215 = .ok (.istore 8, 2) := by decide +kernel
theorem dX4_best_217 : decode cX4_best 217 = .ok (.bipush (-4), 2) := by decide +kernel
theorem dX4_best_219 : decode cX4_best 219 = .ok (.istore 9, 2) := by decide +kernel
theorem dX4_best_221 : decode cX4_best 221 = .ok (.iconst 0, 1) := by decide +kernel
theorem dX4_best_222 : decode cX4_best 222 = .ok (.istore 10, 2) := by decide +kernel
theorem dX4_best_224 : decode cX4_best 224 = .ok (.iload 10, 2) := by decide +kernel
theorem dX4_best_226 : decode cX4_best 226 = .ok (.iload_n 3, 1) := by decide +kernel
theorem dX4_best_227 : decode cX4_best 227 = .ok (.if_icmp .gt 38, 3) := by decide +kernel
theorem dX4_best_230 : decode cX4_best 230 = .ok (.iload 10, 2) := by decide +kernel
theorem dX4_best_232 : decode cX4_best 232 = .ok (.iload_n 2, 1) := by decide +kernel
theorem dX4_best_233 : decode cX4_best 233 = .ok (.if_icmp .ge 32, 3) := by decide +kernel
theorem dX4_best_236 : decode cX4_best 236 = .ok (.iload 7, 2) := by decide +kernel
theorem dX4_best_238 : decode cX4_best 238 = .ok (.aload_n 0, 1) := by decide +kernel
theorem dX4_best_239 : decode cX4_best 239 = .ok (.getfield 61, 3) := by decide +kernel
theorem dX4_best_242 : decode cX4_best 242 = .ok (.idiv, 1) := by decide +kernel
theorem dX4_best_243 : decode cX4_best 243 = .ok (.istore 7, 2) := by decide +kernel
theorem dX4_best_245 : decode cX4_best 245 = .ok (.iload 8, 2) := by decide +kernel
theorem dX4_best_247 : decode cX4_best 247 = .ok (.iload 7, 2) := by decide +kernel
theorem dX4_best_249 : decode cX4_best 249 = .ok (.idiv, 1) := by decide +kernel
theorem dX4_best_250 : decode cX4_best 250 = .ok (.istore 9, 2) := by decide +kernel
theorem dX4_best_252 : decode cX4_best 252 = .ok (.iload 8, 2) := by decide +kernel
theorem dX4_best_254 : decode cX4_best 254 = .ok (.iload 7, 2) := by decide +kernel
theorem dX4_best_256 : decode cX4_best 256 = .ok (.irem, 1) := by decide +kernel
theorem dX4_best_257 : decode cX4_best 257 = .ok (.istore 8, 2) := by decide +kernel
theorem dX4_best_259 : decode cX4_best 259 = .ok (.iinc 10 1, 3) := by decide +kernel
theorem dX4_best_262 : decode cX4_best 262 = .ok (.goto (-38), 3) := by decide +kernel
theorem dX4_best_265 : decode cX4_best 265 = .ok (.iload_n 3, 1) := by decide +kernel
theorem dX4_best_266 : decode cX4_best 266 = .ok (.ifCond .ge 8, 3) := by decide +kernel
theorem dX4_best_269 : decode cX4_best 269 = .ok (.iload 6, 2) := by decide +kernel
theorem dX4_best_271 : decode cX4_best 271 = .ok (.goto 15, 3) := by decide +kernel
theorem dX4_best_274 : decode cX4_best 274 = .ok (.iload_n 3, 1) := by decide +kernel
theorem dX4_best_275 : decode cX4_best 275 = .ok (.iload_n 2, 1) := by decide +kernel
theorem dX4_best_276 : decode cX4_best 276 = .ok (.if_icmp .lt 8, 3) := by decide +kernel
theorem dX4_best_279 : decode cX4_best 279 = .ok (.bipush (-4), 2) := by decide +kernel
theorem dX4_best_281 : decode cX4_best 281 = .ok (.goto 5, 3) := by decide +kernel
theorem dX4_best_284 : decode cX4_best 284 = .ok (.iload 9, 2) := by decide +kernel
theorem dX4_best_286 : decode cX4_best 286 = .ok (.ireturn, 1) := by decide +kernel
theorem dX4_mends_0 : decode cX4_mends 0 = .ok (.iload_n 1, 1) := by decide +kernel
theorem dX4_mends_1 : decode cX4_mends 1 = .ok (.i2l, 1) := by decide +kernel
theorem dX4_mends_2 : decode cX4_mends 2 = .ok (.lconst 0, 1) := by decide +kernel
theorem dX4_mends_3 : decode cX4_mends 3 = .ok (.lconst 1, 1) := by decide +kernel
theorem dX4_mends_4 : decode cX4_mends 4 = .ok (.invokestatic 73, 3) := by decide +kernel
theorem dX4_mends_7 : decode cX4_mends 7 = .ok (.ifCond .ne 5, 3) := by decide +kernel
theorem dX4_mends_10 : decode cX4_mends 10 = .ok (.iconst (-1), 1) := by decide +kernel
theorem dX4_mends_11 : decode cX4_mends 11 = .ok (.ireturn, 1) := by decide +kernel
theorem dX4_mends_12 : decode cX4_mends 12 = .ok (.bipush (-4), 2) := by decide +kernel
theorem dX4_mends_14 : decode cX4_mends 14 = .ok (.istore_n 2, 1) := by decide +kernel
theorem dX4_mends_15 : decode cX4_mends 15 = .ok (.iconst (-1), 1) := by decide +kernel
theorem dX4_mends_16 : decode cX4_mends 16 = .ok (.istore_n 3, 1) := by decide +kernel
theorem dX4_mends_17 : decode cX4_mends 17 = .ok (.iconst 0, 1) := by decide +kernel
theorem dX4_mends_18 : decode cX4_mends 18 = .ok (.istore 4, 2) := by decide +kernel
theorem dX4_mends_20 : decode cX4_mends 20 = .ok (.iload 4, 2) := by decide +kernel
theorem dX4_mends_22 : decode cX4_mends 22 = .ok (.aload_n 0, 1) := by decide +kernel
theorem dX4_mends_23 : decode cX4_mends 23 = .ok (.getfield 64, 3) := by decide +kernel
theorem dX4_mends_26 : decode cX4_mends 26 = .ok (.aload_n 0, 1) := by decide +kernel
theorem dX4_mends_27 : decode cX4_mends 27 = .ok (.getfield 61, 3) := by decide +kernel
theorem dX4_mends_30 : decode cX4_mends 30 = .ok (.imul, 1) := by decide +kernel
theorem dX4_mends_31 : decode cX4_mends 31 = .ok (.if_icmp .ge 108, 3) := by decide +kernel
theorem dX4_mends_34 : decode cX4_mends 34 = .ok (.iload 4, 2) := by decide +kernel
theorem dX4_mends_36 : decode cX4_mends 36 = .ok (.aload_n 0, 1) := by decide +kernel
theorem dX4_mends_37 : decode cX4_mends 37 = .ok (.getfield 61, 3) := by decide +kernel
theorem dX4_mends_40 : decode cX4_mends 40 = .ok (.idiv, 1) := by decide +kernel
theorem dX4_mends_41 : decode cX4_mends 41 = .ok (.istore 5, 2) := by decide +kernel
theorem dX4_mends_43 : decode cX4_mends 43 = .ok (.iload 4, 2) := by decide +kernel
theorem dX4_mends_45 : decode cX4_mends 45 = .ok (.aload_n 0, 1) := by decide +kernel
theorem dX4_mends_46 : decode cX4_mends 46 = .ok (.getfield 61, 3) := by decide +kernel
theorem dX4_mends_49 : decode cX4_mends 49 = .ok (.irem, 1) := by decide +kernel
theorem dX4_mends_50 : decode cX4_mends 50 = .ok (.istore 6, 2) := by decide +kernel
theorem dX4_mends_52 : decode cX4_mends 52 = .ok (.aload_n 0, 1) := by decide +kernel
theorem dX4_mends_53 : decode cX4_mends 53 = .ok (.iconst 0, 1) := by decide +kernel
theorem dX4_mends_54 : decode cX4_mends 54 = .ok (.iload 5, 2) := by decide +kernel
theorem dX4_mends_56 : decode cX4_mends 56 = .ok (.iload 6, 2) := by decide +kernel
theorem dX4_mends_58 : decode cX4_mends 58 = .ok (.invokevirtual 196, 3) := by decide +kernel
theorem dX4_mends_61 : decode cX4_mends 61 = .ok (.ifCond .eq 72, 3) := by decide +kernel
theorem dX4_mends_64 : decode cX4_mends 64 = .ok (.aload_n 0, 1) := by decide +kernel
theorem dX4_mends_65 : decode cX4_mends 65 = .ok (.iconst 0, 1) := by decide +kernel
theorem dX4_mends_66 : decode cX4_mends 66 = .ok (.sipush 1001, 3) := by decide +kernel
theorem dX4_mends_69 : decode cX4_mends 69 = .ok (.invokevirtual 70, 3) := by decide +kernel
theorem dX4_mends_72 : decode cX4_mends 72 = .ok (.aload_n 0, 1) := by decide +kernel
theorem dX4_mends_73 : decode cX4_mends 73 = .ok (.sipush 1001, 3) := by decide +kernel
theorem dX4_mends_76 : decode cX4_mends 76 = .ok (.iload 5, 2) := by decide +kernel
theorem dX4_mends_78 : decode cX4_mends 78 = .ok (.iload 6, 2) := by decide +kernel
theorem dX4_mends_80 : decode cX4_mends 80 = .ok (.aload_n 0, 1) := by decide +kernel
theorem dX4_mends_81 : decode cX4_mends 81 = .ok (.getfield 7, 3) := by decide +kernel
theorem dX4_mends_84 : decode cX4_mends 84 = .ok (.iload 6, 2) := by decide +kernel
theorem dX4_mends_86 : decode cX4_mends 86 = .ok (.iaload, 1) := by decide +kernel
theorem dX4_mends_87 : decode cX4_mends 87 = .ok (.invokevirtual 167, 3) := by decide +kernel
theorem dX4_mends_90 : decode cX4_mends 90 = .ok (.aload_n 0, 1) := by decide +kernel
theorem dX4_mends_91 : decode cX4_mends 91 = .ok (.sipush 1001, 3) := by decide +kernel
theorem dX4_mends_94 : decode cX4_mends 94 = .ok (.iconst 5, 1) := by decide +kernel
theorem dX4_mends_95 : decode cX4_mends 95 = .ok (.invokevirtual 190, 3) := by decide +kernel
theorem dX4_mends_98 : decode cX4_mends 98 = .ok (.aload_n 0, 1) := by decide +kernel
theorem dX4_mends_99 : decode cX4_mends 99 = .ok (.sipush 1001, 3) := by decide +kernel
theorem dX4_mends_102 : decode cX4_mends 102 = .ok (.invokevirtual 214, 3) := by decide +kernel
theorem dX4_mends_105 : decode cX4_mends 105 = .ok (.istore 7, 2) := by decide +kernel
theorem dX4_mends_107 : decode cX4_mends 107 = .ok (.iload 7, 2) := by decide +kernel
theorem dX4_mends_109 : decode cX4_mends 109 = .ok (.iload_n 3, 1) := by decide +kernel
theorem dX4_mends_110 : decode cX4_mends 110 = .ok (.if_icmp .le 14, 3) := by decide +kernel
theorem dX4_mends_113 : decode cX4_mends 113 = .ok (.bipush 10, 2) := by decide +kernel
theorem dX4_mends_115 : decode cX4_mends 115 = .ok (.iload 5, 2) := by decide +kernel
theorem dX4_mends_117 : decode cX4_mends 117 = .ok (.imul, 1) := by decide +kernel
theorem dX4_mends_118 : decode cX4_mends 118 = .ok (.iload 6, 2) := by decide +kernel
theorem dX4_mends_120 : decode cX4_mends 120 = .ok (.iadd, 1) := by decide +kernel
theorem dX4_mends_121 : decode cX4_mends 121 = .ok (.goto 4, 3) := by decide +kernel
theorem dX4_mends_124 : decode cX4_mends 124 = .ok (.iload_n 2, 1) := by decide +kernel
theorem dX4_mends_125 : decode cX4_mends 125 = .ok (.istore_n 2, 1) := by decide +kernel
theorem dX4_mends_126 : decode cX4_mends 126 = .ok (.iload_n 3, 1) := by decide +kernel
theorem dX4_mends_127 : decode cX4_mends 127 = .ok (.iload 7, 2) := by decide +kernel
theorem dX4_mends_129 : decode cX4_mends 129 = .ok (.invokestatic 211, 3) := by decide +kernel
theorem dX4_mends_132 : decode cX4_mends 132 = .ok (.istore_n 3, 1) := by decide +kernel
theorem dX4_mends_133 : decode cX4_mends 133 = .ok (.iinc 4 1, 3) := by decide +kernel
theorem dX4_mends_136 : decode cX4_mends 136 = .ok (.goto (-116), 3) := by decide +kernel
theorem dX4_mends_139 : decode cX4_mends 139 = .ok (.iload_n 2, 1) := by decide +kernel
theorem dX4_mends_140 : decode cX4_mends 140 = .ok (.ifCond .lt 7, 3) := by decide +kernel
theorem dX4_mends_143 : decode cX4_mends 143 = .ok (.iload_n 1, 1) := by decide +kernel
theorem dX4_mends_144 : decode cX4_mends 144 = .ok (.ifCond .ne 7, 3) := by decide +kernel
theorem dX4_mends_147 : decode cX4_mends 147 = .ok (.iload_n 2, 1) := by decide +kernel
theorem dX4_mends_148 : decode cX4_mends 148 = .ok (.goto 4, 3) := by decide +kernel
theorem dX4_mends_151 : decode cX4_mends 151 = .ok (.iload_n 3, 1) := by decide +kernel
theorem dX4_mends_152 : decode cX4_mends 152 = .ok (.ireturn, 1) := by decide +kernel
theorem dX4_two_0 : decode cX4_two 0 = .ok (.iload_n 1, 1) := by decide +kernel
theorem dX4_two_1 : decode cX4_two 1 = .ok (.i2l, 1) := by decide +kernel
theorem dX4_two_2 : decode cX4_two 2 = .ok (.lconst 0, 1) := by decide +kernel
theorem dX4_two_3 : decode cX4_two 3 = .ok (.lconst 1, 1) := by decide +kernel
theorem dX4_two_4 : decode cX4_two 4 = .ok (.invokestatic 73, 3) := by decide +kernel
theorem dX4_two_7 : decode cX4_two 7 = .ok (.ifCond .ne 5, 3) := by decide +kernel
theorem dX4_two_10 : decode cX4_two 10 = .ok (.iconst (-1), 1) := by decide +kernel
theorem dX4_two_11 : decode cX4_two 11 = .ok (.ireturn, 1) := by decide +kernel
theorem dX4_two_12 : decode cX4_two 12 = .ok (.bipush (-4), 2) := by decide +kernel
theorem dX4_two_14 : decode cX4_two 14 = .ok (.istore_n 2, 1) := by decide +kernel
theorem dX4_two_15 : decode cX4_two 15 = .ok (.iconst (-1), 1) := by decide +kernel
theorem dX4_two_16 : decode cX4_two 16 = .ok (.istore_n 3, 1) := by decide +kernel
theorem dX4_two_17 : decode cX4_two 17 = .ok (.iconst 0, 1) := by decide +kernel
theorem dX4_two_18 : decode cX4_two 18 = .ok (.istore 4, 2) := by decide +kernel
theorem dX4_two_20 : decode cX4_two 20 = .ok (.iload 4, 2) := by decide +kernel
theorem dX4_two_22 : decode cX4_two 22 = .ok (.aload_n 0, 1) := by decide +kernel
theorem dX4_two_23 : decode cX4_two 23 = .ok (.getfield 64, 3) := by decide +kernel
theorem dX4_two_26 : decode cX4_two 26 = .ok (.if_icmp .ge 76, 3) := by decide +kernel
theorem dX4_two_29 : decode cX4_two 29 = .ok (.iload 4, 2) := by decide +kernel
theorem dX4_two_31 : decode cX4_two 31 = .ok (.iconst 1, 1) := by decide +kernel
theorem dX4_two_32 : decode cX4_two 32 = .ok (.iadd, 1) := by decide +kernel
theorem dX4_two_33 : decode cX4_two 33 = .ok (.istore 5, 2) := by decide +kernel
theorem dX4_two_35 : decode cX4_two 35 = .ok (.iload 5, 2) := by decide +kernel
theorem dX4_two_37 : decode cX4_two 37 = .ok (.aload_n 0, 1) := by decide +kernel
theorem dX4_two_38 : decode cX4_two 38 = .ok (.getfield 64, 3) := by decide +kernel
theorem dX4_two_41 : decode cX4_two 41 = .ok (.if_icmp .ge 55, 3) := by decide +kernel
theorem dX4_two_44 : decode cX4_two 44 = .ok (.aload_n 0, 1) := by decide +kernel
theorem dX4_two_45 : decode cX4_two 45 = .ok (.iconst 0, 1) := by decide +kernel
theorem dX4_two_46 : decode cX4_two 46 = .ok (.iload 4, 2) := by decide +kernel
theorem dX4_two_48 : decode cX4_two 48 = .ok (.invokevirtual 145, 3) := by decide +kernel
theorem dX4_two_51 : decode cX4_two 51 = .ok (.aload_n 0, 1) := by decide +kernel
theorem dX4_two_52 : decode cX4_two 52 = .ok (.iconst 0, 1) := by decide +kernel
theorem dX4_two_53 : decode cX4_two 53 = .ok (.iload 5, 2) := by decide +kernel
theorem dX4_two_55 : decode cX4_two 55 = .ok (.invokevirtual 145, 3) := by decide +kernel
theorem dX4_two_58 : decode cX4_two 58 = .ok (.ior, 1) := by decide +kernel
theorem dX4_two_59 : decode cX4_two 59 = .ok (.invokestatic 148, 3) := by decide +kernel
theorem dX4_two_62 : decode cX4_two 62 = .ok (.istore 6, 2) := by decide +kernel
theorem dX4_two_64 : decode cX4_two 64 = .ok (.iload 6, 2) := by decide +kernel
theorem dX4_two_66 : decode cX4_two 66 = .ok (.iload_n 3, 1) := by decide +kernel
theorem dX4_two_67 : decode cX4_two 67 = .ok (.if_icmp .le 14, 3) := by decide +kernel
theorem dX4_two_70 : decode cX4_two 70 = .ok (.bipush 10, 2) := by decide +kernel
theorem dX4_two_72 : decode cX4_two 72 = .ok (.iload 4, 2) := by decide +kernel
theorem dX4_two_74 : decode cX4_two 74 = .ok (.imul, 1) := by decide +kernel
theorem dX4_two_75 : decode cX4_two 75 = .ok (.iload 5, 2) := by decide +kernel
theorem dX4_two_77 : decode cX4_two 77 = .ok (.iadd, 1) := by decide +kernel
theorem dX4_two_78 : decode cX4_two 78 = .ok (.goto 4, 3) := by decide +kernel
theorem dX4_two_81 : decode cX4_two 81 = .ok (.iload_n 2, 1) := by decide +kernel
theorem dX4_two_82 : decode cX4_two 82 = .ok (.istore_n 2, 1) := by decide +kernel
theorem dX4_two_83 : decode cX4_two 83 = .ok (.iload_n 3, 1) := by decide +kernel
theorem dX4_two_84 : decode cX4_two 84 = .ok (.iload 6, 2) := by decide +kernel
theorem dX4_two_86 : decode cX4_two 86 = .ok (.invokestatic 211, 3) := by decide +kernel
theorem dX4_two_89 : decode cX4_two 89 = .ok (.istore_n 3, 1) := by decide +kernel
theorem dX4_two_90 : decode cX4_two 90 = .ok (.iinc 5 1, 3) := by decide +kernel
theorem dX4_two_93 : decode cX4_two 93 = .ok (.goto (-58), 3) := by decide +kernel
theorem dX4_two_96 : decode cX4_two 96 = .ok (.iinc 4 1, 3) := by decide +kernel
theorem dX4_two_99 : decode cX4_two 99 = .ok (.goto (-79), 3) := by decide +kernel
theorem dX4_two_102 : decode cX4_two 102 = .ok (.iload_n 2, 1) := by decide +kernel
theorem dX4_two_103 : decode cX4_two 103 = .ok (.ifCond .lt 7, 3) := by decide +kernel
theorem dX4_two_106 : decode cX4_two 106 = .ok (.iload_n 1, 1) := by decide +kernel
theorem dX4_two_107 : decode cX4_two 107 = .ok (.ifCond .ne 7, 3) := by decide +kernel
theorem dX4_two_110 : decode cX4_two 110 = .ok (.iload_n 2, 1) := by decide +kernel
theorem dX4_two_111 : decode cX4_two 111 = .ok (.goto 4, 3) := by decide +kernel
theorem dX4_two_114 : decode cX4_two 114 = .ok (.iload_n 3, 1) := by decide +kernel
theorem dX4_two_115 : decode cX4_two 115 = .ok (.ireturn, 1) := by decide +kernel
theorem dX4_isApart_0 : decode cX4_isApart 0 = .ok (.iconst 1, 1) := by decide +kernel
theorem dX4_isApart_1 : decode cX4_isApart 1 = .ok (.istore_n 2, 1) := by decide +kernel
theorem dX4_isApart_2 : decode cX4_isApart 2 = .ok (.iconst 0, 1) := by decide +kernel
theorem dX4_isApart_3 : decode cX4_isApart 3 = .ok (.istore_n 3, 1) := by decide +kernel
theorem dX4_isApart_4 : decode cX4_isApart 4 = .ok (.iload_n 3, 1) := by decide +kernel
theorem dX4_isApart_5 : decode cX4_isApart 5 = .ok (.aload_n 0, 1) := by decide +kernel
theorem dX4_isApart_6 : decode cX4_isApart 6 = .ok (.getfield 64, 3) := by decide +kernel
theorem dX4_isApart_9 : decode cX4_isApart 9 = .ok (.if_icmp .ge 102, 3) := by decide +kernel
theorem dX4_isApart_12 : decode cX4_isApart 12 = .ok (.iconst 0, 1) := by decide +kernel
theorem dX4_isApart_13 : decode cX4_isApart 13 = .ok (.istore 4, 2) := by decide +kernel
theorem dX4_isApart_15 : decode cX4_isApart 15 = .ok (.iload 4, 2) := by decide +kernel
theorem dX4_isApart_17 : decode cX4_isApart 17 = .ok (.iload_n 3, 1) := by decide +kernel
theorem dX4_isApart_18 : decode cX4_isApart 18 = .ok (.if_icmp .ge 87, 3) := by decide +kernel
theorem dX4_isApart_21 : decode cX4_isApart 21 = .ok (.iconst 0, 1) := by decide +kernel
theorem dX4_isApart_22 : decode cX4_isApart 22 = .ok (.istore 5, 2) := by decide +kernel
theorem dX4_isApart_24 : decode cX4_isApart 24 = .ok (.iconst 0, 1) := by decide +kernel
theorem dX4_isApart_25 : decode cX4_isApart 25 = .ok (.istore 6, 2) := by decide +kernel
theorem dX4_isApart_27 : decode cX4_isApart 27 = .ok (.iload 6, 2) := by decide +kernel
theorem dX4_isApart_29 : decode cX4_isApart 29 = .ok (.aload_n 0, 1) := by decide +kernel
theorem dX4_isApart_30 : decode cX4_isApart 30 = .ok (.getfield 61, 3) := by decide +kernel
theorem dX4_isApart_33 : decode cX4_isApart 33 = .ok (.if_icmp .ge 51, 3) := by decide +kernel
theorem dX4_isApart_36 : decode cX4_isApart 36 = .ok (.iload 5, 2) := by decide +kernel
theorem dX4_isApart_38 : decode cX4_isApart 38 = .ok (.ifCond .ne 33, 3) := by decide +kernel
theorem dX4_isApart_41 : decode cX4_isApart 41 = .ok (.iload_n 1, 1) := by decide +kernel
theorem dX4_isApart_42 : decode cX4_isApart 42 = .ok (.iload 6, 2) := by decide +kernel
theorem dX4_isApart_44 : decode cX4_isApart 44 = .ok (.ishr, 1) := by decide +kernel
theorem dX4_isApart_45 : decode cX4_isApart 45 = .ok (.iconst 1, 1) := by decide +kernel
theorem dX4_isApart_46 : decode cX4_isApart 46 = .ok (.iand, 1) := by decide +kernel
theorem dX4_isApart_47 : decode cX4_isApart 47 = .ok (.iconst 1, 1) := by decide +kernel
theorem dX4_isApart_48 : decode cX4_isApart 48 = .ok (.if_icmp .ne 27, 3) := by decide +kernel
theorem dX4_isApart_51 : decode cX4_isApart 51 = .ok (.aload_n 0, 1) := by decide +kernel
theorem dX4_isApart_52 : decode cX4_isApart 52 = .ok (.iconst 0, 1) := by decide +kernel
theorem dX4_isApart_53 : decode cX4_isApart 53 = .ok (.iload_n 3, 1) := by decide +kernel
theorem dX4_isApart_54 : decode cX4_isApart 54 = .ok (.iload 6, 2) := by decide +kernel
theorem dX4_isApart_56 : decode cX4_isApart 56 = .ok (.invokevirtual 141, 3) := by decide +kernel
theorem dX4_isApart_59 : decode cX4_isApart 59 = .ok (.aload_n 0, 1) := by decide +kernel
theorem dX4_isApart_60 : decode cX4_isApart 60 = .ok (.iconst 0, 1) := by decide +kernel
theorem dX4_isApart_61 : decode cX4_isApart 61 = .ok (.iload 4, 2) := by decide +kernel
theorem dX4_isApart_63 : decode cX4_isApart 63 = .ok (.iload 6, 2) := by decide +kernel
theorem dX4_isApart_65 : decode cX4_isApart 65 = .ok (.invokevirtual 141, 3) := by decide +kernel
theorem dX4_isApart_68 : decode cX4_isApart 68 = .ok (.if_icmp .eq 7, 3) := by decide +kernel
theorem dX4_isApart_71 : decode cX4_isApart 71 = .ok (.iconst 1, 1) := by decide +kernel
theorem dX4_isApart_72 : decode cX4_isApart 72 = .ok (.goto 4, 3) := by decide +kernel
theorem dX4_isApart_75 : decode cX4_isApart 75 = .ok (.iconst 0, 1) := by decide +kernel
theorem dX4_isApart_76 : decode cX4_isApart 76 = .ok (.istore 5, 2) := by decide +kernel
theorem dX4_isApart_78 : decode cX4_isApart 78 = .ok (.iinc 6 1, 3) := by decide +kernel
theorem dX4_isApart_81 : decode cX4_isApart 81 = .ok (.goto (-54), 3) := by decide +kernel
theorem dX4_isApart_84 : decode cX4_isApart 84 = .ok (.iload_n 2, 1) := by decide +kernel
theorem dX4_isApart_85 : decode cX4_isApart 85 = .ok (.ifCond .eq 12, 3) := by decide +kernel
theorem dX4_isApart_88 : decode cX4_isApart 88 = .ok (.iload 5, 2) := by decide +kernel
theorem dX4_isApart_90 : decode cX4_isApart 90 = .ok (.ifCond .eq 7, 3) := by decide +kernel
theorem dX4_isApart_93 : decode cX4_isApart 93 = .ok (.iconst 1, 1) := by decide +kernel
theorem dX4_isApart_94 : decode cX4_isApart 94 = .ok (.goto 4, 3) := by decide +kernel
theorem dX4_isApart_97 : decode cX4_isApart 97 = .ok (.iconst 0, 1) := by decide +kernel
theorem dX4_isApart_98 : decode cX4_isApart 98 = .ok (.istore_n 2, 1) := by decide +kernel
theorem dX4_isApart_99 : decode cX4_isApart 99 = .ok (.iinc 4 1, 3) := by decide +kernel
theorem dX4_isApart_102 : decode cX4_isApart 102 = .ok (.goto (-87), 3) := by decide +kernel
theorem dX4_isApart_105 : decode cX4_isApart 105 = .ok (.iinc 3 1, 3) := by decide +kernel
theorem dX4_isApart_108 : decode cX4_isApart 108 = .ok (.goto (-104), 3) := by decide +kernel
theorem dX4_isApart_111 : decode cX4_isApart 111 = .ok (.iload_n 2, 1) := by decide +kernel
theorem dX4_isApart_112 : decode cX4_isApart 112 = .ok (.ireturn, 1) := by decide +kernel
theorem dX4_tests_0 : decode cX4_tests 0 = .ok (.iload_n 1, 1) := by decide +kernel
theorem dX4_tests_1 : decode cX4_tests 1 = .ok (.i2l, 1) := by decide +kernel
theorem dX4_tests_2 : decode cX4_tests 2 = .ok (.lconst 0, 1) := by decide +kernel
theorem dX4_tests_3 : decode cX4_tests 3 = .ok (.lconst 1, 1) := by decide +kernel
theorem dX4_tests_4 : decode cX4_tests 4 = .ok (.invokestatic 73, 3) := by decide +kernel
theorem dX4_tests_7 : decode cX4_tests 7 = .ok (.ifCond .ne 5, 3) := by decide +kernel
theorem dX4_tests_10 : decode cX4_tests 10 = .ok (.iconst (-1), 1) := by decide +kernel
theorem dX4_tests_11 : decode cX4_tests 11 = .ok (.ireturn, 1) := by decide +kernel
theorem dX4_tests_12 : decode cX4_tests 12 = .ok (.bipush (-4), 2) := by decide +kernel
theorem dX4_tests_14 : decode cX4_tests 14 = .ok (.istore_n 2, 1) := by decide +kernel
theorem dX4_tests_15 : decode cX4_tests 15 = .ok (.iconst 0, 1) := by decide +kernel
theorem dX4_tests_16 : decode cX4_tests 16 = .ok (.istore_n 3, 1) := by decide +kernel
theorem dX4_tests_17 : decode cX4_tests 17 = .ok (.iload_n 3, 1) := by decide +kernel
theorem dX4_tests_18 : decode cX4_tests 18 = .ok (.iconst 1, 1) := by decide +kernel
theorem dX4_tests_19 : decode cX4_tests 19 = .ok (.aload_n 0, 1) := by decide +kernel
theorem dX4_tests_20 : decode cX4_tests 20 = .ok (.getfield 61, 3) := by decide +kernel
theorem dX4_tests_23 : decode cX4_tests 23 = .ok (.ishl, 1) := by decide +kernel
theorem dX4_tests_24 : decode cX4_tests 24 = .ok (.if_icmp .ge 34, 3) := by decide +kernel
theorem dX4_tests_27 : decode cX4_tests 27 = .ok (.iload_n 2, 1) := by decide +kernel
theorem dX4_tests_28 : decode cX4_tests 28 = .ok (.ifCond .lt 14, 3) := by decide +kernel
theorem dX4_tests_31 : decode cX4_tests 31 = .ok (.iload_n 3, 1) := by decide +kernel
theorem dX4_tests_32 : decode cX4_tests 32 = .ok (.invokestatic 148, 3) := by decide +kernel
theorem dX4_tests_35 : decode cX4_tests 35 = .ok (.iload_n 2, 1) := by decide +kernel
theorem dX4_tests_36 : decode cX4_tests 36 = .ok (.invokestatic 148, 3) := by decide +kernel
theorem dX4_tests_39 : decode cX4_tests 39 = .ok (.if_icmp .ge 13, 3) := by decide +kernel
theorem dX4_tests_42 : decode cX4_tests 42 = .ok (.aload_n 0, 1) := by decide +kernel
theorem dX4_tests_43 : decode cX4_tests 43 = .ok (.iload_n 3, 1) := by decide +kernel
theorem dX4_tests_44 : decode cX4_tests 44 = .ok (.invokevirtual 217, 3) := by decide +kernel
theorem dX4_tests_47 : decode cX4_tests 47 = .ok (.ifCond .eq 5, 3) := by decide +kernel
theorem dX4_tests_50 : decode cX4_tests 50 = .ok (.iload_n 3, 1) := by decide +kernel
theorem dX4_tests_51 : decode cX4_tests 51 = .ok (.istore_n 2, 1) := by decide +kernel
theorem dX4_tests_52 : decode cX4_tests 52 = .ok (.iinc 3 1, 3) := by decide +kernel
theorem dX4_tests_55 : decode cX4_tests 55 = .ok (.goto (-38), 3) := by decide +kernel
theorem dX4_tests_58 : decode cX4_tests 58 = .ok (.iload_n 2, 1) := by decide +kernel
theorem dX4_tests_59 : decode cX4_tests 59 = .ok (.ifCond .lt 8, 3) := by decide +kernel
theorem dX4_tests_62 : decode cX4_tests 62 = .ok (.iload_n 1, 1) := by decide +kernel
theorem dX4_tests_63 : decode cX4_tests 63 = .ok (.iconst 1, 1) := by decide +kernel
theorem dX4_tests_64 : decode cX4_tests 64 = .ok (.if_icmp .ne 7, 3) := by decide +kernel
theorem dX4_tests_67 : decode cX4_tests 67 = .ok (.iload_n 2, 1) := by decide +kernel
theorem dX4_tests_68 : decode cX4_tests 68 = .ok (.goto 7, 3) := by decide +kernel
theorem dX4_tests_71 : decode cX4_tests 71 = .ok (.iload_n 2, 1) := by decide +kernel
theorem dX4_tests_72 : decode cX4_tests 72 = .ok (.invokestatic 148, 3) := by decide +kernel
theorem dX4_tests_75 : decode cX4_tests 75 = .ok (.ireturn, 1) := by decide +kernel
theorem dX4_manyHave_0 : decode cX4_manyHave 0 = .ok (.iconst 0, 1) := by decide +kernel
theorem dX4_manyHave_1 : decode cX4_manyHave 1 = .ok (.istore_n 3, 1) := by decide +kernel
theorem dX4_manyHave_2 : decode cX4_manyHave 2 = .ok (.iconst 0, 1) := by decide +kernel
theorem dX4_manyHave_3 : decode cX4_manyHave 3 = .ok (.istore 4, 2) := by decide +kernel
theorem dX4_manyHave_5 : decode cX4_manyHave 5 = .ok (.iload 4, 2) := by decide +kernel
theorem dX4_manyHave_7 : decode cX4_manyHave 7 = .ok (.aload_n 0, 1) := by decide +kernel
theorem dX4_manyHave_8 : decode cX4_manyHave 8 = .ok (.getfield 64, 3) := by decide +kernel
theorem dX4_manyHave_11 : decode cX4_manyHave 11 = .ok (.if_icmp .ge 29, 3) := by decide +kernel
theorem dX4_manyHave_14 : decode cX4_manyHave 14 = .ok (.iload_n 3, 1) := by decide +kernel
theorem dX4_manyHave_15 : decode cX4_manyHave 15 = .ok (.aload_n 0, 1) := by decide +kernel
theorem dX4_manyHave_16 : decode cX4_manyHave 16 = .ok (.iconst 0, 1) := by decide +kernel
theorem dX4_manyHave_17 : decode cX4_manyHave 17 = .ok (.iload 4, 2) := by decide +kernel
theorem dX4_manyHave_19 : decode cX4_manyHave 19 = .ok (.iload_n 1, 1) := by decide +kernel
theorem dX4_manyHave_20 : decode cX4_manyHave 20 = .ok (.invokevirtual 141, 3) := by decide +kernel
theorem dX4_manyHave_23 : decode cX4_manyHave 23 = .ok (.iload_n 2, 1) := by decide +kernel
theorem dX4_manyHave_24 : decode cX4_manyHave 24 = .ok (.if_icmp .ne 7, 3) := by decide +kernel
theorem dX4_manyHave_27 : decode cX4_manyHave 27 = .ok (.iconst 1, 1) := by decide +kernel
theorem dX4_manyHave_28 : decode cX4_manyHave 28 = .ok (.goto 4, 3) := by decide +kernel
theorem dX4_manyHave_31 : decode cX4_manyHave 31 = .ok (.iconst 0, 1) := by decide +kernel
theorem dX4_manyHave_32 : decode cX4_manyHave 32 = .ok (.iadd, 1) := by decide +kernel
theorem dX4_manyHave_33 : decode cX4_manyHave 33 = .ok (.istore_n 3, 1) := by decide +kernel
theorem dX4_manyHave_34 : decode cX4_manyHave 34 = .ok (.iinc 4 1, 3) := by decide +kernel
theorem dX4_manyHave_37 : decode cX4_manyHave 37 = .ok (.goto (-32), 3) := by decide +kernel
theorem dX4_manyHave_40 : decode cX4_manyHave 40 = .ok (.iload_n 3, 1) := by decide +kernel
theorem dX4_manyHave_41 : decode cX4_manyHave 41 = .ok (.ireturn, 1) := by decide +kernel
theorem dX4_other_0 : decode cX4_other 0 = .ok (.iconst 0, 1) := by decide +kernel
theorem dX4_other_1 : decode cX4_other 1 = .ok (.istore_n 1, 1) := by decide +kernel
theorem dX4_other_2 : decode cX4_other 2 = .ok (.iconst 0, 1) := by decide +kernel
theorem dX4_other_3 : decode cX4_other 3 = .ok (.istore_n 2, 1) := by decide +kernel
theorem dX4_other_4 : decode cX4_other 4 = .ok (.iload_n 2, 1) := by decide +kernel
theorem dX4_other_5 : decode cX4_other 5 = .ok (.aload_n 0, 1) := by decide +kernel
theorem dX4_other_6 : decode cX4_other 6 = .ok (.getfield 61, 3) := by decide +kernel
theorem dX4_other_9 : decode cX4_other 9 = .ok (.if_icmp .ge 63, 3) := by decide +kernel
theorem dX4_other_12 : decode cX4_other 12 = .ok (.iconst 0, 1) := by decide +kernel
theorem dX4_other_13 : decode cX4_other 13 = .ok (.istore_n 3, 1) := by decide +kernel
theorem dX4_other_14 : decode cX4_other 14 = .ok (.iload_n 3, 1) := by decide +kernel
theorem dX4_other_15 : decode cX4_other 15 = .ok (.bipush 10, 2) := by decide +kernel
theorem dX4_other_17 : decode cX4_other 17 = .ok (.if_icmp .ge 49, 3) := by decide +kernel
theorem dX4_other_20 : decode cX4_other 20 = .ok (.iload_n 1, 1) := by decide +kernel
theorem dX4_other_21 : decode cX4_other 21 = .ok (.iload_n 3, 1) := by decide +kernel
theorem dX4_other_22 : decode cX4_other 22 = .ok (.aload_n 0, 1) := by decide +kernel
theorem dX4_other_23 : decode cX4_other 23 = .ok (.getfield 7, 3) := by decide +kernel
theorem dX4_other_26 : decode cX4_other 26 = .ok (.iload_n 2, 1) := by decide +kernel
theorem dX4_other_27 : decode cX4_other 27 = .ok (.iaload, 1) := by decide +kernel
theorem dX4_other_28 : decode cX4_other 28 = .ok (.if_icmp .eq 29, 3) := by decide +kernel
theorem dX4_other_31 : decode cX4_other 31 = .ok (.aload_n 0, 1) := by decide +kernel
theorem dX4_other_32 : decode cX4_other 32 = .ok (.iload_n 2, 1) := by decide +kernel
theorem dX4_other_33 : decode cX4_other 33 = .ok (.iload_n 3, 1) := by decide +kernel
theorem dX4_other_34 : decode cX4_other 34 = .ok (.invokevirtual 220, 3) := by decide +kernel
theorem dX4_other_37 : decode cX4_other 37 = .ok (.aload_n 0, 1) := by decide +kernel
theorem dX4_other_38 : decode cX4_other 38 = .ok (.iload_n 2, 1) := by decide +kernel
theorem dX4_other_39 : decode cX4_other 39 = .ok (.aload_n 0, 1) := by decide +kernel
theorem dX4_other_40 : decode cX4_other 40 = .ok (.getfield 7, 3) := by decide +kernel
theorem dX4_other_43 : decode cX4_other 43 = .ok (.iload_n 2, 1) := by decide +kernel
theorem dX4_other_44 : decode cX4_other 44 = .ok (.iaload, 1) := by decide +kernel
theorem dX4_other_45 : decode cX4_other 45 = .ok (.invokevirtual 220, 3) := by decide +kernel
theorem dX4_other_48 : decode cX4_other 48 = .ok (.if_icmp .le 9, 3) := by decide +kernel
theorem dX4_other_51 : decode cX4_other 51 = .ok (.iconst 1, 1) := by decide +kernel
theorem dX4_other_52 : decode cX4_other 52 = .ok (.iload_n 2, 1) := by decide +kernel
theorem dX4_other_53 : decode cX4_other 53 = .ok (.ishl, 1) := by decide +kernel
theorem dX4_other_54 : decode cX4_other 54 = .ok (.goto 4, 3) := by decide +kernel
theorem dX4_other_57 : decode cX4_other 57 = .ok (.iconst 0, 1) := by decide +kernel
theorem dX4_other_58 : decode cX4_other 58 = .ok (.ior, 1) := by decide +kernel
theorem dX4_other_59 : decode cX4_other 59 = .ok (.istore_n 1, 1) := by decide +kernel
theorem dX4_other_60 : decode cX4_other 60 = .ok (.iinc 3 1, 3) := by decide +kernel
theorem dX4_other_63 : decode cX4_other 63 = .ok (.goto (-49), 3) := by decide +kernel
theorem dX4_other_66 : decode cX4_other 66 = .ok (.iinc 2 1, 3) := by decide +kernel
theorem dX4_other_69 : decode cX4_other 69 = .ok (.goto (-65), 3) := by decide +kernel
theorem dX4_other_72 : decode cX4_other 72 = .ok (.iload_n 1, 1) := by decide +kernel
theorem dX4_other_73 : decode cX4_other 73 = .ok (.ireturn, 1) := by decide +kernel
theorem dX4_hear_0 : decode cX4_hear 0 = .ok (.aload_n 0, 1) := by decide +kernel
theorem dX4_hear_1 : decode cX4_hear 1 = .ok (.iload_n 1, 1) := by decide +kernel
theorem dX4_hear_2 : decode cX4_hear 2 = .ok (.invokevirtual 137, 3) := by decide +kernel
theorem dX4_hear_5 : decode cX4_hear 5 = .ok (.ifCond .eq 27, 3) := by decide +kernel
theorem dX4_hear_8 : decode cX4_hear 8 = .ok (.iload_n 2, 1) := by decide +kernel
theorem dX4_hear_9 : decode cX4_hear 9 = .ok (.i2l, 1) := by decide +kernel
theorem dX4_hear_10 : decode cX4_hear 10 = .ok (.lconst 0, 1) := by decide +kernel
theorem dX4_hear_11 : decode cX4_hear 11 = .ok (.ldc2_w 223, 3) := by decide +kernel
theorem dX4_hear_14 : decode cX4_hear 14 = .ok (.invokestatic 73, 3) := by decide +kernel
theorem dX4_hear_17 : decode cX4_hear 17 = .ok (.ifCond .eq 15, 3) := by decide +kernel
theorem dX4_hear_20 : decode cX4_hear 20 = .ok (.iload_n 3, 1) := by decide +kernel
theorem dX4_hear_21 : decode cX4_hear 21 = .ok (.i2l, 1) := by decide +kernel
theorem dX4_hear_22 : decode cX4_hear 22 = .ok (.lconst 0, 1) := by decide +kernel
theorem dX4_hear_23 : decode cX4_hear 23 = .ok (.ldc2_w 225, 3) := by decide +kernel
theorem dX4_hear_26 : decode cX4_hear 26 = .ok (.invokestatic 73, 3) := by decide +kernel
theorem dX4_hear_29 : decode cX4_hear 29 = .ok (.ifCond .ne 5, 3) := by decide +kernel
theorem dX4_hear_32 : decode cX4_hear 32 = .ok (.iconst (-1), 1) := by decide +kernel
theorem dX4_hear_33 : decode cX4_hear 33 = .ok (.ireturn, 1) := by decide +kernel
theorem dX4_hear_34 : decode cX4_hear 34 = .ok (.aload_n 0, 1) := by decide +kernel
theorem dX4_hear_35 : decode cX4_hear 35 = .ok (.getfield 134, 3) := by decide +kernel
theorem dX4_hear_38 : decode cX4_hear 38 = .ok (.bipush 6, 2) := by decide +kernel
theorem dX4_hear_40 : decode cX4_hear 40 = .ok (.if_icmp .ne 6, 3) := by decide +kernel
theorem dX4_hear_43 : decode cX4_hear 43 = .ok (.bipush (-3), 2) := by decide +kernel
theorem dX4_hear_45 : decode cX4_hear 45 = .ok (.ireturn, 1) := by decide +kernel
theorem dX4_hear_46 : decode cX4_hear 46 = .ok (.aload_n 0, 1) := by decide +kernel
theorem dX4_hear_47 : decode cX4_hear 47 = .ok (.getfield 23, 3) := by decide +kernel
theorem dX4_hear_50 : decode cX4_hear 50 = .ok (.aload_n 0, 1) := by decide +kernel
theorem dX4_hear_51 : decode cX4_hear 51 = .ok (.getfield 134, 3) := by decide +kernel
theorem dX4_hear_54 : decode cX4_hear 54 = .ok (.iload_n 1, 1) := by decide +kernel
theorem dX4_hear_55 : decode cX4_hear 55 = .ok (.iastore, 1) := by decide +kernel
theorem dX4_hear_56 : decode cX4_hear 56 = .ok (.aload_n 0, 1) := by decide +kernel
theorem dX4_hear_57 : decode cX4_hear 57 = .ok (.getfield 26, 3) := by decide +kernel
theorem dX4_hear_60 : decode cX4_hear 60 = .ok (.aload_n 0, 1) := by decide +kernel
theorem dX4_hear_61 : decode cX4_hear 61 = .ok (.getfield 134, 3) := by decide +kernel
theorem dX4_hear_64 : decode cX4_hear 64 = .ok (.iload_n 2, 1) := by decide +kernel
theorem dX4_hear_65 : decode cX4_hear 65 = .ok (.bipush 10, 2) := by decide +kernel
theorem dX4_hear_67 : decode cX4_hear 67 = .ok (.if_icmp .ne 7, 3) := by decide +kernel
theorem dX4_hear_70 : decode cX4_hear 70 = .ok (.iconst (-1), 1) := by decide +kernel
theorem dX4_hear_71 : decode cX4_hear 71 = .ok (.goto 4, 3) := by decide +kernel
theorem dX4_hear_74 : decode cX4_hear 74 = .ok (.iload_n 2, 1) := by decide +kernel
theorem dX4_hear_75 : decode cX4_hear 75 = .ok (.iastore, 1) := by decide +kernel
theorem dX4_hear_76 : decode cX4_hear 76 = .ok (.aload_n 0, 1) := by decide +kernel
theorem dX4_hear_77 : decode cX4_hear 77 = .ok (.getfield 29, 3) := by decide +kernel
theorem dX4_hear_80 : decode cX4_hear 80 = .ok (.aload_n 0, 1) := by decide +kernel
theorem dX4_hear_81 : decode cX4_hear 81 = .ok (.getfield 134, 3) := by decide +kernel
theorem dX4_hear_84 : decode cX4_hear 84 = .ok (.iload_n 3, 1) := by decide +kernel
theorem dX4_hear_85 : decode cX4_hear 85 = .ok (.iastore, 1) := by decide +kernel
theorem dX4_hear_86 : decode cX4_hear 86 = .ok (.aload_n 0, 1) := by decide +kernel
theorem dX4_hear_87 : decode cX4_hear 87 = .ok (.dup, 1) := by decide +kernel
theorem dX4_hear_88 : decode cX4_hear 88 = .ok (.getfield 134, 3) := by decide +kernel
theorem dX4_hear_91 : decode cX4_hear 91 = .ok (.iconst 1, 1) := by decide +kernel
theorem dX4_hear_92 : decode cX4_hear 92 = .ok (.iadd, 1) := by decide +kernel
theorem dX4_hear_93 : decode cX4_hear 93 = .ok (.putfield 134, 3) := by decide +kernel
theorem dX4_hear_96 : decode cX4_hear 96 = .ok (.aload_n 0, 1) := by decide +kernel
theorem dX4_hear_97 : decode cX4_hear 97 = .ok (.getfield 134, 3) := by decide +kernel
theorem dX4_hear_100 : decode cX4_hear 100 = .ok (.ireturn, 1) := by decide +kernel
theorem dX4_forget_0 : decode cX4_forget 0 = .ok (.aload_n 0, 1) := by decide +kernel
theorem dX4_forget_1 : decode cX4_forget 1 = .ok (.getfield 134, 3) := by decide +kernel
theorem dX4_forget_4 : decode cX4_forget 4 = .ok (.istore_n 1, 1) := by decide +kernel
theorem dX4_forget_5 : decode cX4_forget 5 = .ok (.aload_n 0, 1) := by decide +kernel
theorem dX4_forget_6 : decode cX4_forget 6 = .ok (.iconst 0, 1) := by decide +kernel
theorem dX4_forget_7 : decode cX4_forget 7 = .ok (.putfield 134, 3) := by decide +kernel
theorem dX4_forget_10 : decode cX4_forget 10 = .ok (.iload_n 1, 1) := by decide +kernel
theorem dX4_forget_11 : decode cX4_forget 11 = .ok (.ireturn, 1) := by decide +kernel
theorem dX4_fits_0 : decode cX4_fits 0 = .ok (.iconst 1, 1) := by decide +kernel
theorem dX4_fits_1 : decode cX4_fits 1 = .ok (.aload_n 0, 1) := by decide +kernel
theorem dX4_fits_2 : decode cX4_fits 2 = .ok (.getfield 64, 3) := by decide +kernel
theorem dX4_fits_5 : decode cX4_fits 5 = .ok (.ishl, 1) := by decide +kernel
theorem dX4_fits_6 : decode cX4_fits 6 = .ok (.iconst 1, 1) := by decide +kernel
theorem dX4_fits_7 : decode cX4_fits 7 = .ok (.isub, 1) := by decide +kernel
theorem dX4_fits_8 : decode cX4_fits 8 = .ok (.istore_n 1, 1) := by decide +kernel
theorem dX4_fits_9 : decode cX4_fits 9 = .ok (.iconst 0, 1) := by decide +kernel
theorem dX4_fits_10 : decode cX4_fits 10 = .ok (.istore_n 2, 1) := by decide +kernel
theorem dX4_fits_11 : decode cX4_fits 11 = .ok (.iload_n 2, 1) := by decide +kernel
theorem dX4_fits_12 : decode cX4_fits 12 = .ok (.bipush 20, 2) := by decide +kernel
theorem dX4_fits_14 : decode cX4_fits 14 = .ok (.if_icmp .gt 98, 3) := by decide +kernel
theorem dX4_fits_17 : decode cX4_fits 17 = .ok (.iconst 0, 1) := by decide +kernel
theorem dX4_fits_18 : decode cX4_fits 18 = .ok (.istore_n 3, 1) := by decide +kernel
theorem dX4_fits_19 : decode cX4_fits 19 = .ok (.iload_n 3, 1) := by decide +kernel
theorem dX4_fits_20 : decode cX4_fits 20 = .ok (.aload_n 0, 1) := by decide +kernel
theorem dX4_fits_21 : decode cX4_fits 21 = .ok (.getfield 134, 3) := by decide +kernel
theorem dX4_fits_24 : decode cX4_fits 24 = .ok (.if_icmp .ge 74, 3) := by decide +kernel
theorem dX4_fits_27 : decode cX4_fits 27 = .ok (.iconst 0, 1) := by decide +kernel
theorem dX4_fits_28 : decode cX4_fits 28 = .ok (.istore 4, 2) := by decide +kernel
theorem dX4_fits_30 : decode cX4_fits 30 = .ok (.iload 4, 2) := by decide +kernel
theorem dX4_fits_32 : decode cX4_fits 32 = .ok (.aload_n 0, 1) := by decide +kernel
theorem dX4_fits_33 : decode cX4_fits 33 = .ok (.getfield 64, 3) := by decide +kernel
theorem dX4_fits_36 : decode cX4_fits 36 = .ok (.if_icmp .ge 56, 3) := by decide +kernel
theorem dX4_fits_39 : decode cX4_fits 39 = .ok (.aload_n 0, 1) := by decide +kernel
theorem dX4_fits_40 : decode cX4_fits 40 = .ok (.getfield 29, 3) := by decide +kernel
theorem dX4_fits_43 : decode cX4_fits 43 = .ok (.iload_n 3, 1) := by decide +kernel
theorem dX4_fits_44 : decode cX4_fits 44 = .ok (.iaload, 1) := by decide +kernel
theorem dX4_fits_45 : decode cX4_fits 45 = .ok (.iload_n 2, 1) := by decide +kernel
theorem dX4_fits_46 : decode cX4_fits 46 = .ok (.if_icmp .ne 46, 3) := by decide +kernel
theorem dX4_fits_49 : decode cX4_fits 49 = .ok (.iload_n 1, 1) := by decide +kernel
theorem dX4_fits_50 : decode cX4_fits 50 = .ok (.aload_n 0, 1) := by decide +kernel
theorem dX4_fits_51 : decode cX4_fits 51 = .ok (.sipush 1001, 3) := by decide +kernel
theorem dX4_fits_54 : decode cX4_fits 54 = .ok (.iload 4, 2) := by decide +kernel
theorem dX4_fits_56 : decode cX4_fits 56 = .ok (.aload_n 0, 1) := by decide +kernel
theorem dX4_fits_57 : decode cX4_fits 57 = .ok (.getfield 23, 3) := by decide +kernel
theorem dX4_fits_60 : decode cX4_fits 60 = .ok (.iload_n 3, 1) := by decide +kernel
theorem dX4_fits_61 : decode cX4_fits 61 = .ok (.iaload, 1) := by decide +kernel
theorem dX4_fits_62 : decode cX4_fits 62 = .ok (.invokevirtual 141, 3) := by decide +kernel
theorem dX4_fits_65 : decode cX4_fits 65 = .ok (.aload_n 0, 1) := by decide +kernel
theorem dX4_fits_66 : decode cX4_fits 66 = .ok (.getfield 26, 3) := by decide +kernel
theorem dX4_fits_69 : decode cX4_fits 69 = .ok (.iload_n 3, 1) := by decide +kernel
theorem dX4_fits_70 : decode cX4_fits 70 = .ok (.iaload, 1) := by decide +kernel
theorem dX4_fits_71 : decode cX4_fits 71 = .ok (.if_icmp .ne 7, 3) := by decide +kernel
theorem dX4_fits_74 : decode cX4_fits 74 = .ok (.iconst (-1), 1) := by decide +kernel
theorem dX4_fits_75 : decode cX4_fits 75 = .ok (.goto 9, 3) := by decide +kernel
theorem dX4_fits_78 : decode cX4_fits 78 = .ok (.iconst 1, 1) := by decide +kernel
theorem dX4_fits_79 : decode cX4_fits 79 = .ok (.iload 4, 2) := by decide +kernel
theorem dX4_fits_81 : decode cX4_fits 81 = .ok (.ishl, 1) := by decide +kernel
theorem dX4_fits_82 : decode cX4_fits 82 = .ok (.iconst (-1), 1) := by decide +kernel
theorem dX4_fits_83 : decode cX4_fits 83 = .ok (.ixor, 1) := by decide +kernel
theorem dX4_fits_84 : decode cX4_fits 84 = .ok (.iand, 1) := by decide +kernel
theorem dX4_fits_85 : decode cX4_fits 85 = .ok (.istore_n 1, 1) := by decide +kernel
theorem dX4_fits_86 : decode cX4_fits 86 = .ok (.iinc 4 1, 3) := by decide +kernel
theorem dX4_fits_89 : decode cX4_fits 89 = .ok (.goto (-59), 3) := by decide +kernel
theorem dX4_fits_92 : decode cX4_fits 92 = .ok (.iinc 3 1, 3) := by decide +kernel
theorem dX4_fits_95 : decode cX4_fits 95 = .ok (.goto (-76), 3) := by decide +kernel
theorem dX4_fits_98 : decode cX4_fits 98 = .ok (.aload_n 0, 1) := by decide +kernel
theorem dX4_fits_99 : decode cX4_fits 99 = .ok (.sipush 1001, 3) := by decide +kernel
theorem dX4_fits_102 : decode cX4_fits 102 = .ok (.iconst 0, 1) := by decide +kernel
theorem dX4_fits_103 : decode cX4_fits 103 = .ok (.invokevirtual 185, 3) := by decide +kernel
theorem dX4_fits_106 : decode cX4_fits 106 = .ok (.iinc 2 1, 3) := by decide +kernel
theorem dX4_fits_109 : decode cX4_fits 109 = .ok (.goto (-98), 3) := by decide +kernel
theorem dX4_fits_112 : decode cX4_fits 112 = .ok (.iload_n 1, 1) := by decide +kernel
theorem dX4_fits_113 : decode cX4_fits 113 = .ok (.ireturn, 1) := by decide +kernel
theorem dX4_which_0 : decode cX4_which 0 = .ok (.aload_n 0, 1) := by decide +kernel
theorem dX4_which_1 : decode cX4_which 1 = .ok (.iconst 0, 1) := by decide +kernel
theorem dX4_which_2 : decode cX4_which 2 = .ok (.sipush 1001, 3) := by decide +kernel
theorem dX4_which_5 : decode cX4_which 5 = .ok (.invokevirtual 70, 3) := by decide +kernel
theorem dX4_which_8 : decode cX4_which 8 = .ok (.aload_n 0, 1) := by decide +kernel
theorem dX4_which_9 : decode cX4_which 9 = .ok (.invokevirtual 227, 3) := by decide +kernel
theorem dX4_which_12 : decode cX4_which 12 = .ok (.ireturn, 1) := by decide +kernel
theorem dX4_kinds_0 : decode cX4_kinds 0 = .ok (.aload_n 0, 1) := by decide +kernel
theorem dX4_kinds_1 : decode cX4_kinds 1 = .ok (.iload_n 1, 1) := by decide +kernel
theorem dX4_kinds_2 : decode cX4_kinds 2 = .ok (.invokevirtual 152, 3) := by decide +kernel
theorem dX4_kinds_5 : decode cX4_kinds 5 = .ok (.ifCond .ne 5, 3) := by decide +kernel
theorem dX4_kinds_8 : decode cX4_kinds 8 = .ok (.iconst (-1), 1) := by decide +kernel
theorem dX4_kinds_9 : decode cX4_kinds 9 = .ok (.ireturn, 1) := by decide +kernel
theorem dX4_kinds_10 : decode cX4_kinds 10 = .ok (.iconst 0, 1) := by decide +kernel
theorem dX4_kinds_11 : decode cX4_kinds 11 = .ok (.istore_n 2, 1) := by decide +kernel
theorem dX4_kinds_12 : decode cX4_kinds 12 = .ok (.iconst 0, 1) := by decide +kernel
theorem dX4_kinds_13 : decode cX4_kinds 13 = .ok (.istore_n 3, 1) := by decide +kernel
theorem dX4_kinds_14 : decode cX4_kinds 14 = .ok (.iload_n 3, 1) := by decide +kernel
theorem dX4_kinds_15 : decode cX4_kinds 15 = .ok (.iconst 4, 1) := by decide +kernel
theorem dX4_kinds_16 : decode cX4_kinds 16 = .ok (.if_icmp .ge 53, 3) := by decide +kernel
theorem dX4_kinds_19 : decode cX4_kinds 19 = .ok (.aload_n 0, 1) := by decide +kernel
theorem dX4_kinds_20 : decode cX4_kinds 20 = .ok (.iconst 0, 1) := by decide +kernel
theorem dX4_kinds_21 : decode cX4_kinds 21 = .ok (.sipush 1001, 3) := by decide +kernel
theorem dX4_kinds_24 : decode cX4_kinds 24 = .ok (.invokevirtual 70, 3) := by decide +kernel
theorem dX4_kinds_27 : decode cX4_kinds 27 = .ok (.aload_n 0, 1) := by decide +kernel
theorem dX4_kinds_28 : decode cX4_kinds 28 = .ok (.getfield 16, 3) := by decide +kernel
theorem dX4_kinds_31 : decode cX4_kinds 31 = .ok (.sipush 1001, 3) := by decide +kernel
theorem dX4_kinds_34 : decode cX4_kinds 34 = .ok (.bipush 18, 2) := by decide +kernel
theorem dX4_kinds_36 : decode cX4_kinds 36 = .ok (.iload_n 1, 1) := by decide +kernel
theorem dX4_kinds_37 : decode cX4_kinds 37 = .ok (.imul, 1) := by decide +kernel
theorem dX4_kinds_38 : decode cX4_kinds 38 = .ok (.iadd, 1) := by decide +kernel
theorem dX4_kinds_39 : decode cX4_kinds 39 = .ok (.iload_n 3, 1) := by decide +kernel
theorem dX4_kinds_40 : decode cX4_kinds 40 = .ok (.iastore, 1) := by decide +kernel
theorem dX4_kinds_41 : decode cX4_kinds 41 = .ok (.iload_n 2, 1) := by decide +kernel
theorem dX4_kinds_42 : decode cX4_kinds 42 = .ok (.aload_n 0, 1) := by decide +kernel
theorem dX4_kinds_43 : decode cX4_kinds 43 = .ok (.invokevirtual 227, 3) := by decide +kernel
theorem dX4_kinds_46 : decode cX4_kinds 46 = .ok (.iload_n 1, 1) := by decide +kernel
theorem dX4_kinds_47 : decode cX4_kinds 47 = .ok (.ishr, 1) := by decide +kernel
theorem dX4_kinds_48 : decode cX4_kinds 48 = .ok (.iconst 1, 1) := by decide +kernel
theorem dX4_kinds_49 : decode cX4_kinds 49 = .ok (.iand, 1) := by decide +kernel
theorem dX4_kinds_50 : decode cX4_kinds 50 = .ok (.iconst 1, 1) := by decide +kernel
theorem dX4_kinds_51 : decode cX4_kinds 51 = .ok (.if_icmp .ne 9, 3) := by decide +kernel
theorem dX4_kinds_54 : decode cX4_kinds 54 = .ok (.iconst 1, 1) := by decide +kernel
theorem dX4_kinds_55 : decode cX4_kinds 55 = .ok (.iload_n 3, 1) := by decide +kernel
theorem dX4_kinds_56 : decode cX4_kinds 56 = .ok (.ishl, 1) := by decide +kernel
theorem dX4_kinds_57 : decode cX4_kinds 57 = .ok (.goto 4, 3) := by decide +kernel
theorem dX4_kinds_60 : decode cX4_kinds 60 = .ok (.iconst 0, 1) := by decide +kernel
theorem dX4_kinds_61 : decode cX4_kinds 61 = .ok (.ior, 1) := by decide +kernel
theorem dX4_kinds_62 : decode cX4_kinds 62 = .ok (.istore_n 2, 1) := by decide +kernel
theorem dX4_kinds_63 : decode cX4_kinds 63 = .ok (.iinc 3 1, 3) := by decide +kernel
theorem dX4_kinds_66 : decode cX4_kinds 66 = .ok (.goto (-52), 3) := by decide +kernel
theorem dX4_kinds_69 : decode cX4_kinds 69 = .ok (.iload_n 2, 1) := by decide +kernel
theorem dX4_kinds_70 : decode cX4_kinds 70 = .ok (.ireturn, 1) := by decide +kernel
theorem dX4_hail_0 : decode cX4_hail 0 = .ok (.aload_n 0, 1) := by decide +kernel
theorem dX4_hail_1 : decode cX4_hail 1 = .ok (.iload_n 1, 1) := by decide +kernel
theorem dX4_hail_2 : decode cX4_hail 2 = .ok (.invokevirtual 152, 3) := by decide +kernel
theorem dX4_hail_5 : decode cX4_hail 5 = .ok (.ifCond .eq 38, 3) := by decide +kernel
theorem dX4_hail_8 : decode cX4_hail 8 = .ok (.iload_n 2, 1) := by decide +kernel
theorem dX4_hail_9 : decode cX4_hail 9 = .ok (.i2l, 1) := by decide +kernel
theorem dX4_hail_10 : decode cX4_hail 10 = .ok (.lconst 0, 1) := by decide +kernel
theorem dX4_hail_11 : decode cX4_hail 11 = .ok (.ldc2_w 106, 3) := by decide +kernel
theorem dX4_hail_14 : decode cX4_hail 14 = .ok (.invokestatic 73, 3) := by decide +kernel
theorem dX4_hail_17 : decode cX4_hail 17 = .ok (.ifCond .eq 26, 3) := by decide +kernel
theorem dX4_hail_20 : decode cX4_hail 20 = .ok (.iload_n 3, 1) := by decide +kernel
theorem dX4_hail_21 : decode cX4_hail 21 = .ok (.i2l, 1) := by decide +kernel
theorem dX4_hail_22 : decode cX4_hail 22 = .ok (.lconst 0, 1) := by decide +kernel
theorem dX4_hail_23 : decode cX4_hail 23 = .ok (.ldc2_w 223, 3) := by decide +kernel
theorem dX4_hail_26 : decode cX4_hail 26 = .ok (.invokestatic 73, 3) := by decide +kernel
theorem dX4_hail_29 : decode cX4_hail 29 = .ok (.ifCond .eq 14, 3) := by decide +kernel
theorem dX4_hail_32 : decode cX4_hail 32 = .ok (.iload 4, 2) := by decide +kernel
theorem dX4_hail_34 : decode cX4_hail 34 = .ok (.i2l, 1) := by decide +kernel
theorem dX4_hail_35 : decode cX4_hail 35 = .ok (.lconst 0, 1) := by decide +kernel
theorem dX4_hail_36 : decode cX4_hail 36 = .ok (.lconst 1, 1) := by decide +kernel
theorem dX4_hail_37 : decode cX4_hail 37 = .ok (.invokestatic 73, 3) := by decide +kernel
theorem dX4_hail_40 : decode cX4_hail 40 = .ok (.ifCond .ne 5, 3) := by decide +kernel
theorem dX4_hail_43 : decode cX4_hail 43 = .ok (.iconst (-1), 1) := by decide +kernel
theorem dX4_hail_44 : decode cX4_hail 44 = .ok (.ireturn, 1) := by decide +kernel
theorem dX4_hail_45 : decode cX4_hail 45 = .ok (.iconst 0, 1) := by decide +kernel
theorem dX4_hail_46 : decode cX4_hail 46 = .ok (.istore 5, 2) := by decide +kernel
theorem dX4_hail_48 : decode cX4_hail 48 = .ok (.iconst 0, 1) := by decide +kernel
theorem dX4_hail_49 : decode cX4_hail 49 = .ok (.istore 6, 2) := by decide +kernel
theorem dX4_hail_51 : decode cX4_hail 51 = .ok (.iconst 0, 1) := by decide +kernel
theorem dX4_hail_52 : decode cX4_hail 52 = .ok (.istore 7, 2) := by decide +kernel
theorem dX4_hail_54 : decode cX4_hail 54 = .ok (.iload 7, 2) := by decide +kernel
theorem dX4_hail_56 : decode cX4_hail 56 = .ok (.iconst 1, 1) := by decide +kernel
theorem dX4_hail_57 : decode cX4_hail 57 = .ok (.iload_n 2, 1) := by decide +kernel
theorem dX4_hail_58 : decode cX4_hail 58 = .ok (.ishl, 1) := by decide +kernel
theorem dX4_hail_59 : decode cX4_hail 59 = .ok (.if_icmp .ge 109, 3) := by decide +kernel
theorem dX4_hail_62 : decode cX4_hail 62 = .ok (.aload_n 0, 1) := by decide +kernel
theorem dX4_hail_63 : decode cX4_hail 63 = .ok (.iconst 0, 1) := by decide +kernel
theorem dX4_hail_64 : decode cX4_hail 64 = .ok (.sipush 1001, 3) := by decide +kernel
theorem dX4_hail_67 : decode cX4_hail 67 = .ok (.invokevirtual 70, 3) := by decide +kernel
theorem dX4_hail_70 : decode cX4_hail 70 = .ok (.iconst 1, 1) := by decide +kernel
theorem dX4_hail_71 : decode cX4_hail 71 = .ok (.istore 8, 2) := by decide +kernel
theorem dX4_hail_73 : decode cX4_hail 73 = .ok (.iconst 0, 1) := by decide +kernel
theorem dX4_hail_74 : decode cX4_hail 74 = .ok (.istore 9, 2) := by decide +kernel
theorem dX4_hail_76 : decode cX4_hail 76 = .ok (.iload 9, 2) := by decide +kernel
theorem dX4_hail_78 : decode cX4_hail 78 = .ok (.iload_n 2, 1) := by decide +kernel
theorem dX4_hail_79 : decode cX4_hail 79 = .ok (.if_icmp .ge 54, 3) := by decide +kernel
theorem dX4_hail_82 : decode cX4_hail 82 = .ok (.iload 7, 2) := by decide +kernel
theorem dX4_hail_84 : decode cX4_hail 84 = .ok (.iload 9, 2) := by decide +kernel
theorem dX4_hail_86 : decode cX4_hail 86 = .ok (.ishr, 1) := by decide +kernel
theorem dX4_hail_87 : decode cX4_hail 87 = .ok (.iconst 1, 1) := by decide +kernel
theorem dX4_hail_88 : decode cX4_hail 88 = .ok (.iand, 1) := by decide +kernel
theorem dX4_hail_89 : decode cX4_hail 89 = .ok (.iconst 1, 1) := by decide +kernel
theorem dX4_hail_90 : decode cX4_hail 90 = .ok (.if_icmp .ne 7, 3) := by decide +kernel
theorem dX4_hail_93 : decode cX4_hail 93 = .ok (.iconst 1, 1) := by decide +kernel
theorem dX4_hail_94 : decode cX4_hail 94 = .ok (.goto 4, 3) := by decide +kernel
theorem dX4_hail_97 : decode cX4_hail 97 = .ok (.iconst 0, 1) := by decide +kernel
theorem dX4_hail_98 : decode cX4_hail 98 = .ok (.istore 10, 2) := by decide +kernel
theorem dX4_hail_100 : decode cX4_hail 100 = .ok (.iload 8, 2) := by decide +kernel
theorem dX4_hail_102 : decode cX4_hail 102 = .ok (.iload 10, 2) := by decide +kernel
theorem dX4_hail_104 : decode cX4_hail 104 = .ok (.ifCond .eq 7, 3) := by decide +kernel
theorem dX4_hail_107 : decode cX4_hail 107 = .ok (.iload_n 3, 1) := by decide +kernel
theorem dX4_hail_108 : decode cX4_hail 108 = .ok (.goto 7, 3) := by decide +kernel
theorem dX4_hail_111 : decode cX4_hail 111 = .ok (.bipush 10, 2) := by decide +kernel
theorem dX4_hail_113 : decode cX4_hail 113 = .ok (.iload_n 3, 1) := by decide +kernel
theorem dX4_hail_114 : decode cX4_hail 114 = .ok (.isub, 1) := by decide +kernel
theorem dX4_hail_115 : decode cX4_hail 115 = .ok (.imul, 1) := by decide +kernel
theorem dX4_hail_116 : decode cX4_hail 116 = .ok (.istore 8, 2) := by decide +kernel
theorem dX4_hail_118 : decode cX4_hail 118 = .ok (.aload_n 0, 1) := by decide +kernel
theorem dX4_hail_119 : decode cX4_hail 119 = .ok (.sipush 1001, 3) := by decide +kernel
theorem dX4_hail_122 : decode cX4_hail 122 = .ok (.iload 10, 2) := by decide +kernel
theorem dX4_hail_124 : decode cX4_hail 124 = .ok (.invokevirtual 185, 3) := by decide +kernel
theorem dX4_hail_127 : decode cX4_hail 127 = .ok (.iinc 9 1, 3) := by decide +kernel
theorem dX4_hail_130 : decode cX4_hail 130 = .ok (.goto (-54), 3) := by decide +kernel
theorem dX4_hail_133 : decode cX4_hail 133 = .ok (.iload 6, 2) := by decide +kernel
theorem dX4_hail_135 : decode cX4_hail 135 = .ok (.iload 8, 2) := by decide +kernel
theorem dX4_hail_137 : decode cX4_hail 137 = .ok (.iadd, 1) := by decide +kernel
theorem dX4_hail_138 : decode cX4_hail 138 = .ok (.istore 6, 2) := by decide +kernel
theorem dX4_hail_140 : decode cX4_hail 140 = .ok (.iload 5, 2) := by decide +kernel
theorem dX4_hail_142 : decode cX4_hail 142 = .ok (.aload_n 0, 1) := by decide +kernel
theorem dX4_hail_143 : decode cX4_hail 143 = .ok (.sipush 1001, 3) := by decide +kernel
theorem dX4_hail_146 : decode cX4_hail 146 = .ok (.iload_n 1, 1) := by decide +kernel
theorem dX4_hail_147 : decode cX4_hail 147 = .ok (.invokevirtual 160, 3) := by decide +kernel
theorem dX4_hail_150 : decode cX4_hail 150 = .ok (.ifCond .eq 8, 3) := by decide +kernel
theorem dX4_hail_153 : decode cX4_hail 153 = .ok (.iload 8, 2) := by decide +kernel
theorem dX4_hail_155 : decode cX4_hail 155 = .ok (.goto 4, 3) := by decide +kernel
theorem dX4_hail_158 : decode cX4_hail 158 = .ok (.iconst 0, 1) := by decide +kernel
theorem dX4_hail_159 : decode cX4_hail 159 = .ok (.iadd, 1) := by decide +kernel
theorem dX4_hail_160 : decode cX4_hail 160 = .ok (.istore 5, 2) := by decide +kernel
theorem dX4_hail_162 : decode cX4_hail 162 = .ok (.iinc 7 1, 3) := by decide +kernel
theorem dX4_hail_165 : decode cX4_hail 165 = .ok (.goto (-111), 3) := by decide +kernel
theorem dX4_hail_168 : decode cX4_hail 168 = .ok (.iload 5, 2) := by decide +kernel
theorem dX4_hail_170 : decode cX4_hail 170 = .ok (.istore 7, 2) := by decide +kernel
theorem dX4_hail_172 : decode cX4_hail 172 = .ok (.iload 6, 2) := by decide +kernel
theorem dX4_hail_174 : decode cX4_hail 174 = .ok (.istore 8, 2) := by decide +kernel
theorem dX4_hail_176 : decode cX4_hail 176 = .ok (.iload 8, 2) := by decide +kernel
theorem dX4_hail_178 : decode cX4_hail 178 = .ok (.ifCond .eq 21, 3) := by decide +kernel
theorem dX4_hail_181 : decode cX4_hail 181 = .ok (.iload 7, 2) := by decide +kernel
theorem dX4_hail_183 : decode cX4_hail 183 = .ok (.iload 8, 2) := by decide +kernel
theorem dX4_hail_185 : decode cX4_hail 185 = .ok (.irem, 1) := by decide +kernel
theorem dX4_hail_186 : decode cX4_hail 186 = .ok (.istore 9, 2) := by decide +kernel
theorem dX4_hail_188 : decode cX4_hail 188 = .ok (.iload 8, 2) := by decide +kernel
theorem dX4_hail_190 : decode cX4_hail 190 = .ok (.istore 7, 2) := by decide +kernel
theorem dX4_hail_192 : decode cX4_hail 192 = .ok (.iload 9, 2) := by decide +kernel
theorem dX4_hail_194 : decode cX4_hail 194 = .ok (.istore 8, 2) := by decide +kernel
theorem dX4_hail_196 : decode cX4_hail 196 = .ok (.goto (-20), 3) := by decide +kernel
theorem dX4_hail_199 : decode cX4_hail 199 = .ok (.iload 4, 2) := by decide +kernel
theorem dX4_hail_201 : decode cX4_hail 201 = .ok (.ifCond .ne 11, 3) := by decide +kernel
theorem dX4_hail_204 : decode cX4_hail 204 = .ok (.iload 5, 2) := by decide +kernel
theorem dX4_hail_206 : decode cX4_hail 206 = .ok (.iload 7, 2) := by decide +kernel
theorem dX4_hail_208 : decode cX4_hail 208 = .ok (.idiv, 1) := by decide +kernel
theorem dX4_hail_209 : decode cX4_hail 209 = .ok (.goto 8, 3) := by decide +kernel
theorem dX4_hail_212 : decode cX4_hail 212 = .ok (.iload 6, 2) := by decide +kernel
theorem dX4_hail_214 : decode cX4_hail 214 = .ok (.iload 7, 2) := by decide +kernel
theorem dX4_hail_216 : decode cX4_hail 216 = .ok (.idiv, 1) := by decide +kernel
theorem dX4_hail_217 : decode cX4_hail 217 = .ok (.ireturn, 1) := by decide +kernel
theorem dX4_does_0 : decode cX4_does 0 = .ok (.iload_n 2, 1) := by decide +kernel
theorem dX4_does_1 : decode cX4_does 1 = .ok (.bipush 8, 2) := by decide +kernel
theorem dX4_does_3 : decode cX4_does 3 = .ok (.irem, 1) := by decide +kernel
theorem dX4_does_4 : decode cX4_does 4 = .ok (.istore_n 3, 1) := by decide +kernel
theorem dX4_does_5 : decode cX4_does 5 = .ok (.iload_n 2, 1) := by decide +kernel
theorem dX4_does_6 : decode cX4_does 6 = .ok (.bipush 8, 2) := by decide +kernel
theorem dX4_does_8 : decode cX4_does 8 = .ok (.idiv, 1) := by decide +kernel
theorem dX4_does_9 : decode cX4_does 9 = .ok (.aload_n 0, 1) := by decide +kernel
theorem dX4_does_10 : decode cX4_does 10 = .ok (.getfield 64, 3) := by decide +kernel
theorem dX4_does_13 : decode cX4_does 13 = .ok (.irem, 1) := by decide +kernel
theorem dX4_does_14 : decode cX4_does 14 = .ok (.istore 4, 2) := by decide +kernel
theorem dX4_does_16 : decode cX4_does 16 = .ok (.iload_n 2, 1) := by decide +kernel
theorem dX4_does_17 : decode cX4_does 17 = .ok (.bipush 64, 2) := by decide +kernel
theorem dX4_does_19 : decode cX4_does 19 = .ok (.idiv, 1) := by decide +kernel
theorem dX4_does_20 : decode cX4_does 20 = .ok (.aload_n 0, 1) := by decide +kernel
theorem dX4_does_21 : decode cX4_does 21 = .ok (.getfield 61, 3) := by decide +kernel
theorem dX4_does_24 : decode cX4_does 24 = .ok (.irem, 1) := by decide +kernel
theorem dX4_does_25 : decode cX4_does 25 = .ok (.istore 5, 2) := by decide +kernel
theorem dX4_does_27 : decode cX4_does 27 = .ok (.iload_n 2, 1) := by decide +kernel
theorem dX4_does_28 : decode cX4_does 28 = .ok (.bipush 64, 2) := by decide +kernel
theorem dX4_does_30 : decode cX4_does 30 = .ok (.idiv, 1) := by decide +kernel
theorem dX4_does_31 : decode cX4_does 31 = .ok (.aload_n 0, 1) := by decide +kernel
theorem dX4_does_32 : decode cX4_does 32 = .ok (.getfield 64, 3) := by decide +kernel
theorem dX4_does_35 : decode cX4_does 35 = .ok (.irem, 1) := by decide +kernel
theorem dX4_does_36 : decode cX4_does 36 = .ok (.istore 6, 2) := by decide +kernel
theorem dX4_does_38 : decode cX4_does 38 = .ok (.iload_n 3, 1) := by decide +kernel
theorem dX4_does_39 : decode cX4_does 39 = .ok (.iconst 4, 1) := by decide +kernel
theorem dX4_does_40 : decode cX4_does 40 = .ok (.if_icmp .ge 15, 3) := by decide +kernel
theorem dX4_does_43 : decode cX4_does 43 = .ok (.aload_n 0, 1) := by decide +kernel
theorem dX4_does_44 : decode cX4_does 44 = .ok (.iload_n 1, 1) := by decide +kernel
theorem dX4_does_45 : decode cX4_does 45 = .ok (.iload 4, 2) := by decide +kernel
theorem dX4_does_47 : decode cX4_does 47 = .ok (.iload 5, 2) := by decide +kernel
theorem dX4_does_49 : decode cX4_does 49 = .ok (.invokevirtual 174, 3) := by decide +kernel
theorem dX4_does_52 : decode cX4_does 52 = .ok (.goto 60, 3) := by decide +kernel
theorem dX4_does_55 : decode cX4_does 55 = .ok (.iload_n 3, 1) := by decide +kernel
theorem dX4_does_56 : decode cX4_does 56 = .ok (.iconst 4, 1) := by decide +kernel
theorem dX4_does_57 : decode cX4_does 57 = .ok (.if_icmp .ne 34, 3) := by decide +kernel
theorem dX4_does_60 : decode cX4_does 60 = .ok (.aload_n 0, 1) := by decide +kernel
theorem dX4_does_61 : decode cX4_does 61 = .ok (.iload_n 1, 1) := by decide +kernel
theorem dX4_does_62 : decode cX4_does 62 = .ok (.iload 4, 2) := by decide +kernel
theorem dX4_does_64 : decode cX4_does 64 = .ok (.iload 5, 2) := by decide +kernel
theorem dX4_does_66 : decode cX4_does 66 = .ok (.invokevirtual 196, 3) := by decide +kernel
theorem dX4_does_69 : decode cX4_does 69 = .ok (.ifCond .eq 22, 3) := by decide +kernel
theorem dX4_does_72 : decode cX4_does 72 = .ok (.aload_n 0, 1) := by decide +kernel
theorem dX4_does_73 : decode cX4_does 73 = .ok (.iload_n 1, 1) := by decide +kernel
theorem dX4_does_74 : decode cX4_does 74 = .ok (.iload 4, 2) := by decide +kernel
theorem dX4_does_76 : decode cX4_does 76 = .ok (.iload 5, 2) := by decide +kernel
theorem dX4_does_78 : decode cX4_does 78 = .ok (.aload_n 0, 1) := by decide +kernel
theorem dX4_does_79 : decode cX4_does 79 = .ok (.getfield 7, 3) := by decide +kernel
theorem dX4_does_82 : decode cX4_does 82 = .ok (.iload 5, 2) := by decide +kernel
theorem dX4_does_84 : decode cX4_does 84 = .ok (.iaload, 1) := by decide +kernel
theorem dX4_does_85 : decode cX4_does 85 = .ok (.invokevirtual 167, 3) := by decide +kernel
theorem dX4_does_88 : decode cX4_does 88 = .ok (.goto 24, 3) := by decide +kernel
theorem dX4_does_91 : decode cX4_does 91 = .ok (.iload_n 3, 1) := by decide +kernel
theorem dX4_does_92 : decode cX4_does 92 = .ok (.iconst 5, 1) := by decide +kernel
theorem dX4_does_93 : decode cX4_does 93 = .ok (.if_icmp .ne 19, 3) := by decide +kernel
theorem dX4_does_96 : decode cX4_does 96 = .ok (.iload 4, 2) := by decide +kernel
theorem dX4_does_98 : decode cX4_does 98 = .ok (.iload 6, 2) := by decide +kernel
theorem dX4_does_100 : decode cX4_does 100 = .ok (.if_icmp .eq 12, 3) := by decide +kernel
theorem dX4_does_103 : decode cX4_does 103 = .ok (.aload_n 0, 1) := by decide +kernel
theorem dX4_does_104 : decode cX4_does 104 = .ok (.iload_n 1, 1) := by decide +kernel
theorem dX4_does_105 : decode cX4_does 105 = .ok (.iload 4, 2) := by decide +kernel
theorem dX4_does_107 : decode cX4_does 107 = .ok (.iload 6, 2) := by decide +kernel
theorem dX4_does_109 : decode cX4_does 109 = .ok (.invokevirtual 200, 3) := by decide +kernel
theorem dX4_does_112 : decode cX4_does 112 = .ok (.return_, 1) := by decide +kernel
theorem dX4_year_0 : decode cX4_year 0 = .ok (.iload_n 1, 1) := by decide +kernel
theorem dX4_year_1 : decode cX4_year 1 = .ok (.i2l, 1) := by decide +kernel
theorem dX4_year_2 : decode cX4_year 2 = .ok (.lconst 0, 1) := by decide +kernel
theorem dX4_year_3 : decode cX4_year 3 = .ok (.ldc2_w 230, 3) := by decide +kernel
theorem dX4_year_6 : decode cX4_year 6 = .ok (.invokestatic 73, 3) := by decide +kernel
theorem dX4_year_9 : decode cX4_year 9 = .ok (.ifCond .eq 25, 3) := by decide +kernel
theorem dX4_year_12 : decode cX4_year 12 = .ok (.iload_n 2, 1) := by decide +kernel
theorem dX4_year_13 : decode cX4_year 13 = .ok (.i2l, 1) := by decide +kernel
theorem dX4_year_14 : decode cX4_year 14 = .ok (.lconst 1, 1) := by decide +kernel
theorem dX4_year_15 : decode cX4_year 15 = .ok (.ldc2_w 232, 3) := by decide +kernel
theorem dX4_year_18 : decode cX4_year 18 = .ok (.invokestatic 73, 3) := by decide +kernel
theorem dX4_year_21 : decode cX4_year 21 = .ok (.ifCond .eq 13, 3) := by decide +kernel
theorem dX4_year_24 : decode cX4_year 24 = .ok (.iload_n 3, 1) := by decide +kernel
theorem dX4_year_25 : decode cX4_year 25 = .ok (.i2l, 1) := by decide +kernel
theorem dX4_year_26 : decode cX4_year 26 = .ok (.lconst 0, 1) := by decide +kernel
theorem dX4_year_27 : decode cX4_year 27 = .ok (.lconst 1, 1) := by decide +kernel
theorem dX4_year_28 : decode cX4_year 28 = .ok (.invokestatic 73, 3) := by decide +kernel
theorem dX4_year_31 : decode cX4_year 31 = .ok (.ifCond .ne 5, 3) := by decide +kernel
theorem dX4_year_34 : decode cX4_year 34 = .ok (.iconst (-1), 1) := by decide +kernel
theorem dX4_year_35 : decode cX4_year 35 = .ok (.ireturn, 1) := by decide +kernel
theorem dX4_year_36 : decode cX4_year 36 = .ok (.aload_n 0, 1) := by decide +kernel
theorem dX4_year_37 : decode cX4_year 37 = .ok (.iconst 0, 1) := by decide +kernel
theorem dX4_year_38 : decode cX4_year 38 = .ok (.sipush 1001, 3) := by decide +kernel
theorem dX4_year_41 : decode cX4_year 41 = .ok (.invokevirtual 70, 3) := by decide +kernel
theorem dX4_year_44 : decode cX4_year 44 = .ok (.iconst 0, 1) := by decide +kernel
theorem dX4_year_45 : decode cX4_year 45 = .ok (.istore 4, 2) := by decide +kernel
theorem dX4_year_47 : decode cX4_year 47 = .ok (.iload 4, 2) := by decide +kernel
theorem dX4_year_49 : decode cX4_year 49 = .ok (.iload_n 2, 1) := by decide +kernel
theorem dX4_year_50 : decode cX4_year 50 = .ok (.if_icmp .ge 52, 3) := by decide +kernel
theorem dX4_year_53 : decode cX4_year 53 = .ok (.ldc2_w 234, 3) := by decide +kernel
theorem dX4_year_56 : decode cX4_year 56 = .ok (.iload_n 1, 1) := by decide +kernel
theorem dX4_year_57 : decode cX4_year 57 = .ok (.i2l, 1) := by decide +kernel
theorem dX4_year_58 : decode cX4_year 58 = .ok (.lmul, 1) := by decide +kernel
theorem dX4_year_59 : decode cX4_year 59 = .ok (.ldc2_w 236, 3) := by decide +kernel
theorem dX4_year_62 : decode cX4_year 62 = .ok (.iload 4, 2) := by decide +kernel
theorem dX4_year_64 : decode cX4_year 64 = .ok (.i2l, 1) := by decide +kernel
theorem dX4_year_65 : decode cX4_year 65 = .ok (.lmul, 1) := by decide +kernel
theorem dX4_year_66 : decode cX4_year 66 = .ok (.ladd, 1) := by decide +kernel
theorem dX4_year_67 : decode cX4_year 67 = .ok (.lconst 1, 1) := by decide +kernel
theorem dX4_year_68 : decode cX4_year 68 = .ok (.ladd, 1) := by decide +kernel
theorem dX4_year_69 : decode cX4_year 69 = .ok (.lstore 5, 2) := by decide +kernel
theorem dX4_year_71 : decode cX4_year 71 = .ok (.aload_n 0, 1) := by decide +kernel
theorem dX4_year_72 : decode cX4_year 72 = .ok (.sipush 1001, 3) := by decide +kernel
theorem dX4_year_75 : decode cX4_year 75 = .ok (.lload 5, 2) := by decide +kernel
theorem dX4_year_77 : decode cX4_year 77 = .ok (.lload 5, 2) := by decide +kernel
theorem dX4_year_79 : decode cX4_year 79 = .ok (.lmul, 1) := by decide +kernel
theorem dX4_year_80 : decode cX4_year 80 = .ok (.ldc2_w 238, 3) := by decide +kernel
theorem dX4_year_83 : decode cX4_year 83 = .ok (.lrem, 1) := by decide +kernel
theorem dX4_year_84 : decode cX4_year 84 = .ok (.l2i, 1) := by decide +kernel
theorem dX4_year_85 : decode cX4_year 85 = .ok (.invokevirtual 240, 3) := by decide +kernel
theorem dX4_year_88 : decode cX4_year 88 = .ok (.aload_n 0, 1) := by decide +kernel
theorem dX4_year_89 : decode cX4_year 89 = .ok (.sipush 1001, 3) := by decide +kernel
theorem dX4_year_92 : decode cX4_year 92 = .ok (.iconst 0, 1) := by decide +kernel
theorem dX4_year_93 : decode cX4_year 93 = .ok (.invokevirtual 185, 3) := by decide +kernel
theorem dX4_year_96 : decode cX4_year 96 = .ok (.iinc 4 1, 3) := by decide +kernel
theorem dX4_year_99 : decode cX4_year 99 = .ok (.goto (-52), 3) := by decide +kernel
theorem dX4_year_102 : decode cX4_year 102 = .ok (.iload_n 3, 1) := by decide +kernel
theorem dX4_year_103 : decode cX4_year 103 = .ok (.ifCond .ne 13, 3) := by decide +kernel
theorem dX4_year_106 : decode cX4_year 106 = .ok (.aload_n 0, 1) := by decide +kernel
theorem dX4_year_107 : decode cX4_year 107 = .ok (.sipush 1001, 3) := by decide +kernel
theorem dX4_year_110 : decode cX4_year 110 = .ok (.invokevirtual 193, 3) := by decide +kernel
theorem dX4_year_113 : decode cX4_year 113 = .ok (.goto 10, 3) := by decide +kernel
theorem dX4_year_116 : decode cX4_year 116 = .ok (.aload_n 0, 1) := by decide +kernel
theorem dX4_year_117 : decode cX4_year 117 = .ok (.sipush 1001, 3) := by decide +kernel
theorem dX4_year_120 : decode cX4_year 120 = .ok (.invokevirtual 214, 3) := by decide +kernel
theorem dX4_year_123 : decode cX4_year 123 = .ok (.ireturn, 1) := by decide +kernel
theorem dX4_keep_0 : decode cX4_keep 0 = .ok (.aload_n 0, 1) := by decide +kernel
theorem dX4_keep_1 : decode cX4_keep 1 = .ok (.getfield 131, 3) := by decide +kernel
theorem dX4_keep_4 : decode cX4_keep 4 = .ok (.iconst 2, 1) := by decide +kernel
theorem dX4_keep_5 : decode cX4_keep 5 = .ok (.if_icmp .ne 6, 3) := by decide +kernel
theorem dX4_keep_8 : decode cX4_keep 8 = .ok (.bipush (-3), 2) := by decide +kernel
theorem dX4_keep_10 : decode cX4_keep 10 = .ok (.ireturn, 1) := by decide +kernel
theorem dX4_keep_11 : decode cX4_keep 11 = .ok (.aload_n 0, 1) := by decide +kernel
theorem dX4_keep_12 : decode cX4_keep 12 = .ok (.iconst 0, 1) := by decide +kernel
theorem dX4_keep_13 : decode cX4_keep 13 = .ok (.bipush 9, 2) := by decide +kernel
theorem dX4_keep_15 : decode cX4_keep 15 = .ok (.aload_n 0, 1) := by decide +kernel
theorem dX4_keep_16 : decode cX4_keep 16 = .ok (.getfield 131, 3) := by decide +kernel
theorem dX4_keep_19 : decode cX4_keep 19 = .ok (.iadd, 1) := by decide +kernel
theorem dX4_keep_20 : decode cX4_keep 20 = .ok (.bipush 91, 2) := by decide +kernel
theorem dX4_keep_22 : decode cX4_keep 22 = .ok (.imul, 1) := by decide +kernel
theorem dX4_keep_23 : decode cX4_keep 23 = .ok (.invokevirtual 70, 3) := by decide +kernel
theorem dX4_keep_26 : decode cX4_keep 26 = .ok (.aload_n 0, 1) := by decide +kernel
theorem dX4_keep_27 : decode cX4_keep 27 = .ok (.dup, 1) := by decide +kernel
theorem dX4_keep_28 : decode cX4_keep 28 = .ok (.getfield 131, 3) := by decide +kernel
theorem dX4_keep_31 : decode cX4_keep 31 = .ok (.iconst 1, 1) := by decide +kernel
theorem dX4_keep_32 : decode cX4_keep 32 = .ok (.iadd, 1) := by decide +kernel
theorem dX4_keep_33 : decode cX4_keep 33 = .ok (.putfield 131, 3) := by decide +kernel
theorem dX4_keep_36 : decode cX4_keep 36 = .ok (.aload_n 0, 1) := by decide +kernel
theorem dX4_keep_37 : decode cX4_keep 37 = .ok (.getfield 131, 3) := by decide +kernel
theorem dX4_keep_40 : decode cX4_keep 40 = .ok (.ireturn, 1) := by decide +kernel
theorem dX4_back_0 : decode cX4_back 0 = .ok (.aload_n 0, 1) := by decide +kernel
theorem dX4_back_1 : decode cX4_back 1 = .ok (.getfield 131, 3) := by decide +kernel
theorem dX4_back_4 : decode cX4_back 4 = .ok (.ifCond .ne 6, 3) := by decide +kernel
theorem dX4_back_7 : decode cX4_back 7 = .ok (.bipush (-2), 2) := by decide +kernel
theorem dX4_back_9 : decode cX4_back 9 = .ok (.ireturn, 1) := by decide +kernel
theorem dX4_back_10 : decode cX4_back 10 = .ok (.aload_n 0, 1) := by decide +kernel
theorem dX4_back_11 : decode cX4_back 11 = .ok (.dup, 1) := by decide +kernel
theorem dX4_back_12 : decode cX4_back 12 = .ok (.getfield 131, 3) := by decide +kernel
theorem dX4_back_15 : decode cX4_back 15 = .ok (.iconst 1, 1) := by decide +kernel
theorem dX4_back_16 : decode cX4_back 16 = .ok (.isub, 1) := by decide +kernel
theorem dX4_back_17 : decode cX4_back 17 = .ok (.putfield 131, 3) := by decide +kernel
theorem dX4_back_20 : decode cX4_back 20 = .ok (.aload_n 0, 1) := by decide +kernel
theorem dX4_back_21 : decode cX4_back 21 = .ok (.bipush 9, 2) := by decide +kernel
theorem dX4_back_23 : decode cX4_back 23 = .ok (.aload_n 0, 1) := by decide +kernel
theorem dX4_back_24 : decode cX4_back 24 = .ok (.getfield 131, 3) := by decide +kernel
theorem dX4_back_27 : decode cX4_back 27 = .ok (.iadd, 1) := by decide +kernel
theorem dX4_back_28 : decode cX4_back 28 = .ok (.bipush 91, 2) := by decide +kernel
theorem dX4_back_30 : decode cX4_back 30 = .ok (.imul, 1) := by decide +kernel
theorem dX4_back_31 : decode cX4_back 31 = .ok (.iconst 0, 1) := by decide +kernel
theorem dX4_back_32 : decode cX4_back 32 = .ok (.invokevirtual 70, 3) := by decide +kernel
theorem dX4_back_35 : decode cX4_back 35 = .ok (.aload_n 0, 1) := by decide +kernel
theorem dX4_back_36 : decode cX4_back 36 = .ok (.iconst 0, 1) := by decide +kernel
theorem dX4_back_37 : decode cX4_back 37 = .ok (.putfield 128, 3) := by decide +kernel
theorem dX4_back_40 : decode cX4_back 40 = .ok (.aload_n 0, 1) := by decide +kernel
theorem dX4_back_41 : decode cX4_back 41 = .ok (.getfield 131, 3) := by decide +kernel
theorem dX4_back_44 : decode cX4_back 44 = .ok (.ireturn, 1) := by decide +kernel
theorem dX4_allHad_0 : decode cX4_allHad 0 = .ok (.iconst 0, 1) := by decide +kernel
theorem dX4_allHad_1 : decode cX4_allHad 1 = .ok (.istore_n 1, 1) := by decide +kernel
theorem dX4_allHad_2 : decode cX4_allHad 2 = .ok (.iconst 0, 1) := by decide +kernel
theorem dX4_allHad_3 : decode cX4_allHad 3 = .ok (.istore_n 2, 1) := by decide +kernel
theorem dX4_allHad_4 : decode cX4_allHad 4 = .ok (.iload_n 2, 1) := by decide +kernel
theorem dX4_allHad_5 : decode cX4_allHad 5 = .ok (.aload_n 0, 1) := by decide +kernel
theorem dX4_allHad_6 : decode cX4_allHad 6 = .ok (.getfield 64, 3) := by decide +kernel
theorem dX4_allHad_9 : decode cX4_allHad 9 = .ok (.if_icmp .ge 21, 3) := by decide +kernel
theorem dX4_allHad_12 : decode cX4_allHad 12 = .ok (.iload_n 1, 1) := by decide +kernel
theorem dX4_allHad_13 : decode cX4_allHad 13 = .ok (.aload_n 0, 1) := by decide +kernel
theorem dX4_allHad_14 : decode cX4_allHad 14 = .ok (.iconst 0, 1) := by decide +kernel
theorem dX4_allHad_15 : decode cX4_allHad 15 = .ok (.iload_n 2, 1) := by decide +kernel
theorem dX4_allHad_16 : decode cX4_allHad 16 = .ok (.invokevirtual 157, 3) := by decide +kernel
theorem dX4_allHad_19 : decode cX4_allHad 19 = .ok (.invokestatic 148, 3) := by decide +kernel
theorem dX4_allHad_22 : decode cX4_allHad 22 = .ok (.iadd, 1) := by decide +kernel
theorem dX4_allHad_23 : decode cX4_allHad 23 = .ok (.istore_n 1, 1) := by decide +kernel
theorem dX4_allHad_24 : decode cX4_allHad 24 = .ok (.iinc 2 1, 3) := by decide +kernel
theorem dX4_allHad_27 : decode cX4_allHad 27 = .ok (.goto (-23), 3) := by decide +kernel
theorem dX4_allHad_30 : decode cX4_allHad 30 = .ok (.iload_n 1, 1) := by decide +kernel
theorem dX4_allHad_31 : decode cX4_allHad 31 = .ok (.ireturn, 1) := by decide +kernel
theorem dX4_count_0 : decode cX4_count 0 = .ok (.iload_n 1, 1) := by decide +kernel
theorem dX4_count_1 : decode cX4_count 1 = .ok (.ifCond .ne 10, 3) := by decide +kernel
theorem dX4_count_4 : decode cX4_count 4 = .ok (.aload_n 0, 1) := by decide +kernel
theorem dX4_count_5 : decode cX4_count 5 = .ok (.getfield 61, 3) := by decide +kernel
theorem dX4_count_8 : decode cX4_count 8 = .ok (.goto 134, 3) := by decide +kernel
theorem dX4_count_11 : decode cX4_count 11 = .ok (.iload_n 1, 1) := by decide +kernel
theorem dX4_count_12 : decode cX4_count 12 = .ok (.iconst 1, 1) := by decide +kernel
theorem dX4_count_13 : decode cX4_count 13 = .ok (.if_icmp .ne 10, 3) := by decide +kernel
theorem dX4_count_16 : decode cX4_count 16 = .ok (.aload_n 0, 1) := by decide +kernel
theorem dX4_count_17 : decode cX4_count 17 = .ok (.getfield 64, 3) := by decide +kernel
theorem dX4_count_20 : decode cX4_count 20 = .ok (.goto 122, 3) := by decide +kernel
theorem dX4_count_23 : decode cX4_count 23 = .ok (.iload_n 1, 1) := by decide +kernel
theorem dX4_count_24 : decode cX4_count 24 = .ok (.iconst 2, 1) := by decide +kernel
theorem dX4_count_25 : decode cX4_count 25 = .ok (.if_icmp .ne 10, 3) := by decide +kernel
theorem dX4_count_28 : decode cX4_count 28 = .ok (.aload_n 0, 1) := by decide +kernel
theorem dX4_count_29 : decode cX4_count 29 = .ok (.getfield 67, 3) := by decide +kernel
theorem dX4_count_32 : decode cX4_count 32 = .ok (.goto 110, 3) := by decide +kernel
theorem dX4_count_35 : decode cX4_count 35 = .ok (.iload_n 1, 1) := by decide +kernel
theorem dX4_count_36 : decode cX4_count 36 = .ok (.iconst 3, 1) := by decide +kernel
theorem dX4_count_37 : decode cX4_count 37 = .ok (.if_icmp .ne 13, 3) := by decide +kernel
theorem dX4_count_40 : decode cX4_count 40 = .ok (.aload_n 0, 1) := by decide +kernel
theorem dX4_count_41 : decode cX4_count 41 = .ok (.getfield 16, 3) := by decide +kernel
theorem dX4_count_44 : decode cX4_count 44 = .ok (.bipush 90, 2) := by decide +kernel
theorem dX4_count_46 : decode cX4_count 46 = .ok (.iaload, 1) := by decide +kernel
theorem dX4_count_47 : decode cX4_count 47 = .ok (.goto 95, 3) := by decide +kernel
theorem dX4_count_50 : decode cX4_count 50 = .ok (.iload_n 1, 1) := by decide +kernel
theorem dX4_count_51 : decode cX4_count 51 = .ok (.iconst 4, 1) := by decide +kernel
theorem dX4_count_52 : decode cX4_count 52 = .ok (.if_icmp .ne 11, 3) := by decide +kernel
theorem dX4_count_55 : decode cX4_count 55 = .ok (.aload_n 0, 1) := by decide +kernel
theorem dX4_count_56 : decode cX4_count 56 = .ok (.iconst 0, 1) := by decide +kernel
theorem dX4_count_57 : decode cX4_count 57 = .ok (.invokevirtual 193, 3) := by decide +kernel
theorem dX4_count_60 : decode cX4_count 60 = .ok (.goto 82, 3) := by decide +kernel
theorem dX4_count_63 : decode cX4_count 63 = .ok (.iload_n 1, 1) := by decide +kernel
theorem dX4_count_64 : decode cX4_count 64 = .ok (.iconst 5, 1) := by decide +kernel
theorem dX4_count_65 : decode cX4_count 65 = .ok (.if_icmp .ne 11, 3) := by decide +kernel
theorem dX4_count_68 : decode cX4_count 68 = .ok (.aload_n 0, 1) := by decide +kernel
theorem dX4_count_69 : decode cX4_count 69 = .ok (.iconst 0, 1) := by decide +kernel
theorem dX4_count_70 : decode cX4_count 70 = .ok (.invokevirtual 214, 3) := by decide +kernel
theorem dX4_count_73 : decode cX4_count 73 = .ok (.goto 69, 3) := by decide +kernel
theorem dX4_count_76 : decode cX4_count 76 = .ok (.iload_n 1, 1) := by decide +kernel
theorem dX4_count_77 : decode cX4_count 77 = .ok (.bipush 6, 2) := by decide +kernel
theorem dX4_count_79 : decode cX4_count 79 = .ok (.if_icmp .ne 10, 3) := by decide +kernel
theorem dX4_count_82 : decode cX4_count 82 = .ok (.aload_n 0, 1) := by decide +kernel
theorem dX4_count_83 : decode cX4_count 83 = .ok (.invokevirtual 243, 3) := by decide +kernel
theorem dX4_count_86 : decode cX4_count 86 = .ok (.goto 56, 3) := by decide +kernel
theorem dX4_count_89 : decode cX4_count 89 = .ok (.iload_n 1, 1) := by decide +kernel
theorem dX4_count_90 : decode cX4_count 90 = .ok (.bipush 7, 2) := by decide +kernel
theorem dX4_count_92 : decode cX4_count 92 = .ok (.if_icmp .ne 10, 3) := by decide +kernel
theorem dX4_count_95 : decode cX4_count 95 = .ok (.aload_n 0, 1) := by decide +kernel
theorem dX4_count_96 : decode cX4_count 96 = .ok (.getfield 134, 3) := by decide +kernel
theorem dX4_count_99 : decode cX4_count 99 = .ok (.goto 43, 3) := by decide +kernel
theorem dX4_count_102 : decode cX4_count 102 = .ok (.iload_n 1, 1) := by decide +kernel
theorem dX4_count_103 : decode cX4_count 103 = .ok (.bipush 8, 2) := by decide +kernel
theorem dX4_count_105 : decode cX4_count 105 = .ok (.if_icmp .ne 10, 3) := by decide +kernel
theorem dX4_count_108 : decode cX4_count 108 = .ok (.aload_n 0, 1) := by decide +kernel
theorem dX4_count_109 : decode cX4_count 109 = .ok (.getfield 128, 3) := by decide +kernel
theorem dX4_count_112 : decode cX4_count 112 = .ok (.goto 30, 3) := by decide +kernel
theorem dX4_count_115 : decode cX4_count 115 = .ok (.iload_n 1, 1) := by decide +kernel
theorem dX4_count_116 : decode cX4_count 116 = .ok (.bipush 9, 2) := by decide +kernel
theorem dX4_count_118 : decode cX4_count 118 = .ok (.if_icmp .ne 10, 3) := by decide +kernel
theorem dX4_count_121 : decode cX4_count 121 = .ok (.aload_n 0, 1) := by decide +kernel
theorem dX4_count_122 : decode cX4_count 122 = .ok (.getfield 131, 3) := by decide +kernel
theorem dX4_count_125 : decode cX4_count 125 = .ok (.goto 17, 3) := by decide +kernel
theorem dX4_count_128 : decode cX4_count 128 = .ok (.iload_n 1, 1) := by decide +kernel
theorem dX4_count_129 : decode cX4_count 129 = .ok (.bipush 10, 2) := by decide +kernel
theorem dX4_count_131 : decode cX4_count 131 = .ok (.if_icmp .ne 10, 3) := by decide +kernel
theorem dX4_count_134 : decode cX4_count 134 = .ok (.aload_n 0, 1) := by decide +kernel
theorem dX4_count_135 : decode cX4_count 135 = .ok (.getfield 81, 3) := by decide +kernel
theorem dX4_count_138 : decode cX4_count 138 = .ok (.goto 4, 3) := by decide +kernel
theorem dX4_count_141 : decode cX4_count 141 = .ok (.iconst (-1), 1) := by decide +kernel
theorem dX4_count_142 : decode cX4_count 142 = .ok (.ireturn, 1) := by decide +kernel
theorem dJ6_bitCount_0f7a4_0 : decode cJ6_bitCount_0f7a4 0 = .ok (.iload_n 0, 1) := by decide +kernel
theorem dJ6_bitCount_0f7a4_1 : decode cJ6_bitCount_0f7a4 1 = .ok (.iload_n 0, 1) := by decide +kernel
theorem dJ6_bitCount_0f7a4_2 : decode cJ6_bitCount_0f7a4 2 = .ok (.iconst 1, 1) := by decide +kernel
theorem dJ6_bitCount_0f7a4_3 : decode cJ6_bitCount_0f7a4 3 = .ok (.iushr, 1) := by decide +kernel
theorem dJ6_bitCount_0f7a4_4 : decode cJ6_bitCount_0f7a4 4 = .ok (.ldc_w 265, 3) := by decide +kernel
theorem dJ6_bitCount_0f7a4_7 : decode cJ6_bitCount_0f7a4 7 = .ok (.iand, 1) := by decide +kernel
theorem dJ6_bitCount_0f7a4_8 : decode cJ6_bitCount_0f7a4 8 = .ok (.isub, 1) := by decide +kernel
theorem dJ6_bitCount_0f7a4_9 : decode cJ6_bitCount_0f7a4 9 = .ok (.istore_n 0, 1) := by decide +kernel
theorem dJ6_bitCount_0f7a4_10 : decode cJ6_bitCount_0f7a4 10 = .ok (.iload_n 0, 1) := by decide +kernel
theorem dJ6_bitCount_0f7a4_11 : decode cJ6_bitCount_0f7a4 11 = .ok (.ldc_w 266, 3) := by decide +kernel
theorem dJ6_bitCount_0f7a4_14 : decode cJ6_bitCount_0f7a4 14 = .ok (.iand, 1) := by decide +kernel
theorem dJ6_bitCount_0f7a4_15 : decode cJ6_bitCount_0f7a4 15 = .ok (.iload_n 0, 1) := by decide +kernel
theorem dJ6_bitCount_0f7a4_16 : decode cJ6_bitCount_0f7a4 16 = .ok (.iconst 2, 1) := by decide +kernel
theorem dJ6_bitCount_0f7a4_17 : decode cJ6_bitCount_0f7a4 17 = .ok (.iushr, 1) := by decide +kernel
theorem dJ6_bitCount_0f7a4_18 : decode cJ6_bitCount_0f7a4 18 = .ok (.ldc_w 266, 3) := by decide +kernel
theorem dJ6_bitCount_0f7a4_21 : decode cJ6_bitCount_0f7a4 21 = .ok (.iand, 1) := by decide +kernel
theorem dJ6_bitCount_0f7a4_22 : decode cJ6_bitCount_0f7a4 22 = .ok (.iadd, 1) := by decide +kernel
theorem dJ6_bitCount_0f7a4_23 : decode cJ6_bitCount_0f7a4 23 = .ok (.istore_n 0, 1) := by decide +kernel
theorem dJ6_bitCount_0f7a4_24 : decode cJ6_bitCount_0f7a4 24 = .ok (.iload_n 0, 1) := by decide +kernel
theorem dJ6_bitCount_0f7a4_25 : decode cJ6_bitCount_0f7a4 25 = .ok (.iload_n 0, 1) := by decide +kernel
theorem dJ6_bitCount_0f7a4_26 : decode cJ6_bitCount_0f7a4 26 = .ok (.iconst 4, 1) := by decide +kernel
theorem dJ6_bitCount_0f7a4_27 : decode cJ6_bitCount_0f7a4 27 = .ok (.iushr, 1) := by decide +kernel
theorem dJ6_bitCount_0f7a4_28 : decode cJ6_bitCount_0f7a4 28 = .ok (.iadd, 1) := by decide +kernel
theorem dJ6_bitCount_0f7a4_29 : decode cJ6_bitCount_0f7a4 29 = .ok (.ldc_w 267, 3) := by decide +kernel
theorem dJ6_bitCount_0f7a4_32 : decode cJ6_bitCount_0f7a4 32 = .ok (.iand, 1) := by decide +kernel
theorem dJ6_bitCount_0f7a4_33 : decode cJ6_bitCount_0f7a4 33 = .ok (.istore_n 0, 1) := by decide +kernel
theorem dJ6_bitCount_0f7a4_34 : decode cJ6_bitCount_0f7a4 34 = .ok (.iload_n 0, 1) := by decide +kernel
theorem dJ6_bitCount_0f7a4_35 : decode cJ6_bitCount_0f7a4 35 = .ok (.iload_n 0, 1) := by decide +kernel
theorem dJ6_bitCount_0f7a4_36 : decode cJ6_bitCount_0f7a4 36 = .ok (.bipush 8, 2) := by decide +kernel
theorem dJ6_bitCount_0f7a4_38 : decode cJ6_bitCount_0f7a4 38 = .ok (.iushr, 1) := by decide +kernel
theorem dJ6_bitCount_0f7a4_39 : decode cJ6_bitCount_0f7a4 39 = .ok (.iadd, 1) := by decide +kernel
theorem dJ6_bitCount_0f7a4_40 : decode cJ6_bitCount_0f7a4 40 = .ok (.istore_n 0, 1) := by decide +kernel
theorem dJ6_bitCount_0f7a4_41 : decode cJ6_bitCount_0f7a4 41 = .ok (.iload_n 0, 1) := by decide +kernel
theorem dJ6_bitCount_0f7a4_42 : decode cJ6_bitCount_0f7a4 42 = .ok (.iload_n 0, 1) := by decide +kernel
theorem dJ6_bitCount_0f7a4_43 : decode cJ6_bitCount_0f7a4 43 = .ok (.bipush 16, 2) := by decide +kernel
theorem dJ6_bitCount_0f7a4_45 : decode cJ6_bitCount_0f7a4 45 = .ok (.iushr, 1) := by decide +kernel
theorem dJ6_bitCount_0f7a4_46 : decode cJ6_bitCount_0f7a4 46 = .ok (.iadd, 1) := by decide +kernel
theorem dJ6_bitCount_0f7a4_47 : decode cJ6_bitCount_0f7a4 47 = .ok (.istore_n 0, 1) := by decide +kernel
theorem dJ6_bitCount_0f7a4_48 : decode cJ6_bitCount_0f7a4 48 = .ok (.iload_n 0, 1) := by decide +kernel
theorem dJ6_bitCount_0f7a4_49 : decode cJ6_bitCount_0f7a4 49 = .ok (.bipush 63, 2) := by decide +kernel
theorem dJ6_bitCount_0f7a4_51 : decode cJ6_bitCount_0f7a4 51 = .ok (.iand, 1) := by decide +kernel
theorem dJ6_bitCount_0f7a4_52 : decode cJ6_bitCount_0f7a4 52 = .ok (.ireturn, 1) := by decide +kernel
theorem dJ9_max_7cf53_0 : decode cJ9_max_7cf53 0 = .ok (.iload_n 0, 1) := by decide +kernel
theorem dJ9_max_7cf53_1 : decode cJ9_max_7cf53 1 = .ok (.iload_n 1, 1) := by decide +kernel
theorem dJ9_max_7cf53_2 : decode cJ9_max_7cf53 2 = .ok (.if_icmp .lt 7, 3) := by decide +kernel
theorem dJ9_max_7cf53_5 : decode cJ9_max_7cf53 5 = .ok (.iload_n 0, 1) := by decide +kernel
theorem dJ9_max_7cf53_6 : decode cJ9_max_7cf53 6 = .ok (.goto 4, 3) := by decide +kernel
theorem dJ9_max_7cf53_9 : decode cJ9_max_7cf53 9 = .ok (.iload_n 1, 1) := by decide +kernel
theorem dJ9_max_7cf53_10 : decode cJ9_max_7cf53 10 = .ok (.ireturn, 1) := by decide +kernel
theorem dJ9_min_7cf53_0 : decode cJ9_min_7cf53 0 = .ok (.iload_n 0, 1) := by decide +kernel
theorem dJ9_min_7cf53_1 : decode cJ9_min_7cf53 1 = .ok (.iload_n 1, 1) := by decide +kernel
theorem dJ9_min_7cf53_2 : decode cJ9_min_7cf53 2 = .ok (.if_icmp .gt 7, 3) := by decide +kernel
theorem dJ9_min_7cf53_5 : decode cJ9_min_7cf53 5 = .ok (.iload_n 0, 1) := by decide +kernel
theorem dJ9_min_7cf53_6 : decode cJ9_min_7cf53 6 = .ok (.goto 4, 3) := by decide +kernel
theorem dJ9_min_7cf53_9 : decode cJ9_min_7cf53 9 = .ok (.iload_n 1, 1) := by decide +kernel
theorem dJ9_min_7cf53_10 : decode cJ9_min_7cf53 10 = .ok (.ireturn, 1) := by decide +kernel
theorem dJ0_length_8abf5_0 : decode cJ0_length_8abf5 0 = .ok (.aload_n 0, 1) := by decide +kernel
theorem dJ0_length_8abf5_1 : decode cJ0_length_8abf5 1 = .ok (.getfield 9, 3) := by decide +kernel
theorem dJ0_length_8abf5_4 : decode cJ0_length_8abf5 4 = .ok (.arraylength, 1) := by decide +kernel
theorem dJ0_length_8abf5_5 : decode cJ0_length_8abf5 5 = .ok (.aload_n 0, 1) := by decide +kernel
theorem dJ0_length_8abf5_6 : decode cJ0_length_8abf5 6 = .ok (.invokevirtual 335, 3) := by decide +kernel
theorem dJ0_length_8abf5_9 : decode cJ0_length_8abf5 9 = .ok (.ishr, 1) := by decide +kernel
theorem dJ0_length_8abf5_10 : decode cJ0_length_8abf5 10 = .ok (.ireturn, 1) := by decide +kernel
theorem dJ0_charAt_5068e_0 : decode cJ0_charAt_5068e 0 = .ok (.aload_n 0, 1) := by decide +kernel
theorem dJ0_charAt_5068e_1 : decode cJ0_charAt_5068e 1 = .ok (.invokevirtual 492, 3) := by decide +kernel
theorem dJ0_charAt_5068e_4 : decode cJ0_charAt_5068e 4 = .ok (.ifCond .eq 12, 3) := by decide +kernel
theorem dJ0_charAt_5068e_7 : decode cJ0_charAt_5068e 7 = .ok (.aload_n 0, 1) := by decide +kernel
theorem dJ0_charAt_5068e_8 : decode cJ0_charAt_5068e 8 = .ok (.getfield 9, 3) := by decide +kernel
theorem dJ0_charAt_5068e_11 : decode cJ0_charAt_5068e 11 = .ok (.iload_n 1, 1) := by decide +kernel
theorem dJ0_charAt_5068e_12 : decode cJ0_charAt_5068e 12 = .ok (.invokestatic 495, 3) := by decide +kernel
theorem dJ0_charAt_5068e_15 : decode cJ0_charAt_5068e 15 = .ok (.ireturn, 1) := by decide +kernel
theorem dJ0_charAt_5068e_16 : decode cJ0_charAt_5068e 16 = .ok (.aload_n 0, 1) := by decide +kernel
theorem dJ0_charAt_5068e_17 : decode cJ0_charAt_5068e 17 = .ok (.getfield 9, 3) := by decide +kernel
theorem dJ0_charAt_5068e_20 : decode cJ0_charAt_5068e 20 = .ok (.iload_n 1, 1) := by decide +kernel
theorem dJ0_charAt_5068e_21 : decode cJ0_charAt_5068e 21 = .ok (.invokestatic 498, 3) := by decide +kernel
theorem dJ0_charAt_5068e_24 : decode cJ0_charAt_5068e 24 = .ok (.ireturn, 1) := by decide +kernel
theorem dJ0_coder_7d493_0 : decode cJ0_coder_7d493 0 = .ok (.getstatic 38, 3) := by decide +kernel
theorem dJ0_coder_7d493_3 : decode cJ0_coder_7d493 3 = .ok (.ifCond .eq 10, 3) := by decide +kernel
theorem dJ0_coder_7d493_6 : decode cJ0_coder_7d493 6 = .ok (.aload_n 0, 1) := by decide +kernel
theorem dJ0_coder_7d493_7 : decode cJ0_coder_7d493 7 = .ok (.getfield 15, 3) := by decide +kernel
theorem dJ0_coder_7d493_10 : decode cJ0_coder_7d493 10 = .ok (.goto 4, 3) := by decide +kernel
theorem dJ0_coder_7d493_13 : decode cJ0_coder_7d493 13 = .ok (.iconst 1, 1) := by decide +kernel
theorem dJ0_coder_7d493_14 : decode cJ0_coder_7d493 14 = .ok (.ireturn, 1) := by decide +kernel
theorem dJ0_isLatin1_aae02_0 : decode cJ0_isLatin1_aae02 0 = .ok (.getstatic 38, 3) := by decide +kernel
theorem dJ0_isLatin1_aae02_3 : decode cJ0_isLatin1_aae02 3 = .ok (.ifCond .eq 14, 3) := by decide +kernel
theorem dJ0_isLatin1_aae02_6 : decode cJ0_isLatin1_aae02 6 = .ok (.aload_n 0, 1) := by decide +kernel
theorem dJ0_isLatin1_aae02_7 : decode cJ0_isLatin1_aae02 7 = .ok (.getfield 15, 3) := by decide +kernel
theorem dJ0_isLatin1_aae02_10 : decode cJ0_isLatin1_aae02 10 = .ok (.ifCond .ne 7, 3) := by decide +kernel
theorem dJ0_isLatin1_aae02_13 : decode cJ0_isLatin1_aae02 13 = .ok (.iconst 1, 1) := by decide +kernel
theorem dJ0_isLatin1_aae02_14 : decode cJ0_isLatin1_aae02 14 = .ok (.goto 4, 3) := by decide +kernel
theorem dJ0_isLatin1_aae02_17 : decode cJ0_isLatin1_aae02 17 = .ok (.iconst 0, 1) := by decide +kernel
theorem dJ0_isLatin1_aae02_18 : decode cJ0_isLatin1_aae02 18 = .ok (.ireturn, 1) := by decide +kernel
theorem dJ0_checkIndex_df160_0 : decode cJ0_checkIndex_df160 0 = .ok (.iload_n 0, 1) := by decide +kernel
theorem dJ0_checkIndex_df160_1 : decode cJ0_checkIndex_df160 1 = .ok (.iload_n 1, 1) := by decide +kernel
theorem dJ0_checkIndex_df160_2 : decode cJ0_checkIndex_df160 2 = .ok (.getstatic 1053, 3) := by decide +kernel
theorem dJ0_checkIndex_df160_5 : decode cJ0_checkIndex_df160 5 = .ok (.invokestatic 1059, 3) := by decide +kernel
theorem dJ0_checkIndex_df160_8 : decode cJ0_checkIndex_df160 8 = .ok (.pop, 1) := by decide +kernel
theorem dJ0_checkIndex_df160_9 : decode cJ0_checkIndex_df160 9 = .ok (.return_, 1) := by decide +kernel
theorem dJ1_charAt_3b067_0 : decode cJ1_charAt_3b067 0 = .ok (.iload_n 1, 1) := by decide +kernel
theorem dJ1_charAt_3b067_1 : decode cJ1_charAt_3b067 1 = .ok (.aload_n 0, 1) := by decide +kernel
theorem dJ1_charAt_3b067_2 : decode cJ1_charAt_3b067 2 = .ok (.arraylength, 1) := by decide +kernel
theorem dJ1_charAt_3b067_3 : decode cJ1_charAt_3b067 3 = .ok (.invokestatic 9, 3) := by decide +kernel
theorem dJ1_charAt_3b067_6 : decode cJ1_charAt_3b067 6 = .ok (.aload_n 0, 1) := by decide +kernel
theorem dJ1_charAt_3b067_7 : decode cJ1_charAt_3b067 7 = .ok (.iload_n 1, 1) := by decide +kernel
theorem dJ1_charAt_3b067_8 : decode cJ1_charAt_3b067 8 = .ok (.baload, 1) := by decide +kernel
theorem dJ1_charAt_3b067_9 : decode cJ1_charAt_3b067 9 = .ok (.sipush 255, 3) := by decide +kernel
theorem dJ1_charAt_3b067_12 : decode cJ1_charAt_3b067 12 = .ok (.iand, 1) := by decide +kernel
theorem dJ1_charAt_3b067_13 : decode cJ1_charAt_3b067 13 = .ok (.i2c, 1) := by decide +kernel
theorem dJ1_charAt_3b067_14 : decode cJ1_charAt_3b067 14 = .ok (.ireturn, 1) := by decide +kernel
theorem dJ2_getChar_3b067_0 : decode cJ2_getChar_3b067 0 = .ok (.getstatic 44, 3) := by decide +kernel
theorem dJ2_getChar_3b067_3 : decode cJ2_getChar_3b067 3 = .ok (.ifCond .ne 25, 3) := by decide +kernel
theorem dJ2_getChar_3b067_6 : decode cJ2_getChar_3b067 6 = .ok (.iload_n 1, 1) := by decide +kernel
theorem dJ2_getChar_3b067_7 : decode cJ2_getChar_3b067 7 = .ok (.ifCond .lt 11, 3) := by decide +kernel
theorem dJ2_getChar_3b067_10 : decode cJ2_getChar_3b067 10 = .ok (.iload_n 1, 1) := by decide +kernel
theorem dJ2_getChar_3b067_11 : decode cJ2_getChar_3b067 11 = .ok (.aload_n 0, 1) := by decide +kernel
theorem dJ2_getChar_3b067_12 : decode cJ2_getChar_3b067 12 = .ok (.invokestatic 48, 3) := by decide +kernel
theorem dJ2_getChar_3b067_15 : decode cJ2_getChar_3b067 15 = .ok (.if_icmp .lt 13, 3) := by decide +kernel
theorem dJ2_getChar_3b067_18 : decode cJ2_getChar_3b067 18 = .ok (.new 52, 3) := by decide +kernel
theorem dJ2_getChar_3b067_21 : decode cJ2_getChar_3b067 21 = .ok (.dup, 1) := by decide +kernel
theorem dJ2_getChar_3b067_22 : decode cJ2_getChar_3b067 22 = .ok (.ldc 54, 2) := by decide +kernel
theorem dJ2_getChar_3b067_24 : decode cJ2_getChar_3b067 24 = .ok (.invokespecial 56, 3) := by decide +kernel
theorem dJ2_getChar_3b067_27 : decode cJ2_getChar_3b067 27 = .ok (.athrow, 1) := by decide +kernel
theorem dJ2_getChar_3b067_28 : decode cJ2_getChar_3b067 28 = .ok (.iload_n 1, 1) := by decide +kernel
theorem dJ2_getChar_3b067_29 : decode cJ2_getChar_3b067 29 = .ok (.iconst 1, 1) := by decide +kernel
theorem dJ2_getChar_3b067_30 : decode cJ2_getChar_3b067 30 = .ok (.ishl, 1) := by decide +kernel
theorem dJ2_getChar_3b067_31 : decode cJ2_getChar_3b067 31 = .ok (.istore_n 1, 1) := by decide +kernel
theorem dJ2_getChar_3b067_32 : decode cJ2_getChar_3b067 32 = .ok (.aload_n 0, 1) := by decide +kernel
theorem dJ2_getChar_3b067_33 : decode cJ2_getChar_3b067 33 = .ok (.iload_n 1, 1) := by decide +kernel
theorem dJ2_getChar_3b067_34 : decode cJ2_getChar_3b067 34 = .ok (.iinc 1 1, 3) := by decide +kernel
theorem dJ2_getChar_3b067_37 : decode cJ2_getChar_3b067 37 = .ok (.baload, 1) := by decide +kernel
theorem dJ2_getChar_3b067_38 : decode cJ2_getChar_3b067 38 = .ok (.sipush 255, 3) := by decide +kernel
theorem dJ2_getChar_3b067_41 : decode cJ2_getChar_3b067 41 = .ok (.iand, 1) := by decide +kernel
theorem dJ2_getChar_3b067_42 : decode cJ2_getChar_3b067 42 = .ok (.getstatic 59, 3) := by decide +kernel
theorem dJ2_getChar_3b067_45 : decode cJ2_getChar_3b067 45 = .ok (.ishl, 1) := by decide +kernel
theorem dJ2_getChar_3b067_46 : decode cJ2_getChar_3b067 46 = .ok (.aload_n 0, 1) := by decide +kernel
theorem dJ2_getChar_3b067_47 : decode cJ2_getChar_3b067 47 = .ok (.iload_n 1, 1) := by decide +kernel
theorem dJ2_getChar_3b067_48 : decode cJ2_getChar_3b067 48 = .ok (.baload, 1) := by decide +kernel
theorem dJ2_getChar_3b067_49 : decode cJ2_getChar_3b067 49 = .ok (.sipush 255, 3) := by decide +kernel
theorem dJ2_getChar_3b067_52 : decode cJ2_getChar_3b067 52 = .ok (.iand, 1) := by decide +kernel
theorem dJ2_getChar_3b067_53 : decode cJ2_getChar_3b067 53 = .ok (.getstatic 63, 3) := by decide +kernel
theorem dJ2_getChar_3b067_56 : decode cJ2_getChar_3b067 56 = .ok (.ishl, 1) := by decide +kernel
theorem dJ2_getChar_3b067_57 : decode cJ2_getChar_3b067 57 = .ok (.ior, 1) := by decide +kernel
theorem dJ2_getChar_3b067_58 : decode cJ2_getChar_3b067 58 = .ok (.i2c, 1) := by decide +kernel
theorem dJ2_getChar_3b067_59 : decode cJ2_getChar_3b067 59 = .ok (.ireturn, 1) := by decide +kernel
theorem dJ2_length_9d52b_0 : decode cJ2_length_9d52b 0 = .ok (.aload_n 0, 1) := by decide +kernel
theorem dJ2_length_9d52b_1 : decode cJ2_length_9d52b 1 = .ok (.arraylength, 1) := by decide +kernel
theorem dJ2_length_9d52b_2 : decode cJ2_length_9d52b 2 = .ok (.iconst 1, 1) := by decide +kernel
theorem dJ2_length_9d52b_3 : decode cJ2_length_9d52b 3 = .ok (.ishr, 1) := by decide +kernel
theorem dJ2_length_9d52b_4 : decode cJ2_length_9d52b 4 = .ok (.ireturn, 1) := by decide +kernel
theorem dJ2_charAt_3b067_0 : decode cJ2_charAt_3b067 0 = .ok (.iload_n 1, 1) := by decide +kernel
theorem dJ2_charAt_3b067_1 : decode cJ2_charAt_3b067 1 = .ok (.aload_n 0, 1) := by decide +kernel
theorem dJ2_charAt_3b067_2 : decode cJ2_charAt_3b067 2 = .ok (.invokestatic 67, 3) := by decide +kernel
theorem dJ2_charAt_3b067_5 : decode cJ2_charAt_3b067 5 = .ok (.aload_n 0, 1) := by decide +kernel
theorem dJ2_charAt_3b067_6 : decode cJ2_charAt_3b067 6 = .ok (.iload_n 1, 1) := by decide +kernel
theorem dJ2_charAt_3b067_7 : decode cJ2_charAt_3b067 7 = .ok (.invokestatic 71, 3) := by decide +kernel
theorem dJ2_charAt_3b067_10 : decode cJ2_charAt_3b067 10 = .ok (.ireturn, 1) := by decide +kernel
theorem dJ2_checkIndex_2214a_0 : decode cJ2_checkIndex_2214a 0 = .ok (.iload_n 0, 1) := by decide +kernel
theorem dJ2_checkIndex_2214a_1 : decode cJ2_checkIndex_2214a 1 = .ok (.aload_n 1, 1) := by decide +kernel
theorem dJ2_checkIndex_2214a_2 : decode cJ2_checkIndex_2214a 2 = .ok (.invokestatic 48, 3) := by decide +kernel
theorem dJ2_checkIndex_2214a_5 : decode cJ2_checkIndex_2214a 5 = .ok (.invokestatic 414, 3) := by decide +kernel
theorem dJ2_checkIndex_2214a_8 : decode cJ2_checkIndex_2214a 8 = .ok (.return_, 1) := by decide +kernel
theorem dJ3_checkIndex_8e157_0 : decode cJ3_checkIndex_8e157 0 = .ok (.iload_n 0, 1) := by decide +kernel
theorem dJ3_checkIndex_8e157_1 : decode cJ3_checkIndex_8e157 1 = .ok (.ifCond .lt 8, 3) := by decide +kernel
theorem dJ3_checkIndex_8e157_4 : decode cJ3_checkIndex_8e157 4 = .ok (.iload_n 0, 1) := by decide +kernel
theorem dJ3_checkIndex_8e157_5 : decode cJ3_checkIndex_8e157 5 = .ok (.iload_n 1, 1) := by decide +kernel
theorem dJ3_checkIndex_8e157_6 : decode cJ3_checkIndex_8e157 6 = .ok (.if_icmp .lt 10, 3) := by decide +kernel
theorem dJ3_checkIndex_8e157_9 : decode cJ3_checkIndex_8e157 9 = .ok (.aload_n 2, 1) := by decide +kernel
theorem dJ3_checkIndex_8e157_10 : decode cJ3_checkIndex_8e157 10 = .ok (.iload_n 0, 1) := by decide +kernel
theorem dJ3_checkIndex_8e157_11 : decode cJ3_checkIndex_8e157 11 = .ok (.iload_n 1, 1) := by decide +kernel
theorem dJ3_checkIndex_8e157_12 : decode cJ3_checkIndex_8e157 12 = .ok (.invokestatic 95, 3) := by decide +kernel
theorem dJ3_checkIndex_8e157_15 : decode cJ3_checkIndex_8e157 15 = .ok (.athrow, 1) := by decide +kernel
theorem dJ3_checkIndex_8e157_16 : decode cJ3_checkIndex_8e157 16 = .ok (.iload_n 0, 1) := by decide +kernel
theorem dJ3_checkIndex_8e157_17 : decode cJ3_checkIndex_8e157 17 = .ok (.ireturn, 1) := by decide +kernel
theorem dL_law_0 : decode cL_law 0 = .ok (.new 7, 3) := by decide +kernel
theorem dL_law_3 : decode cL_law 3 = .ok (.dup, 1) := by decide +kernel
theorem dL_law_4 : decode cL_law 4 = .ok (.invokespecial 9, 3) := by decide +kernel
theorem dL_law_7 : decode cL_law 7 = .ok (.astore_n 1, 1) := by decide +kernel
theorem dL_law_8 : decode cL_law 8 = .ok (.new 10, 3) := by decide +kernel
theorem dL_law_11 : decode cL_law 11 = .ok (.dup, 1) := by decide +kernel
theorem dL_law_12 : decode cL_law 12 = .ok (.invokespecial 12, 3) := by decide +kernel
theorem dL_law_15 : decode cL_law 15 = .ok (.astore_n 2, 1) := by decide +kernel
theorem dL_law_16 : decode cL_law 16 = .ok (.iconst 0, 1) := by decide +kernel
theorem dL_law_17 : decode cL_law 17 = .ok (.istore_n 3, 1) := by decide +kernel
theorem dL_law_18 : decode cL_law 18 = .ok (.iload_n 3, 1) := by decide +kernel
theorem dL_law_19 : decode cL_law 19 = .ok (.aload_n 0, 1) := by decide +kernel
theorem dL_law_20 : decode cL_law 20 = .ok (.arraylength, 1) := by decide +kernel
theorem dL_law_21 : decode cL_law 21 = .ok (.iconst 5, 1) := by decide +kernel
theorem dL_law_22 : decode cL_law 22 = .ok (.isub, 1) := by decide +kernel
theorem dL_law_23 : decode cL_law 23 = .ok (.if_icmp .gt 867, 3) := by decide +kernel
theorem dL_law_26 : decode cL_law 26 = .ok (.aload_n 0, 1) := by decide +kernel
theorem dL_law_27 : decode cL_law 27 = .ok (.iload_n 3, 1) := by decide +kernel
theorem dL_law_28 : decode cL_law 28 = .ok (.iaload, 1) := by decide +kernel
theorem dL_law_29 : decode cL_law 29 = .ok (.bipush 31, 2) := by decide +kernel
theorem dL_law_31 : decode cL_law 31 = .ok (.iand, 1) := by decide +kernel
theorem dL_law_32 : decode cL_law 32 = .ok (.tableswitch 852 0 27 #[128, 151, 164, 177, 190, 213, 246, 289, 322, 345, 378, 411, 424, 467, 490, 533, 556, 579, 602, 615, 658, 671, 684, 707, 760, 803, 816, 829], 128) := by decide +kernel
theorem dL_law_160 : decode cL_law 160 = .ok (.aload_n 1, 1) := by decide +kernel
theorem dL_law_161 : decode cL_law 161 = .ok (.aload_n 0, 1) := by decide +kernel
theorem dL_law_162 : decode cL_law 162 = .ok (.iload_n 3, 1) := by decide +kernel
theorem dL_law_163 : decode cL_law 163 = .ok (.iconst 1, 1) := by decide +kernel
theorem dL_law_164 : decode cL_law 164 = .ok (.iadd, 1) := by decide +kernel
theorem dL_law_165 : decode cL_law 165 = .ok (.iaload, 1) := by decide +kernel
theorem dL_law_166 : decode cL_law 166 = .ok (.invokevirtual 13, 3) := by decide +kernel
theorem dL_law_169 : decode cL_law 169 = .ok (.aload_n 2, 1) := by decide +kernel
theorem dL_law_170 : decode cL_law 170 = .ok (.aload_n 0, 1) := by decide +kernel
theorem dL_law_171 : decode cL_law 171 = .ok (.iload_n 3, 1) := by decide +kernel
theorem dL_law_172 : decode cL_law 172 = .ok (.iconst 1, 1) := by decide +kernel
theorem dL_law_173 : decode cL_law 173 = .ok (.iadd, 1) := by decide +kernel
theorem dL_law_174 : decode cL_law 174 = .ok (.iaload, 1) := by decide +kernel
theorem dL_law_175 : decode cL_law 175 = .ok (.invokevirtual 17, 3) := by decide +kernel
theorem dL_law_178 : decode cL_law 178 = .ok (.if_icmp .eq 706, 3) := by decide +kernel
theorem dL_law_181 : decode cL_law 181 = .ok (.iconst 0, 1) := by decide +kernel
theorem dL_law_182 : decode cL_law 182 = .ok (.ireturn, 1) := by decide +kernel
theorem dL_law_183 : decode cL_law 183 = .ok (.aload_n 1, 1) := by decide +kernel
theorem dL_law_184 : decode cL_law 184 = .ok (.invokevirtual 18, 3) := by decide +kernel
theorem dL_law_187 : decode cL_law 187 = .ok (.aload_n 2, 1) := by decide +kernel
theorem dL_law_188 : decode cL_law 188 = .ok (.invokevirtual 22, 3) := by decide +kernel
theorem dL_law_191 : decode cL_law 191 = .ok (.if_icmp .eq 693, 3) := by decide +kernel
theorem dL_law_194 : decode cL_law 194 = .ok (.iconst 0, 1) := by decide +kernel
theorem dL_law_195 : decode cL_law 195 = .ok (.ireturn, 1) := by decide +kernel
theorem dL_law_196 : decode cL_law 196 = .ok (.aload_n 1, 1) := by decide +kernel
theorem dL_law_197 : decode cL_law 197 = .ok (.invokevirtual 23, 3) := by decide +kernel
theorem dL_law_200 : decode cL_law 200 = .ok (.aload_n 2, 1) := by decide +kernel
theorem dL_law_201 : decode cL_law 201 = .ok (.invokevirtual 26, 3) := by decide +kernel
theorem dL_law_204 : decode cL_law 204 = .ok (.if_icmp .eq 680, 3) := by decide +kernel
theorem dL_law_207 : decode cL_law 207 = .ok (.iconst 0, 1) := by decide +kernel
theorem dL_law_208 : decode cL_law 208 = .ok (.ireturn, 1) := by decide +kernel
theorem dL_law_209 : decode cL_law 209 = .ok (.aload_n 1, 1) := by decide +kernel
theorem dL_law_210 : decode cL_law 210 = .ok (.invokevirtual 27, 3) := by decide +kernel
theorem dL_law_213 : decode cL_law 213 = .ok (.aload_n 2, 1) := by decide +kernel
theorem dL_law_214 : decode cL_law 214 = .ok (.invokevirtual 30, 3) := by decide +kernel
theorem dL_law_217 : decode cL_law 217 = .ok (.if_icmp .eq 667, 3) := by decide +kernel
theorem dL_law_220 : decode cL_law 220 = .ok (.iconst 0, 1) := by decide +kernel
theorem dL_law_221 : decode cL_law 221 = .ok (.ireturn, 1) := by decide +kernel
theorem dL_law_222 : decode cL_law 222 = .ok (.aload_n 1, 1) := by decide +kernel
theorem dL_law_223 : decode cL_law 223 = .ok (.aload_n 0, 1) := by decide +kernel
theorem dL_law_224 : decode cL_law 224 = .ok (.iload_n 3, 1) := by decide +kernel
theorem dL_law_225 : decode cL_law 225 = .ok (.iconst 1, 1) := by decide +kernel
theorem dL_law_226 : decode cL_law 226 = .ok (.iadd, 1) := by decide +kernel
theorem dL_law_227 : decode cL_law 227 = .ok (.iaload, 1) := by decide +kernel
theorem dL_law_228 : decode cL_law 228 = .ok (.invokevirtual 31, 3) := by decide +kernel
theorem dL_law_231 : decode cL_law 231 = .ok (.aload_n 2, 1) := by decide +kernel
theorem dL_law_232 : decode cL_law 232 = .ok (.aload_n 0, 1) := by decide +kernel
theorem dL_law_233 : decode cL_law 233 = .ok (.iload_n 3, 1) := by decide +kernel
theorem dL_law_234 : decode cL_law 234 = .ok (.iconst 1, 1) := by decide +kernel
theorem dL_law_235 : decode cL_law 235 = .ok (.iadd, 1) := by decide +kernel
theorem dL_law_236 : decode cL_law 236 = .ok (.iaload, 1) := by decide +kernel
theorem dL_law_237 : decode cL_law 237 = .ok (.invokevirtual 34, 3) := by decide +kernel
theorem dL_law_240 : decode cL_law 240 = .ok (.if_icmp .eq 644, 3) := by decide +kernel
theorem dL_law_243 : decode cL_law 243 = .ok (.iconst 0, 1) := by decide +kernel
theorem dL_law_244 : decode cL_law 244 = .ok (.ireturn, 1) := by decide +kernel
theorem dL_law_245 : decode cL_law 245 = .ok (.aload_n 1, 1) := by decide +kernel
theorem dL_law_246 : decode cL_law 246 = .ok (.aload_n 0, 1) := by decide +kernel
theorem dL_law_247 : decode cL_law 247 = .ok (.iload_n 3, 1) := by decide +kernel
theorem dL_law_248 : decode cL_law 248 = .ok (.iconst 1, 1) := by decide +kernel
theorem dL_law_249 : decode cL_law 249 = .ok (.iadd, 1) := by decide +kernel
theorem dL_law_250 : decode cL_law 250 = .ok (.iaload, 1) := by decide +kernel
theorem dL_law_251 : decode cL_law 251 = .ok (.aload_n 0, 1) := by decide +kernel
theorem dL_law_252 : decode cL_law 252 = .ok (.iload_n 3, 1) := by decide +kernel
theorem dL_law_253 : decode cL_law 253 = .ok (.iconst 2, 1) := by decide +kernel
theorem dL_law_254 : decode cL_law 254 = .ok (.iadd, 1) := by decide +kernel
theorem dL_law_255 : decode cL_law 255 = .ok (.iaload, 1) := by decide +kernel
theorem dL_law_256 : decode cL_law 256 = .ok (.invokevirtual 35, 3) := by decide +kernel
theorem dL_law_259 : decode cL_law 259 = .ok (.aload_n 2, 1) := by decide +kernel
theorem dL_law_260 : decode cL_law 260 = .ok (.aload_n 0, 1) := by decide +kernel
theorem dL_law_261 : decode cL_law 261 = .ok (.iload_n 3, 1) := by decide +kernel
theorem dL_law_262 : decode cL_law 262 = .ok (.iconst 1, 1) := by decide +kernel
theorem dL_law_263 : decode cL_law 263 = .ok (.iadd, 1) := by decide +kernel
theorem dL_law_264 : decode cL_law 264 = .ok (.iaload, 1) := by decide +kernel
theorem dL_law_265 : decode cL_law 265 = .ok (.aload_n 0, 1) := by decide +kernel
theorem dL_law_266 : decode cL_law 266 = .ok (.iload_n 3, 1) := by decide +kernel
theorem dL_law_267 : decode cL_law 267 = .ok (.iconst 2, 1) := by decide +kernel
theorem dL_law_268 : decode cL_law 268 = .ok (.iadd, 1) := by decide +kernel
theorem dL_law_269 : decode cL_law 269 = .ok (.iaload, 1) := by decide +kernel
theorem dL_law_270 : decode cL_law 270 = .ok (.invokevirtual 39, 3) := by decide +kernel
theorem dL_law_273 : decode cL_law 273 = .ok (.if_icmp .eq 611, 3) := by decide +kernel
theorem dL_law_276 : decode cL_law 276 = .ok (.iconst 0, 1) := by decide +kernel
theorem dL_law_277 : decode cL_law 277 = .ok (.ireturn, 1) := by decide +kernel
theorem dL_law_278 : decode cL_law 278 = .ok (.aload_n 1, 1) := by decide +kernel
theorem dL_law_279 : decode cL_law 279 = .ok (.aload_n 0, 1) := by decide +kernel
theorem dL_law_280 : decode cL_law 280 = .ok (.iload_n 3, 1) := by decide +kernel
theorem dL_law_281 : decode cL_law 281 = .ok (.iconst 1, 1) := by decide +kernel
theorem dL_law_282 : decode cL_law 282 = .ok (.iadd, 1) := by decide +kernel
theorem dL_law_283 : decode cL_law 283 = .ok (.iaload, 1) := by decide +kernel
theorem dL_law_284 : decode cL_law 284 = .ok (.aload_n 0, 1) := by decide +kernel
theorem dL_law_285 : decode cL_law 285 = .ok (.iload_n 3, 1) := by decide +kernel
theorem dL_law_286 : decode cL_law 286 = .ok (.iconst 2, 1) := by decide +kernel
theorem dL_law_287 : decode cL_law 287 = .ok (.iadd, 1) := by decide +kernel
theorem dL_law_288 : decode cL_law 288 = .ok (.iaload, 1) := by decide +kernel
theorem dL_law_289 : decode cL_law 289 = .ok (.aload_n 0, 1) := by decide +kernel
theorem dL_law_290 : decode cL_law 290 = .ok (.iload_n 3, 1) := by decide +kernel
theorem dL_law_291 : decode cL_law 291 = .ok (.iconst 3, 1) := by decide +kernel
theorem dL_law_292 : decode cL_law 292 = .ok (.iadd, 1) := by decide +kernel
theorem dL_law_293 : decode cL_law 293 = .ok (.iaload, 1) := by decide +kernel
theorem dL_law_294 : decode cL_law 294 = .ok (.invokevirtual 40, 3) := by decide +kernel
theorem dL_law_297 : decode cL_law 297 = .ok (.aload_n 2, 1) := by decide +kernel
theorem dL_law_298 : decode cL_law 298 = .ok (.aload_n 0, 1) := by decide +kernel
theorem dL_law_299 : decode cL_law 299 = .ok (.iload_n 3, 1) := by decide +kernel
theorem dL_law_300 : decode cL_law 300 = .ok (.iconst 1, 1) := by decide +kernel
theorem dL_law_301 : decode cL_law 301 = .ok (.iadd, 1) := by decide +kernel
theorem dL_law_302 : decode cL_law 302 = .ok (.iaload, 1) := by decide +kernel
theorem dL_law_303 : decode cL_law 303 = .ok (.aload_n 0, 1) := by decide +kernel
theorem dL_law_304 : decode cL_law 304 = .ok (.iload_n 3, 1) := by decide +kernel
theorem dL_law_305 : decode cL_law 305 = .ok (.iconst 2, 1) := by decide +kernel
theorem dL_law_306 : decode cL_law 306 = .ok (.iadd, 1) := by decide +kernel
theorem dL_law_307 : decode cL_law 307 = .ok (.iaload, 1) := by decide +kernel
theorem dL_law_308 : decode cL_law 308 = .ok (.aload_n 0, 1) := by decide +kernel
theorem dL_law_309 : decode cL_law 309 = .ok (.iload_n 3, 1) := by decide +kernel
theorem dL_law_310 : decode cL_law 310 = .ok (.iconst 3, 1) := by decide +kernel
theorem dL_law_311 : decode cL_law 311 = .ok (.iadd, 1) := by decide +kernel
theorem dL_law_312 : decode cL_law 312 = .ok (.iaload, 1) := by decide +kernel
theorem dL_law_313 : decode cL_law 313 = .ok (.invokevirtual 44, 3) := by decide +kernel
theorem dL_law_316 : decode cL_law 316 = .ok (.if_icmp .eq 568, 3) := by decide +kernel
theorem dL_law_319 : decode cL_law 319 = .ok (.iconst 0, 1) := by decide +kernel
theorem dL_law_320 : decode cL_law 320 = .ok (.ireturn, 1) := by decide +kernel
theorem dL_law_321 : decode cL_law 321 = .ok (.aload_n 1, 1) := by decide +kernel
theorem dL_law_322 : decode cL_law 322 = .ok (.aload_n 0, 1) := by decide +kernel
theorem dL_law_323 : decode cL_law 323 = .ok (.iload_n 3, 1) := by decide +kernel
theorem dL_law_324 : decode cL_law 324 = .ok (.iconst 1, 1) := by decide +kernel
theorem dL_law_325 : decode cL_law 325 = .ok (.iadd, 1) := by decide +kernel
theorem dL_law_326 : decode cL_law 326 = .ok (.iaload, 1) := by decide +kernel
theorem dL_law_327 : decode cL_law 327 = .ok (.aload_n 0, 1) := by decide +kernel
theorem dL_law_328 : decode cL_law 328 = .ok (.iload_n 3, 1) := by decide +kernel
theorem dL_law_329 : decode cL_law 329 = .ok (.iconst 2, 1) := by decide +kernel
theorem dL_law_330 : decode cL_law 330 = .ok (.iadd, 1) := by decide +kernel
theorem dL_law_331 : decode cL_law 331 = .ok (.iaload, 1) := by decide +kernel
theorem dL_law_332 : decode cL_law 332 = .ok (.invokevirtual 45, 3) := by decide +kernel
theorem dL_law_335 : decode cL_law 335 = .ok (.aload_n 2, 1) := by decide +kernel
theorem dL_law_336 : decode cL_law 336 = .ok (.aload_n 0, 1) := by decide +kernel
theorem dL_law_337 : decode cL_law 337 = .ok (.iload_n 3, 1) := by decide +kernel
theorem dL_law_338 : decode cL_law 338 = .ok (.iconst 1, 1) := by decide +kernel
theorem dL_law_339 : decode cL_law 339 = .ok (.iadd, 1) := by decide +kernel
theorem dL_law_340 : decode cL_law 340 = .ok (.iaload, 1) := by decide +kernel
theorem dL_law_341 : decode cL_law 341 = .ok (.aload_n 0, 1) := by decide +kernel
theorem dL_law_342 : decode cL_law 342 = .ok (.iload_n 3, 1) := by decide +kernel
theorem dL_law_343 : decode cL_law 343 = .ok (.iconst 2, 1) := by decide +kernel
theorem dL_law_344 : decode cL_law 344 = .ok (.iadd, 1) := by decide +kernel
theorem dL_law_345 : decode cL_law 345 = .ok (.iaload, 1) := by decide +kernel
theorem dL_law_346 : decode cL_law 346 = .ok (.invokevirtual 48, 3) := by decide +kernel
theorem dL_law_349 : decode cL_law 349 = .ok (.if_icmp .eq 535, 3) := by decide +kernel
theorem dL_law_352 : decode cL_law 352 = .ok (.iconst 0, 1) := by decide +kernel
theorem dL_law_353 : decode cL_law 353 = .ok (.ireturn, 1) := by decide +kernel
theorem dL_law_354 : decode cL_law 354 = .ok (.aload_n 1, 1) := by decide +kernel
theorem dL_law_355 : decode cL_law 355 = .ok (.aload_n 0, 1) := by decide +kernel
theorem dL_law_356 : decode cL_law 356 = .ok (.iload_n 3, 1) := by decide +kernel
theorem dL_law_357 : decode cL_law 357 = .ok (.iconst 1, 1) := by decide +kernel
theorem dL_law_358 : decode cL_law 358 = .ok (.iadd, 1) := by decide +kernel
theorem dL_law_359 : decode cL_law 359 = .ok (.iaload, 1) := by decide +kernel
theorem dL_law_360 : decode cL_law 360 = .ok (.invokevirtual 49, 3) := by decide +kernel
theorem dL_law_363 : decode cL_law 363 = .ok (.aload_n 2, 1) := by decide +kernel
theorem dL_law_364 : decode cL_law 364 = .ok (.aload_n 0, 1) := by decide +kernel
theorem dL_law_365 : decode cL_law 365 = .ok (.iload_n 3, 1) := by decide +kernel
theorem dL_law_366 : decode cL_law 366 = .ok (.iconst 1, 1) := by decide +kernel
theorem dL_law_367 : decode cL_law 367 = .ok (.iadd, 1) := by decide +kernel
theorem dL_law_368 : decode cL_law 368 = .ok (.iaload, 1) := by decide +kernel
theorem dL_law_369 : decode cL_law 369 = .ok (.invokevirtual 52, 3) := by decide +kernel
theorem dL_law_372 : decode cL_law 372 = .ok (.if_icmp .eq 512, 3) := by decide +kernel
theorem dL_law_375 : decode cL_law 375 = .ok (.iconst 0, 1) := by decide +kernel
theorem dL_law_376 : decode cL_law 376 = .ok (.ireturn, 1) := by decide +kernel
theorem dL_law_377 : decode cL_law 377 = .ok (.aload_n 1, 1) := by decide +kernel
theorem dL_law_378 : decode cL_law 378 = .ok (.aload_n 0, 1) := by decide +kernel
theorem dL_law_379 : decode cL_law 379 = .ok (.iload_n 3, 1) := by decide +kernel
theorem dL_law_380 : decode cL_law 380 = .ok (.iconst 1, 1) := by decide +kernel
theorem dL_law_381 : decode cL_law 381 = .ok (.iadd, 1) := by decide +kernel
theorem dL_law_382 : decode cL_law 382 = .ok (.iaload, 1) := by decide +kernel
theorem dL_law_383 : decode cL_law 383 = .ok (.aload_n 0, 1) := by decide +kernel
theorem dL_law_384 : decode cL_law 384 = .ok (.iload_n 3, 1) := by decide +kernel
theorem dL_law_385 : decode cL_law 385 = .ok (.iconst 2, 1) := by decide +kernel
theorem dL_law_386 : decode cL_law 386 = .ok (.iadd, 1) := by decide +kernel
theorem dL_law_387 : decode cL_law 387 = .ok (.iaload, 1) := by decide +kernel
theorem dL_law_388 : decode cL_law 388 = .ok (.invokevirtual 53, 3) := by decide +kernel
theorem dL_law_391 : decode cL_law 391 = .ok (.aload_n 2, 1) := by decide +kernel
theorem dL_law_392 : decode cL_law 392 = .ok (.aload_n 0, 1) := by decide +kernel
theorem dL_law_393 : decode cL_law 393 = .ok (.iload_n 3, 1) := by decide +kernel
theorem dL_law_394 : decode cL_law 394 = .ok (.iconst 1, 1) := by decide +kernel
theorem dL_law_395 : decode cL_law 395 = .ok (.iadd, 1) := by decide +kernel
theorem dL_law_396 : decode cL_law 396 = .ok (.iaload, 1) := by decide +kernel
theorem dL_law_397 : decode cL_law 397 = .ok (.aload_n 0, 1) := by decide +kernel
theorem dL_law_398 : decode cL_law 398 = .ok (.iload_n 3, 1) := by decide +kernel
theorem dL_law_399 : decode cL_law 399 = .ok (.iconst 2, 1) := by decide +kernel
theorem dL_law_400 : decode cL_law 400 = .ok (.iadd, 1) := by decide +kernel
theorem dL_law_401 : decode cL_law 401 = .ok (.iaload, 1) := by decide +kernel
theorem dL_law_402 : decode cL_law 402 = .ok (.invokevirtual 56, 3) := by decide +kernel
theorem dL_law_405 : decode cL_law 405 = .ok (.if_icmp .eq 479, 3) := by decide +kernel
theorem dL_law_408 : decode cL_law 408 = .ok (.iconst 0, 1) := by decide +kernel
theorem dL_law_409 : decode cL_law 409 = .ok (.ireturn, 1) := by decide +kernel
theorem dL_law_410 : decode cL_law 410 = .ok (.aload_n 1, 1) := by decide +kernel
theorem dL_law_411 : decode cL_law 411 = .ok (.aload_n 0, 1) := by decide +kernel
theorem dL_law_412 : decode cL_law 412 = .ok (.iload_n 3, 1) := by decide +kernel
theorem dL_law_413 : decode cL_law 413 = .ok (.iconst 1, 1) := by decide +kernel
theorem dL_law_414 : decode cL_law 414 = .ok (.iadd, 1) := by decide +kernel
theorem dL_law_415 : decode cL_law 415 = .ok (.iaload, 1) := by decide +kernel
theorem dL_law_416 : decode cL_law 416 = .ok (.aload_n 0, 1) := by decide +kernel
theorem dL_law_417 : decode cL_law 417 = .ok (.iload_n 3, 1) := by decide +kernel
theorem dL_law_418 : decode cL_law 418 = .ok (.iconst 2, 1) := by decide +kernel
theorem dL_law_419 : decode cL_law 419 = .ok (.iadd, 1) := by decide +kernel
theorem dL_law_420 : decode cL_law 420 = .ok (.iaload, 1) := by decide +kernel
theorem dL_law_421 : decode cL_law 421 = .ok (.invokevirtual 57, 3) := by decide +kernel
theorem dL_law_424 : decode cL_law 424 = .ok (.aload_n 2, 1) := by decide +kernel
theorem dL_law_425 : decode cL_law 425 = .ok (.aload_n 0, 1) := by decide +kernel
theorem dL_law_426 : decode cL_law 426 = .ok (.iload_n 3, 1) := by decide +kernel
theorem dL_law_427 : decode cL_law 427 = .ok (.iconst 1, 1) := by decide +kernel
theorem dL_law_428 : decode cL_law 428 = .ok (.iadd, 1) := by decide +kernel
theorem dL_law_429 : decode cL_law 429 = .ok (.iaload, 1) := by decide +kernel
theorem dL_law_430 : decode cL_law 430 = .ok (.aload_n 0, 1) := by decide +kernel
theorem dL_law_431 : decode cL_law 431 = .ok (.iload_n 3, 1) := by decide +kernel
theorem dL_law_432 : decode cL_law 432 = .ok (.iconst 2, 1) := by decide +kernel
theorem dL_law_433 : decode cL_law 433 = .ok (.iadd, 1) := by decide +kernel
theorem dL_law_434 : decode cL_law 434 = .ok (.iaload, 1) := by decide +kernel
theorem dL_law_435 : decode cL_law 435 = .ok (.invokevirtual 60, 3) := by decide +kernel
theorem dL_law_438 : decode cL_law 438 = .ok (.if_icmp .eq 446, 3) := by decide +kernel
theorem dL_law_441 : decode cL_law 441 = .ok (.iconst 0, 1) := by decide +kernel
theorem dL_law_442 : decode cL_law 442 = .ok (.ireturn, 1) := by decide +kernel
theorem dL_law_443 : decode cL_law 443 = .ok (.aload_n 1, 1) := by decide +kernel
theorem dL_law_444 : decode cL_law 444 = .ok (.invokevirtual 61, 3) := by decide +kernel
theorem dL_law_447 : decode cL_law 447 = .ok (.aload_n 2, 1) := by decide +kernel
theorem dL_law_448 : decode cL_law 448 = .ok (.invokevirtual 64, 3) := by decide +kernel
theorem dL_law_451 : decode cL_law 451 = .ok (.if_icmp .eq 433, 3) := by decide +kernel
theorem dL_law_454 : decode cL_law 454 = .ok (.iconst 0, 1) := by decide +kernel
theorem dL_law_455 : decode cL_law 455 = .ok (.ireturn, 1) := by decide +kernel
theorem dL_law_456 : decode cL_law 456 = .ok (.aload_n 1, 1) := by decide +kernel
theorem dL_law_457 : decode cL_law 457 = .ok (.aload_n 0, 1) := by decide +kernel
theorem dL_law_458 : decode cL_law 458 = .ok (.iload_n 3, 1) := by decide +kernel
theorem dL_law_459 : decode cL_law 459 = .ok (.iconst 1, 1) := by decide +kernel
theorem dL_law_460 : decode cL_law 460 = .ok (.iadd, 1) := by decide +kernel
theorem dL_law_461 : decode cL_law 461 = .ok (.iaload, 1) := by decide +kernel
theorem dL_law_462 : decode cL_law 462 = .ok (.aload_n 0, 1) := by decide +kernel
theorem dL_law_463 : decode cL_law 463 = .ok (.iload_n 3, 1) := by decide +kernel
theorem dL_law_464 : decode cL_law 464 = .ok (.iconst 2, 1) := by decide +kernel
theorem dL_law_465 : decode cL_law 465 = .ok (.iadd, 1) := by decide +kernel
theorem dL_law_466 : decode cL_law 466 = .ok (.iaload, 1) := by decide +kernel
theorem dL_law_467 : decode cL_law 467 = .ok (.aload_n 0, 1) := by decide +kernel
theorem dL_law_468 : decode cL_law 468 = .ok (.iload_n 3, 1) := by decide +kernel
theorem dL_law_469 : decode cL_law 469 = .ok (.iconst 3, 1) := by decide +kernel
theorem dL_law_470 : decode cL_law 470 = .ok (.iadd, 1) := by decide +kernel
theorem dL_law_471 : decode cL_law 471 = .ok (.iaload, 1) := by decide +kernel
theorem dL_law_472 : decode cL_law 472 = .ok (.invokevirtual 65, 3) := by decide +kernel
theorem dL_law_475 : decode cL_law 475 = .ok (.aload_n 2, 1) := by decide +kernel
theorem dL_law_476 : decode cL_law 476 = .ok (.aload_n 0, 1) := by decide +kernel
theorem dL_law_477 : decode cL_law 477 = .ok (.iload_n 3, 1) := by decide +kernel
theorem dL_law_478 : decode cL_law 478 = .ok (.iconst 1, 1) := by decide +kernel
theorem dL_law_479 : decode cL_law 479 = .ok (.iadd, 1) := by decide +kernel
theorem dL_law_480 : decode cL_law 480 = .ok (.iaload, 1) := by decide +kernel
theorem dL_law_481 : decode cL_law 481 = .ok (.aload_n 0, 1) := by decide +kernel
theorem dL_law_482 : decode cL_law 482 = .ok (.iload_n 3, 1) := by decide +kernel
theorem dL_law_483 : decode cL_law 483 = .ok (.iconst 2, 1) := by decide +kernel
theorem dL_law_484 : decode cL_law 484 = .ok (.iadd, 1) := by decide +kernel
theorem dL_law_485 : decode cL_law 485 = .ok (.iaload, 1) := by decide +kernel
theorem dL_law_486 : decode cL_law 486 = .ok (.aload_n 0, 1) := by decide +kernel
theorem dL_law_487 : decode cL_law 487 = .ok (.iload_n 3, 1) := by decide +kernel
theorem dL_law_488 : decode cL_law 488 = .ok (.iconst 3, 1) := by decide +kernel
theorem dL_law_489 : decode cL_law 489 = .ok (.iadd, 1) := by decide +kernel
theorem dL_law_490 : decode cL_law 490 = .ok (.iaload, 1) := by decide +kernel
theorem dL_law_491 : decode cL_law 491 = .ok (.invokevirtual 68, 3) := by decide +kernel
theorem dL_law_494 : decode cL_law 494 = .ok (.if_icmp .eq 390, 3) := by decide +kernel
theorem dL_law_497 : decode cL_law 497 = .ok (.iconst 0, 1) := by decide +kernel
theorem dL_law_498 : decode cL_law 498 = .ok (.ireturn, 1) := by decide +kernel
theorem dL_law_499 : decode cL_law 499 = .ok (.aload_n 1, 1) := by decide +kernel
theorem dL_law_500 : decode cL_law 500 = .ok (.aload_n 0, 1) := by decide +kernel
theorem dL_law_501 : decode cL_law 501 = .ok (.iload_n 3, 1) := by decide +kernel
theorem dL_law_502 : decode cL_law 502 = .ok (.iconst 1, 1) := by decide +kernel
theorem dL_law_503 : decode cL_law 503 = .ok (.iadd, 1) := by decide +kernel
theorem dL_law_504 : decode cL_law 504 = .ok (.iaload, 1) := by decide +kernel
theorem dL_law_505 : decode cL_law 505 = .ok (.invokevirtual 69, 3) := by decide +kernel
theorem dL_law_508 : decode cL_law 508 = .ok (.aload_n 2, 1) := by decide +kernel
theorem dL_law_509 : decode cL_law 509 = .ok (.aload_n 0, 1) := by decide +kernel
theorem dL_law_510 : decode cL_law 510 = .ok (.iload_n 3, 1) := by decide +kernel
theorem dL_law_511 : decode cL_law 511 = .ok (.iconst 1, 1) := by decide +kernel
theorem dL_law_512 : decode cL_law 512 = .ok (.iadd, 1) := by decide +kernel
theorem dL_law_513 : decode cL_law 513 = .ok (.iaload, 1) := by decide +kernel
theorem dL_law_514 : decode cL_law 514 = .ok (.invokevirtual 72, 3) := by decide +kernel
theorem dL_law_517 : decode cL_law 517 = .ok (.if_icmp .eq 367, 3) := by decide +kernel
theorem dL_law_520 : decode cL_law 520 = .ok (.iconst 0, 1) := by decide +kernel
theorem dL_law_521 : decode cL_law 521 = .ok (.ireturn, 1) := by decide +kernel
theorem dL_law_522 : decode cL_law 522 = .ok (.aload_n 1, 1) := by decide +kernel
theorem dL_law_523 : decode cL_law 523 = .ok (.aload_n 0, 1) := by decide +kernel
theorem dL_law_524 : decode cL_law 524 = .ok (.iload_n 3, 1) := by decide +kernel
theorem dL_law_525 : decode cL_law 525 = .ok (.iconst 1, 1) := by decide +kernel
theorem dL_law_526 : decode cL_law 526 = .ok (.iadd, 1) := by decide +kernel
theorem dL_law_527 : decode cL_law 527 = .ok (.iaload, 1) := by decide +kernel
theorem dL_law_528 : decode cL_law 528 = .ok (.aload_n 0, 1) := by decide +kernel
theorem dL_law_529 : decode cL_law 529 = .ok (.iload_n 3, 1) := by decide +kernel
theorem dL_law_530 : decode cL_law 530 = .ok (.iconst 2, 1) := by decide +kernel
theorem dL_law_531 : decode cL_law 531 = .ok (.iadd, 1) := by decide +kernel
theorem dL_law_532 : decode cL_law 532 = .ok (.iaload, 1) := by decide +kernel
theorem dL_law_533 : decode cL_law 533 = .ok (.aload_n 0, 1) := by decide +kernel
theorem dL_law_534 : decode cL_law 534 = .ok (.iload_n 3, 1) := by decide +kernel
theorem dL_law_535 : decode cL_law 535 = .ok (.iconst 3, 1) := by decide +kernel
theorem dL_law_536 : decode cL_law 536 = .ok (.iadd, 1) := by decide +kernel
theorem dL_law_537 : decode cL_law 537 = .ok (.iaload, 1) := by decide +kernel
theorem dL_law_538 : decode cL_law 538 = .ok (.invokevirtual 73, 3) := by decide +kernel
theorem dL_law_541 : decode cL_law 541 = .ok (.aload_n 2, 1) := by decide +kernel
theorem dL_law_542 : decode cL_law 542 = .ok (.aload_n 0, 1) := by decide +kernel
theorem dL_law_543 : decode cL_law 543 = .ok (.iload_n 3, 1) := by decide +kernel
theorem dL_law_544 : decode cL_law 544 = .ok (.iconst 1, 1) := by decide +kernel
theorem dL_law_545 : decode cL_law 545 = .ok (.iadd, 1) := by decide +kernel
theorem dL_law_546 : decode cL_law 546 = .ok (.iaload, 1) := by decide +kernel
theorem dL_law_547 : decode cL_law 547 = .ok (.aload_n 0, 1) := by decide +kernel
theorem dL_law_548 : decode cL_law 548 = .ok (.iload_n 3, 1) := by decide +kernel
theorem dL_law_549 : decode cL_law 549 = .ok (.iconst 2, 1) := by decide +kernel
theorem dL_law_550 : decode cL_law 550 = .ok (.iadd, 1) := by decide +kernel
theorem dL_law_551 : decode cL_law 551 = .ok (.iaload, 1) := by decide +kernel
theorem dL_law_552 : decode cL_law 552 = .ok (.aload_n 0, 1) := by decide +kernel
theorem dL_law_553 : decode cL_law 553 = .ok (.iload_n 3, 1) := by decide +kernel
theorem dL_law_554 : decode cL_law 554 = .ok (.iconst 3, 1) := by decide +kernel
theorem dL_law_555 : decode cL_law 555 = .ok (.iadd, 1) := by decide +kernel
theorem dL_law_556 : decode cL_law 556 = .ok (.iaload, 1) := by decide +kernel
theorem dL_law_557 : decode cL_law 557 = .ok (.invokevirtual 76, 3) := by decide +kernel
theorem dL_law_560 : decode cL_law 560 = .ok (.if_icmp .eq 324, 3) := by decide +kernel
theorem dL_law_563 : decode cL_law 563 = .ok (.iconst 0, 1) := by decide +kernel
theorem dL_law_564 : decode cL_law 564 = .ok (.ireturn, 1) := by decide +kernel
theorem dL_law_565 : decode cL_law 565 = .ok (.aload_n 1, 1) := by decide +kernel
theorem dL_law_566 : decode cL_law 566 = .ok (.aload_n 0, 1) := by decide +kernel
theorem dL_law_567 : decode cL_law 567 = .ok (.iload_n 3, 1) := by decide +kernel
theorem dL_law_568 : decode cL_law 568 = .ok (.iconst 1, 1) := by decide +kernel
theorem dL_law_569 : decode cL_law 569 = .ok (.iadd, 1) := by decide +kernel
theorem dL_law_570 : decode cL_law 570 = .ok (.iaload, 1) := by decide +kernel
theorem dL_law_571 : decode cL_law 571 = .ok (.invokevirtual 77, 3) := by decide +kernel
theorem dL_law_574 : decode cL_law 574 = .ok (.aload_n 2, 1) := by decide +kernel
theorem dL_law_575 : decode cL_law 575 = .ok (.aload_n 0, 1) := by decide +kernel
theorem dL_law_576 : decode cL_law 576 = .ok (.iload_n 3, 1) := by decide +kernel
theorem dL_law_577 : decode cL_law 577 = .ok (.iconst 1, 1) := by decide +kernel
theorem dL_law_578 : decode cL_law 578 = .ok (.iadd, 1) := by decide +kernel
theorem dL_law_579 : decode cL_law 579 = .ok (.iaload, 1) := by decide +kernel
theorem dL_law_580 : decode cL_law 580 = .ok (.invokevirtual 80, 3) := by decide +kernel
theorem dL_law_583 : decode cL_law 583 = .ok (.if_icmp .eq 301, 3) := by decide +kernel
theorem dL_law_586 : decode cL_law 586 = .ok (.iconst 0, 1) := by decide +kernel
theorem dL_law_587 : decode cL_law 587 = .ok (.ireturn, 1) := by decide +kernel
theorem dL_law_588 : decode cL_law 588 = .ok (.aload_n 1, 1) := by decide +kernel
theorem dL_law_589 : decode cL_law 589 = .ok (.aload_n 0, 1) := by decide +kernel
theorem dL_law_590 : decode cL_law 590 = .ok (.iload_n 3, 1) := by decide +kernel
theorem dL_law_591 : decode cL_law 591 = .ok (.iconst 1, 1) := by decide +kernel
theorem dL_law_592 : decode cL_law 592 = .ok (.iadd, 1) := by decide +kernel
theorem dL_law_593 : decode cL_law 593 = .ok (.iaload, 1) := by decide +kernel
theorem dL_law_594 : decode cL_law 594 = .ok (.invokevirtual 81, 3) := by decide +kernel
theorem dL_law_597 : decode cL_law 597 = .ok (.aload_n 2, 1) := by decide +kernel
theorem dL_law_598 : decode cL_law 598 = .ok (.aload_n 0, 1) := by decide +kernel
theorem dL_law_599 : decode cL_law 599 = .ok (.iload_n 3, 1) := by decide +kernel
theorem dL_law_600 : decode cL_law 600 = .ok (.iconst 1, 1) := by decide +kernel
theorem dL_law_601 : decode cL_law 601 = .ok (.iadd, 1) := by decide +kernel
theorem dL_law_602 : decode cL_law 602 = .ok (.iaload, 1) := by decide +kernel
theorem dL_law_603 : decode cL_law 603 = .ok (.invokevirtual 84, 3) := by decide +kernel
theorem dL_law_606 : decode cL_law 606 = .ok (.if_icmp .eq 278, 3) := by decide +kernel
theorem dL_law_609 : decode cL_law 609 = .ok (.iconst 0, 1) := by decide +kernel
theorem dL_law_610 : decode cL_law 610 = .ok (.ireturn, 1) := by decide +kernel
theorem dL_law_611 : decode cL_law 611 = .ok (.aload_n 1, 1) := by decide +kernel
theorem dL_law_612 : decode cL_law 612 = .ok (.aload_n 0, 1) := by decide +kernel
theorem dL_law_613 : decode cL_law 613 = .ok (.iload_n 3, 1) := by decide +kernel
theorem dL_law_614 : decode cL_law 614 = .ok (.iconst 1, 1) := by decide +kernel
theorem dL_law_615 : decode cL_law 615 = .ok (.iadd, 1) := by decide +kernel
theorem dL_law_616 : decode cL_law 616 = .ok (.iaload, 1) := by decide +kernel
theorem dL_law_617 : decode cL_law 617 = .ok (.invokevirtual 85, 3) := by decide +kernel
theorem dL_law_620 : decode cL_law 620 = .ok (.aload_n 2, 1) := by decide +kernel
theorem dL_law_621 : decode cL_law 621 = .ok (.aload_n 0, 1) := by decide +kernel
theorem dL_law_622 : decode cL_law 622 = .ok (.iload_n 3, 1) := by decide +kernel
theorem dL_law_623 : decode cL_law 623 = .ok (.iconst 1, 1) := by decide +kernel
theorem dL_law_624 : decode cL_law 624 = .ok (.iadd, 1) := by decide +kernel
theorem dL_law_625 : decode cL_law 625 = .ok (.iaload, 1) := by decide +kernel
theorem dL_law_626 : decode cL_law 626 = .ok (.invokevirtual 88, 3) := by decide +kernel
theorem dL_law_629 : decode cL_law 629 = .ok (.if_icmp .eq 255, 3) := by decide +kernel
theorem dL_law_632 : decode cL_law 632 = .ok (.iconst 0, 1) := by decide +kernel
theorem dL_law_633 : decode cL_law 633 = .ok (.ireturn, 1) := by decide +kernel
theorem dL_law_634 : decode cL_law 634 = .ok (.aload_n 1, 1) := by decide +kernel
theorem dL_law_635 : decode cL_law 635 = .ok (.invokevirtual 89, 3) := by decide +kernel
theorem dL_law_638 : decode cL_law 638 = .ok (.aload_n 2, 1) := by decide +kernel
theorem dL_law_639 : decode cL_law 639 = .ok (.invokevirtual 92, 3) := by decide +kernel
theorem dL_law_642 : decode cL_law 642 = .ok (.if_icmp .eq 242, 3) := by decide +kernel
theorem dL_law_645 : decode cL_law 645 = .ok (.iconst 0, 1) := by decide +kernel
theorem dL_law_646 : decode cL_law 646 = .ok (.ireturn, 1) := by decide +kernel
theorem dL_law_647 : decode cL_law 647 = .ok (.aload_n 1, 1) := by decide +kernel
theorem dL_law_648 : decode cL_law 648 = .ok (.aload_n 0, 1) := by decide +kernel
theorem dL_law_649 : decode cL_law 649 = .ok (.iload_n 3, 1) := by decide +kernel
theorem dL_law_650 : decode cL_law 650 = .ok (.iconst 1, 1) := by decide +kernel
theorem dL_law_651 : decode cL_law 651 = .ok (.iadd, 1) := by decide +kernel
theorem dL_law_652 : decode cL_law 652 = .ok (.iaload, 1) := by decide +kernel
theorem dL_law_653 : decode cL_law 653 = .ok (.aload_n 0, 1) := by decide +kernel
theorem dL_law_654 : decode cL_law 654 = .ok (.iload_n 3, 1) := by decide +kernel
theorem dL_law_655 : decode cL_law 655 = .ok (.iconst 2, 1) := by decide +kernel
theorem dL_law_656 : decode cL_law 656 = .ok (.iadd, 1) := by decide +kernel
theorem dL_law_657 : decode cL_law 657 = .ok (.iaload, 1) := by decide +kernel
theorem dL_law_658 : decode cL_law 658 = .ok (.aload_n 0, 1) := by decide +kernel
theorem dL_law_659 : decode cL_law 659 = .ok (.iload_n 3, 1) := by decide +kernel
theorem dL_law_660 : decode cL_law 660 = .ok (.iconst 3, 1) := by decide +kernel
theorem dL_law_661 : decode cL_law 661 = .ok (.iadd, 1) := by decide +kernel
theorem dL_law_662 : decode cL_law 662 = .ok (.iaload, 1) := by decide +kernel
theorem dL_law_663 : decode cL_law 663 = .ok (.invokevirtual 93, 3) := by decide +kernel
theorem dL_law_666 : decode cL_law 666 = .ok (.aload_n 2, 1) := by decide +kernel
theorem dL_law_667 : decode cL_law 667 = .ok (.aload_n 0, 1) := by decide +kernel
theorem dL_law_668 : decode cL_law 668 = .ok (.iload_n 3, 1) := by decide +kernel
theorem dL_law_669 : decode cL_law 669 = .ok (.iconst 1, 1) := by decide +kernel
theorem dL_law_670 : decode cL_law 670 = .ok (.iadd, 1) := by decide +kernel
theorem dL_law_671 : decode cL_law 671 = .ok (.iaload, 1) := by decide +kernel
theorem dL_law_672 : decode cL_law 672 = .ok (.aload_n 0, 1) := by decide +kernel
theorem dL_law_673 : decode cL_law 673 = .ok (.iload_n 3, 1) := by decide +kernel
theorem dL_law_674 : decode cL_law 674 = .ok (.iconst 2, 1) := by decide +kernel
theorem dL_law_675 : decode cL_law 675 = .ok (.iadd, 1) := by decide +kernel
theorem dL_law_676 : decode cL_law 676 = .ok (.iaload, 1) := by decide +kernel
theorem dL_law_677 : decode cL_law 677 = .ok (.aload_n 0, 1) := by decide +kernel
theorem dL_law_678 : decode cL_law 678 = .ok (.iload_n 3, 1) := by decide +kernel
theorem dL_law_679 : decode cL_law 679 = .ok (.iconst 3, 1) := by decide +kernel
theorem dL_law_680 : decode cL_law 680 = .ok (.iadd, 1) := by decide +kernel
theorem dL_law_681 : decode cL_law 681 = .ok (.iaload, 1) := by decide +kernel
theorem dL_law_682 : decode cL_law 682 = .ok (.invokevirtual 96, 3) := by decide +kernel
theorem dL_law_685 : decode cL_law 685 = .ok (.if_icmp .eq 199, 3) := by decide +kernel
theorem dL_law_688 : decode cL_law 688 = .ok (.iconst 0, 1) := by decide +kernel
theorem dL_law_689 : decode cL_law 689 = .ok (.ireturn, 1) := by decide +kernel
theorem dL_law_690 : decode cL_law 690 = .ok (.aload_n 1, 1) := by decide +kernel
theorem dL_law_691 : decode cL_law 691 = .ok (.invokevirtual 97, 3) := by decide +kernel
theorem dL_law_694 : decode cL_law 694 = .ok (.aload_n 2, 1) := by decide +kernel
theorem dL_law_695 : decode cL_law 695 = .ok (.invokevirtual 100, 3) := by decide +kernel
theorem dL_law_698 : decode cL_law 698 = .ok (.if_icmp .eq 186, 3) := by decide +kernel
theorem dL_law_701 : decode cL_law 701 = .ok (.iconst 0, 1) := by decide +kernel
theorem dL_law_702 : decode cL_law 702 = .ok (.ireturn, 1) := by decide +kernel
theorem dL_law_703 : decode cL_law 703 = .ok (.aload_n 1, 1) := by decide +kernel
theorem dL_law_704 : decode cL_law 704 = .ok (.invokevirtual 101, 3) := by decide +kernel
theorem dL_law_707 : decode cL_law 707 = .ok (.aload_n 2, 1) := by decide +kernel
theorem dL_law_708 : decode cL_law 708 = .ok (.invokevirtual 104, 3) := by decide +kernel
theorem dL_law_711 : decode cL_law 711 = .ok (.if_icmp .eq 173, 3) := by decide +kernel
theorem dL_law_714 : decode cL_law 714 = .ok (.iconst 0, 1) := by decide +kernel
theorem dL_law_715 : decode cL_law 715 = .ok (.ireturn, 1) := by decide +kernel
theorem dL_law_716 : decode cL_law 716 = .ok (.aload_n 1, 1) := by decide +kernel
theorem dL_law_717 : decode cL_law 717 = .ok (.aload_n 0, 1) := by decide +kernel
theorem dL_law_718 : decode cL_law 718 = .ok (.iload_n 3, 1) := by decide +kernel
theorem dL_law_719 : decode cL_law 719 = .ok (.iconst 1, 1) := by decide +kernel
theorem dL_law_720 : decode cL_law 720 = .ok (.iadd, 1) := by decide +kernel
theorem dL_law_721 : decode cL_law 721 = .ok (.iaload, 1) := by decide +kernel
theorem dL_law_722 : decode cL_law 722 = .ok (.invokevirtual 105, 3) := by decide +kernel
theorem dL_law_725 : decode cL_law 725 = .ok (.aload_n 2, 1) := by decide +kernel
theorem dL_law_726 : decode cL_law 726 = .ok (.aload_n 0, 1) := by decide +kernel
theorem dL_law_727 : decode cL_law 727 = .ok (.iload_n 3, 1) := by decide +kernel
theorem dL_law_728 : decode cL_law 728 = .ok (.iconst 1, 1) := by decide +kernel
theorem dL_law_729 : decode cL_law 729 = .ok (.iadd, 1) := by decide +kernel
theorem dL_law_730 : decode cL_law 730 = .ok (.iaload, 1) := by decide +kernel
theorem dL_law_731 : decode cL_law 731 = .ok (.invokevirtual 108, 3) := by decide +kernel
theorem dL_law_734 : decode cL_law 734 = .ok (.if_icmp .eq 150, 3) := by decide +kernel
theorem dL_law_737 : decode cL_law 737 = .ok (.iconst 0, 1) := by decide +kernel
theorem dL_law_738 : decode cL_law 738 = .ok (.ireturn, 1) := by decide +kernel
theorem dL_law_739 : decode cL_law 739 = .ok (.aload_n 1, 1) := by decide +kernel
theorem dL_law_740 : decode cL_law 740 = .ok (.aload_n 0, 1) := by decide +kernel
theorem dL_law_741 : decode cL_law 741 = .ok (.iload_n 3, 1) := by decide +kernel
theorem dL_law_742 : decode cL_law 742 = .ok (.iconst 1, 1) := by decide +kernel
theorem dL_law_743 : decode cL_law 743 = .ok (.iadd, 1) := by decide +kernel
theorem dL_law_744 : decode cL_law 744 = .ok (.iaload, 1) := by decide +kernel
theorem dL_law_745 : decode cL_law 745 = .ok (.aload_n 0, 1) := by decide +kernel
theorem dL_law_746 : decode cL_law 746 = .ok (.iload_n 3, 1) := by decide +kernel
theorem dL_law_747 : decode cL_law 747 = .ok (.iconst 2, 1) := by decide +kernel
theorem dL_law_748 : decode cL_law 748 = .ok (.iadd, 1) := by decide +kernel
theorem dL_law_749 : decode cL_law 749 = .ok (.iaload, 1) := by decide +kernel
theorem dL_law_750 : decode cL_law 750 = .ok (.aload_n 0, 1) := by decide +kernel
theorem dL_law_751 : decode cL_law 751 = .ok (.iload_n 3, 1) := by decide +kernel
theorem dL_law_752 : decode cL_law 752 = .ok (.iconst 3, 1) := by decide +kernel
theorem dL_law_753 : decode cL_law 753 = .ok (.iadd, 1) := by decide +kernel
theorem dL_law_754 : decode cL_law 754 = .ok (.iaload, 1) := by decide +kernel
theorem dL_law_755 : decode cL_law 755 = .ok (.aload_n 0, 1) := by decide +kernel
theorem dL_law_756 : decode cL_law 756 = .ok (.iload_n 3, 1) := by decide +kernel
theorem dL_law_757 : decode cL_law 757 = .ok (.iconst 4, 1) := by decide +kernel
theorem dL_law_758 : decode cL_law 758 = .ok (.iadd, 1) := by decide +kernel
theorem dL_law_759 : decode cL_law 759 = .ok (.iaload, 1) := by decide +kernel
theorem dL_law_760 : decode cL_law 760 = .ok (.invokevirtual 109, 3) := by decide +kernel
theorem dL_law_763 : decode cL_law 763 = .ok (.aload_n 2, 1) := by decide +kernel
theorem dL_law_764 : decode cL_law 764 = .ok (.aload_n 0, 1) := by decide +kernel
theorem dL_law_765 : decode cL_law 765 = .ok (.iload_n 3, 1) := by decide +kernel
theorem dL_law_766 : decode cL_law 766 = .ok (.iconst 1, 1) := by decide +kernel
theorem dL_law_767 : decode cL_law 767 = .ok (.iadd, 1) := by decide +kernel
theorem dL_law_768 : decode cL_law 768 = .ok (.iaload, 1) := by decide +kernel
theorem dL_law_769 : decode cL_law 769 = .ok (.aload_n 0, 1) := by decide +kernel
theorem dL_law_770 : decode cL_law 770 = .ok (.iload_n 3, 1) := by decide +kernel
theorem dL_law_771 : decode cL_law 771 = .ok (.iconst 2, 1) := by decide +kernel
theorem dL_law_772 : decode cL_law 772 = .ok (.iadd, 1) := by decide +kernel
theorem dL_law_773 : decode cL_law 773 = .ok (.iaload, 1) := by decide +kernel
theorem dL_law_774 : decode cL_law 774 = .ok (.aload_n 0, 1) := by decide +kernel
theorem dL_law_775 : decode cL_law 775 = .ok (.iload_n 3, 1) := by decide +kernel
theorem dL_law_776 : decode cL_law 776 = .ok (.iconst 3, 1) := by decide +kernel
theorem dL_law_777 : decode cL_law 777 = .ok (.iadd, 1) := by decide +kernel
theorem dL_law_778 : decode cL_law 778 = .ok (.iaload, 1) := by decide +kernel
theorem dL_law_779 : decode cL_law 779 = .ok (.aload_n 0, 1) := by decide +kernel
theorem dL_law_780 : decode cL_law 780 = .ok (.iload_n 3, 1) := by decide +kernel
theorem dL_law_781 : decode cL_law 781 = .ok (.iconst 4, 1) := by decide +kernel
theorem dL_law_782 : decode cL_law 782 = .ok (.iadd, 1) := by decide +kernel
theorem dL_law_783 : decode cL_law 783 = .ok (.iaload, 1) := by decide +kernel
theorem dL_law_784 : decode cL_law 784 = .ok (.invokevirtual 113, 3) := by decide +kernel
theorem dL_law_787 : decode cL_law 787 = .ok (.if_icmp .eq 97, 3) := by decide +kernel
theorem dL_law_790 : decode cL_law 790 = .ok (.iconst 0, 1) := by decide +kernel
theorem dL_law_791 : decode cL_law 791 = .ok (.ireturn, 1) := by decide +kernel
theorem dL_law_792 : decode cL_law 792 = .ok (.aload_n 1, 1) := by decide +kernel
theorem dL_law_793 : decode cL_law 793 = .ok (.aload_n 0, 1) := by decide +kernel
theorem dL_law_794 : decode cL_law 794 = .ok (.iload_n 3, 1) := by decide +kernel
theorem dL_law_795 : decode cL_law 795 = .ok (.iconst 1, 1) := by decide +kernel
theorem dL_law_796 : decode cL_law 796 = .ok (.iadd, 1) := by decide +kernel
theorem dL_law_797 : decode cL_law 797 = .ok (.iaload, 1) := by decide +kernel
theorem dL_law_798 : decode cL_law 798 = .ok (.aload_n 0, 1) := by decide +kernel
theorem dL_law_799 : decode cL_law 799 = .ok (.iload_n 3, 1) := by decide +kernel
theorem dL_law_800 : decode cL_law 800 = .ok (.iconst 2, 1) := by decide +kernel
theorem dL_law_801 : decode cL_law 801 = .ok (.iadd, 1) := by decide +kernel
theorem dL_law_802 : decode cL_law 802 = .ok (.iaload, 1) := by decide +kernel
theorem dL_law_803 : decode cL_law 803 = .ok (.aload_n 0, 1) := by decide +kernel
theorem dL_law_804 : decode cL_law 804 = .ok (.iload_n 3, 1) := by decide +kernel
theorem dL_law_805 : decode cL_law 805 = .ok (.iconst 3, 1) := by decide +kernel
theorem dL_law_806 : decode cL_law 806 = .ok (.iadd, 1) := by decide +kernel
theorem dL_law_807 : decode cL_law 807 = .ok (.iaload, 1) := by decide +kernel
theorem dL_law_808 : decode cL_law 808 = .ok (.invokevirtual 114, 3) := by decide +kernel
theorem dL_law_811 : decode cL_law 811 = .ok (.aload_n 2, 1) := by decide +kernel
theorem dL_law_812 : decode cL_law 812 = .ok (.aload_n 0, 1) := by decide +kernel
theorem dL_law_813 : decode cL_law 813 = .ok (.iload_n 3, 1) := by decide +kernel
theorem dL_law_814 : decode cL_law 814 = .ok (.iconst 1, 1) := by decide +kernel
theorem dL_law_815 : decode cL_law 815 = .ok (.iadd, 1) := by decide +kernel
theorem dL_law_816 : decode cL_law 816 = .ok (.iaload, 1) := by decide +kernel
theorem dL_law_817 : decode cL_law 817 = .ok (.aload_n 0, 1) := by decide +kernel
theorem dL_law_818 : decode cL_law 818 = .ok (.iload_n 3, 1) := by decide +kernel
theorem dL_law_819 : decode cL_law 819 = .ok (.iconst 2, 1) := by decide +kernel
theorem dL_law_820 : decode cL_law 820 = .ok (.iadd, 1) := by decide +kernel
theorem dL_law_821 : decode cL_law 821 = .ok (.iaload, 1) := by decide +kernel
theorem dL_law_822 : decode cL_law 822 = .ok (.aload_n 0, 1) := by decide +kernel
theorem dL_law_823 : decode cL_law 823 = .ok (.iload_n 3, 1) := by decide +kernel
theorem dL_law_824 : decode cL_law 824 = .ok (.iconst 3, 1) := by decide +kernel
theorem dL_law_825 : decode cL_law 825 = .ok (.iadd, 1) := by decide +kernel
theorem dL_law_826 : decode cL_law 826 = .ok (.iaload, 1) := by decide +kernel
theorem dL_law_827 : decode cL_law 827 = .ok (.invokevirtual 117, 3) := by decide +kernel
theorem dL_law_830 : decode cL_law 830 = .ok (.if_icmp .eq 54, 3) := by decide +kernel
theorem dL_law_833 : decode cL_law 833 = .ok (.iconst 0, 1) := by decide +kernel
theorem dL_law_834 : decode cL_law 834 = .ok (.ireturn, 1) := by decide +kernel
theorem dL_law_835 : decode cL_law 835 = .ok (.aload_n 1, 1) := by decide +kernel
theorem dL_law_836 : decode cL_law 836 = .ok (.invokevirtual 118, 3) := by decide +kernel
theorem dL_law_839 : decode cL_law 839 = .ok (.aload_n 2, 1) := by decide +kernel
theorem dL_law_840 : decode cL_law 840 = .ok (.invokevirtual 121, 3) := by decide +kernel
theorem dL_law_843 : decode cL_law 843 = .ok (.if_icmp .eq 41, 3) := by decide +kernel
theorem dL_law_846 : decode cL_law 846 = .ok (.iconst 0, 1) := by decide +kernel
theorem dL_law_847 : decode cL_law 847 = .ok (.ireturn, 1) := by decide +kernel
theorem dL_law_848 : decode cL_law 848 = .ok (.aload_n 1, 1) := by decide +kernel
theorem dL_law_849 : decode cL_law 849 = .ok (.invokevirtual 122, 3) := by decide +kernel
theorem dL_law_852 : decode cL_law 852 = .ok (.aload_n 2, 1) := by decide +kernel
theorem dL_law_853 : decode cL_law 853 = .ok (.invokevirtual 125, 3) := by decide +kernel
theorem dL_law_856 : decode cL_law 856 = .ok (.if_icmp .eq 28, 3) := by decide +kernel
theorem dL_law_859 : decode cL_law 859 = .ok (.iconst 0, 1) := by decide +kernel
theorem dL_law_860 : decode cL_law 860 = .ok (.ireturn, 1) := by decide +kernel
theorem dL_law_861 : decode cL_law 861 = .ok (.aload_n 1, 1) := by decide +kernel
theorem dL_law_862 : decode cL_law 862 = .ok (.aload_n 0, 1) := by decide +kernel
theorem dL_law_863 : decode cL_law 863 = .ok (.iload_n 3, 1) := by decide +kernel
theorem dL_law_864 : decode cL_law 864 = .ok (.iconst 1, 1) := by decide +kernel
theorem dL_law_865 : decode cL_law 865 = .ok (.iadd, 1) := by decide +kernel
theorem dL_law_866 : decode cL_law 866 = .ok (.iaload, 1) := by decide +kernel
theorem dL_law_867 : decode cL_law 867 = .ok (.invokevirtual 126, 3) := by decide +kernel
theorem dL_law_870 : decode cL_law 870 = .ok (.aload_n 2, 1) := by decide +kernel
theorem dL_law_871 : decode cL_law 871 = .ok (.aload_n 0, 1) := by decide +kernel
theorem dL_law_872 : decode cL_law 872 = .ok (.iload_n 3, 1) := by decide +kernel
theorem dL_law_873 : decode cL_law 873 = .ok (.iconst 1, 1) := by decide +kernel
theorem dL_law_874 : decode cL_law 874 = .ok (.iadd, 1) := by decide +kernel
theorem dL_law_875 : decode cL_law 875 = .ok (.iaload, 1) := by decide +kernel
theorem dL_law_876 : decode cL_law 876 = .ok (.invokevirtual 129, 3) := by decide +kernel
theorem dL_law_879 : decode cL_law 879 = .ok (.if_icmp .eq 5, 3) := by decide +kernel
theorem dL_law_882 : decode cL_law 882 = .ok (.iconst 0, 1) := by decide +kernel
theorem dL_law_883 : decode cL_law 883 = .ok (.ireturn, 1) := by decide +kernel
theorem dL_law_884 : decode cL_law 884 = .ok (.iinc 3 5, 3) := by decide +kernel
theorem dL_law_887 : decode cL_law 887 = .ok (.goto (-869), 3) := by decide +kernel
theorem dL_law_890 : decode cL_law 890 = .ok (.iconst 1, 1) := by decide +kernel
theorem dL_law_891 : decode cL_law 891 = .ok (.ireturn, 1) := by decide +kernel
abbrev vwCl : List vw_C := [(RX0, TX0, 4), (RX1, TX1, 12), (RX2, TX2, 4), (RX3, TX3, 12), (RX4, TX4, 22)]
end
section
/-! the pure side: a memory of ints by cell and place; named values, joins, loops -/
abbrev St : Type := Nat → Nat → Int32
def w2 (σ : St) (k j : Nat) (v : Int32) : St := va_up σ k (upd (σ k) j v)
def nm {α β : Type} (x : α) (f : α → Option β) : Option β := f x
def jn {β γ : Type} (rest : β → Option γ) (main : (β → Option γ) → Option γ) : Option γ := main rest
def lp {β γ : Type} (body : (β → Option γ) → β → Option γ) : Nat → β → Option γ
  | 0, _ => none
  | n + 1, b => body (lp body n) b
theorem nm_elim {α β : Type} {x : α} {f : α → Option β} {r : Option β} (h : nm x f = r) : ∃ y, y = x ∧ f y = r := ⟨x, rfl, h⟩
theorem jn_elim {β γ : Type} {rest : β → Option γ} {main : (β → Option γ) → Option γ} {r : γ} (h : jn rest main = some r) : ∃ k : β → Option γ, (∀ q, k q = some r → rest q = some r) ∧ main k = some r := ⟨rest, fun _ h => h, h⟩
theorem lp_ind {β γ : Type} {body : (β → Option γ) → β → Option γ} {r : γ} (P : β → Prop) (hs : ∀ rec : β → Option γ, (∀ b, rec b = some r → P b) → ∀ b, body rec b = some r → P b) : ∀ (n : Nat) (b : β), lp body n b = some r → P b := by
  intro n
  induction n with
  | zero => intro b h; cases h
  | succ n ih => intro b h; exact hs (lp body n) ih b h
theorem bind_elim {α β : Type} {x : Option α} {f : α → Option β} {r : β} (h : x.bind f = some r) : ∃ y, x = some y ∧ f y = some r := by
  cases x with
  | none => cases h
  | some y => exact ⟨y, rfl, h⟩
theorem ite_elim {c : Prop} [Decidable c] {γ : Type} {a b : Option γ} {r : γ} (h : (if c then a else b) = some r) : (c ∧ a = some r) ∨ (¬ c ∧ b = some r) := by
  by_cases hc : c
  · rw [if_pos hc] at h; exact Or.inl ⟨hc, h⟩
  · rw [if_neg hc] at h; exact Or.inr ⟨hc, h⟩
theorem grd_elim {c : Prop} [Decidable c] {γ : Type} {b : Option γ} {r : γ} (h : (if c then none else b) = some r) : ¬ c ∧ b = some r := by
  by_cases hc : c
  · rw [if_pos hc] at h; cases h
  · rw [if_neg hc] at h; exact ⟨hc, h⟩
theorem onul_elim {α γ : Type} {x : Option α} {a : Option γ} {f : α → Option γ} {r : γ} (h : (match x with | none => a | some y => f y) = some r) : (x = none ∧ a = some r) ∨ ∃ y, x = some y ∧ f y = some r := by
  cases x with
  | none => exact Or.inl ⟨rfl, h⟩
  | some y => exact Or.inr ⟨y, rfl, h⟩
/-! the world as a list -/
abbrev Lay : Type := Nat → (Nat → Int32) → va_E
abbrev En : Type := va_G × ClassId × ClassId × ClassId
def wl (ad : Nat → Nat) (G : Lay) (n : Nat) (σ : St) : va_W := (List.range n).map (fun k => (ad k, G k (σ k)))
theorem wl_get {ad : Nat → Nat} {G : Lay} {n k : Nat} {σ : St} (h : k < n) : (wl ad G n σ)[k]? = some (ad k, G k (σ k)) := by
  simp [wl, h]
theorem wl_of {ad : Nat → Nat} {G : Lay} {n k : Nat} {σ : St} {q : Nat × va_E} (h : (wl ad G n σ)[k]? = some q) : k < n ∧ q = (ad k, G k (σ k)) := by
  by_cases hk : k < n
  · rw [wl_get hk] at h
    exact ⟨hk, (Option.some.inj h).symm⟩
  · simp [wl, hk] at h
theorem wl_set {ad : Nat → Nat} {G : Lay} {n k : Nat} {σ : St} (h : k < n) (f : Nat → Int32) : (wl ad G n σ).set k (ad k, G k f) = wl ad G n (va_up σ k f) := by
  apply List.ext_getElem?
  intro i
  have hl : (wl ad G n σ).length = n := by simp [wl]
  by_cases hi : i < n
  · rw [wl_get hi, List.getElem?_set]
    by_cases hk : k = i
    · subst hk
      simp [hl, h, va_up]
    · rw [if_neg hk, wl_get hi]
      have : ¬ i = k := fun q => hk q.symm
      simp [va_up, this]
  · have h1 : ¬ i < ((wl ad G n σ).set k (ad k, G k f)).length := by rw [List.length_set, hl]; exact hi
    have h2 : ¬ i < (wl ad G n (va_up σ k f)).length := by simp [wl]; omega
    rw [List.getElem?_eq_none (by omega), List.getElem?_eq_none (by omega)]
def tysE (E : En) : List (ClassId × FieldType) := [(E.2.1, .int), (E.2.2.1, .byte), (E.2.2.2, .object RX1)]
def nestL : List (String × Nat × MethodName × String) := [(RX2, 26, yX3_put, RX3), (RX2, 91, yX3_at, RX3), (RX1, 70, yX3_put, RX3), (RX1, 53, yX3_at, RX3), (RX1, 49, yX3_copyRow, RX3), (RX1, 92, yX3_swap, RX3), (RX0, 25, yX3_put, RX3), (RX0, 29, yX3_at, RX3)]
def NWs (U : State) : Prop := ∀ q ∈ nestL, va_Nw (.methodLinkNest q.1 q.2.1 q.2.2.1 q.2.2.2) U
theorem NWs.warm {s U : State} (hW : s.WarmedH U.vm) (h : NWs s) : NWs U := fun q hq => va_Nw.warmM hW (h q hq)
theorem NWs.same {u U : State} (h : u.vm = U.vm) (hn : NWs u) : NWs U := fun q hq => va_Nw.same rfl h (hn q hq)
def WP (E : En) (ad : Nat → Nat) (G : Lay) (n : Nat) (σ : St) : State → Prop := fun U => va_P E.1 vwCl (wl ad G n σ) U.heap ∧ va_K E.1 vwCl (tysE E) U ∧ NWs U
def adA (ad : Nat → Nat) (n : Nat) : Nat → Prop := fun q => ∃ k, k < n ∧ q = ad k
def adI (ad : Nat → Nat) (n : Nat) : Prop := ∀ i j, i < n → j < n → ad i = ad j → i = j
theorem wl_D {ad : Nat → Nat} {G : Lay} {n : Nat} {σ : St} (h : adI ad n) : va_D (adA ad n) (wl ad G n σ) := by
  refine ⟨fun i j p q hi hj hpq => ?_, fun k q hk => ?_⟩
  · obtain ⟨h1, rfl⟩ := wl_of hi
    obtain ⟨h2, rfl⟩ := wl_of hj
    exact h i j h1 h2 hpq
  · obtain ⟨h1, rfl⟩ := wl_of hk
    exact ⟨k, h1, rfl⟩
def mQ (E : En) (ad : Nat → Nat) (G : Lay) (n : Nat) (o : Option Value) (σ' : St) : Array Value → State → Outcome → State → Prop := fun _ st oc t => oc = .returned o ∧ va_P E.1 vwCl (wl ad G n σ') t.heap ∧ va_F (adA ad n) st t
def rmh (h : Nat) : Room := { frames := h, cells := 0, slots := 0, locals := 40 * h }
def gtbl : List Cond := lw_tbl.filter goodWord
theorem gtbl_of {w : Cond} (h : w ∈ lw_tbl) (hg : goodWord w = true) : w ∈ gtbl := List.mem_filter.mpr ⟨h, hg⟩
theorem gtbl_good : GoodIn gtbl gtbl := fun w h => ⟨h, good_of_word (List.mem_filter.mp h).2⟩
def Ct (l : Launch) (y : MethodName) (cc : ByteArray) (maxL : Nat) (ret : Option FieldType) (h : Nat) (E : En) (ad : Nat → Nat) (G : Lay) (n : Nat) (avs : List Value) (σ : St) (o : Option Value) (σ' : St) : Prop :=
  Met l y (.code y cc maxL ret :: gtbl) (rmh h) (va_Pc avs (WP E ad G n σ)) (mQ E ad G n o σ') 0 0 (adA ad n)
def Fx (p : Program) (s : State) (m : MethodId) (args : Array Value) (meth : Method) (c : Code) (cc : ByteArray) (nL : Nat) (own : String) (E : En) (ad : Nat → Nat) (n : Nat) (ret : Option FieldType) : Prop :=
  p.tables.exec = Jvm.exec ∧ c.code = cc ∧ c.maxLocals = nL ∧ s.vm.findClass own = some m.cls ∧ (∀ w ∈ gtbl, w.before args s = true) ∧ NWs s ∧ va_K E.1 vwCl (tysE E) s ∧ adI ad n ∧ meth.sig.returnType = ret ∧ meth.locks = false
def J (p : Program) (l : Launch) (e : Env) (h : Nat) (s : State) (m : MethodId) (args : Array Value) (below : List Frame) (meth : Method) (c : Code) (E : En) (ad : Nat → Nat) (G : Lay) (n : Nat) (Q : State → Prop) (nL : Nat) (σ : St) (pc : Nat) (lv : List (Nat × Value)) (st : List Value) : Prop :=
  ∀ (H : Heap) (locs : List Loc) (ls : Array Slot), lv_has ls nL lv → va_P E.1 vwCl (wl ad G n σ) H → va_S (adA ad n) s.heap H locs → W p l e (rmh h) s m args below meth c H locs 0 0 Q (F0 m pc ls st)
theorem WP_blind {avs : List Value} {E : En} {ad : Nat → Nat} {G : Lay} {n : Nat} {σ : St} : FrameBlind (va_Pc avs (WP E ad G n σ)) := fun a U g mk q => by
  obtain ⟨q0, q1, q2, q3⟩ := q
  exact ⟨q0, q1, va_K.moved (u := U) (U := U.calling g mk a) (Vm.Alike.refl U.vm) q2, NWs.same (u := U) rfl q3⟩
theorem J_start {l : Launch} {y : MethodName} {cc : ByteArray} {maxL : Nat} {ret : Option FieldType} {h : Nat} {E : En} {ad : Nat → Nat} {G : Lay} {n : Nat} {avs : List Value} {σ σ' : St} {o : Option Value} {lv : List (Nat × Value)} {own : String} (hy : plainName own = true) (ho : y.cls = own) (hI : adI ad n) (hlen : (lg_sl avs).length ≤ maxL) (hlv : lv_args 0 avs = lv)
    (body : ∀ (p : Program) (e : Env) (s : State) (m : MethodId) (args : Array Value) (below : List Frame) (meth : Method) (c : Code), Fx p s m args meth c cc maxL own E ad n ret → J p l e h s m args below meth c E ad G n (MQ below (mQ E ad G n o σ') args s 0 0 (adA ad n)) maxL σ 0 lv []) : Ct l y cc maxL ret h E ad G n avs σ o σ' := by
  subst ho
  refine Met.ofW (cc := cc) (maxL := maxL) (ret := ret) hy rfl ?_
  intro p e s m args below meth c s₁ B hml hv
  obtain ⟨rfl, hP, hK, hN⟩ := hv
  have hts := atoms_spec (ws := .code y cc maxL ret :: gtbl) B.pre
  have K := body p e s m avs.toArray below meth c ⟨B.exec, B.bytes, hml, findClass_of_methodNamed B.named, fun w hw => hts w (List.mem_cons_of_mem _ hw), hN, hK, hI, B.returns, B.notSynchronized⟩
  have hl := lv_entry avs (n := maxL) hlen
  rw [hlv] at hl
  rw [lg_entry_eq]
  exact K s.heap [] _ hl hP va_S.rf
section JR
variable {p : Program} {l : Launch} {e : Env} {h : Nat} {s : State} {m : MethodId} {args : Array Value} {below : List Frame} {meth : Method} {c : Code} {E : En} {ad : Nat → Nat} {G : Lay} {n : Nat} {Q : State → Prop} {nL : Nat} {σ : St} {pc : Nat} {lv : List (Nat × Value)} {st : List Value} {cc : ByteArray} {own : String} {ret : Option FieldType}
theorem J_sub {lv' : List (Nat × Value)} (ks : List Nat) (hl : lv_pick lv ks = lv') (kk : J p l e h s m args below meth c E ad G n Q nL σ pc lv' st) : J p l e h s m args below meth c E ad G n Q nL σ pc lv st := fun H locs ls hls hP hS => kk H locs ls (lv_sub hls ks hl) hP hS
theorem J_ti {x y : Int32} (he : y = x) (kk : J p l e h s m args below meth c E ad G n Q nL σ pc lv (.int y :: st)) : J p l e h s m args below meth c E ad G n Q nL σ pc lv (.int x :: st) := he ▸ kk
theorem J_tl {x y : Int64} (he : y = x) (kk : J p l e h s m args below meth c E ad G n Q nL σ pc lv (.long y :: st)) : J p l e h s m args below meth c E ad G n Q nL σ pc lv (.long x :: st) := he ▸ kk
theorem J_iconst (F : Fx p s m args meth c cc nL own E ad n ret) {k : Int} {v : Int32} (hdg : decode cc pc = .ok (.iconst k, 1)) (hv : Int32.ofInt k = v) (kk : J p l e h s m args below meth c E ad G n Q nL σ (pc + 1) lv (.int v :: st)) : J p l e h s m args below meth c E ad G n Q nL σ pc lv st := fun H locs ls hls hP hS => lv_iconst F.1 F.2.1 hdg hv (kk H locs ls hls hP hS)
theorem J_bipush (F : Fx p s m args meth c cc nL own E ad n ret) {k : Int} {v : Int32} (hdg : decode cc pc = .ok (.bipush k, 2)) (hv : (Int8.ofInt k).toInt32 = v) (kk : J p l e h s m args below meth c E ad G n Q nL σ (pc + 2) lv (.int v :: st)) : J p l e h s m args below meth c E ad G n Q nL σ pc lv st := fun H locs ls hls hP hS => lv_bipush F.1 F.2.1 hdg hv (kk H locs ls hls hP hS)
theorem J_sipush (F : Fx p s m args meth c cc nL own E ad n ret) {k : Int} {v : Int32} (hdg : decode cc pc = .ok (.sipush k, 3)) (hv : (Int16.ofInt k).toInt32 = v) (kk : J p l e h s m args below meth c E ad G n Q nL σ (pc + 3) lv (.int v :: st)) : J p l e h s m args below meth c E ad G n Q nL σ pc lv st := fun H locs ls hls hP hS => lv_sipush F.1 F.2.1 hdg hv (kk H locs ls hls hP hS)
theorem J_lconst (F : Fx p s m args meth c cc nL own E ad n ret) {k : Fin 2} {v : Int64} (hdg : decode cc pc = .ok (.lconst k, 1)) (hv : Int64.ofNat (k : Nat) = v) (kk : J p l e h s m args below meth c E ad G n Q nL σ (pc + 1) lv (.long v :: st)) : J p l e h s m args below meth c E ad G n Q nL σ pc lv st := fun H locs ls hls hP hS => lv_lconst F.1 F.2.1 hdg hv (kk H locs ls hls hP hS)
theorem J_ldc2 (F : Fx p s m args meth c cc nL own E ad n ret) {k : Nat} {v : Int64} (hw : Cond.constantLong own k v ∈ gtbl) (hdg : decode cc pc = .ok (.ldc2_w k, 3)) (kk : J p l e h s m args below meth c E ad G n Q nL σ (pc + 3) lv (.long v :: st)) : J p l e h s m args below meth c E ad G n Q nL σ pc lv st := fun H locs ls hls hP hS => lv_ldc2 F.1 F.2.1 F.2.2.2.1 (F.2.2.2.2.1 _ hw) hdg (kk H locs ls hls hP hS)
theorem J_iload_n (F : Fx p s m args meth c cc nL own E ad n ret) {k : Fin 4} {i : Nat} {x : Int32} (hdg : decode cc pc = .ok (.iload_n k, 1)) (hi : (k : Nat) = i) (j : Nat) (hl : lv[j]? = some (i, .int x)) (kk : J p l e h s m args below meth c E ad G n Q nL σ (pc + 1) lv (.int x :: st)) : J p l e h s m args below meth c E ad G n Q nL σ pc lv st := fun H locs ls hls hP hS => lv_iload_n F.1 F.2.1 hdg hi (lv_at hls j hl) (kk H locs ls hls hP hS)
theorem J_iload (F : Fx p s m args meth c cc nL own E ad n ret) {i : Nat} {x : Int32} (hdg : decode cc pc = .ok (.iload i, 2)) (j : Nat) (hl : lv[j]? = some (i, .int x)) (kk : J p l e h s m args below meth c E ad G n Q nL σ (pc + 2) lv (.int x :: st)) : J p l e h s m args below meth c E ad G n Q nL σ pc lv st := fun H locs ls hls hP hS => lv_iload F.1 F.2.1 hdg (lv_at hls j hl) (kk H locs ls hls hP hS)
theorem J_lload_n (F : Fx p s m args meth c cc nL own E ad n ret) {k : Fin 4} {i : Nat} {x : Int64} (hdg : decode cc pc = .ok (.lload_n k, 1)) (hi : (k : Nat) = i) (j : Nat) (hl : lv[j]? = some (i, .long x)) (kk : J p l e h s m args below meth c E ad G n Q nL σ (pc + 1) lv (.long x :: st)) : J p l e h s m args below meth c E ad G n Q nL σ pc lv st := fun H locs ls hls hP hS => lv_lload_n F.1 F.2.1 hdg hi (lv_at hls j hl) (kk H locs ls hls hP hS)
theorem J_lload (F : Fx p s m args meth c cc nL own E ad n ret) {i : Nat} {x : Int64} (hdg : decode cc pc = .ok (.lload i, 2)) (j : Nat) (hl : lv[j]? = some (i, .long x)) (kk : J p l e h s m args below meth c E ad G n Q nL σ (pc + 2) lv (.long x :: st)) : J p l e h s m args below meth c E ad G n Q nL σ pc lv st := fun H locs ls hls hP hS => lv_lload F.1 F.2.1 hdg (lv_at hls j hl) (kk H locs ls hls hP hS)
theorem J_aload_n (F : Fx p s m args meth c cc nL own E ad n ret) {k : Fin 4} {i : Nat} {x : Nat} (hdg : decode cc pc = .ok (.aload_n k, 1)) (hi : (k : Nat) = i) (j : Nat) (hl : lv[j]? = some (i, .ref x)) (kk : J p l e h s m args below meth c E ad G n Q nL σ (pc + 1) lv (.ref x :: st)) : J p l e h s m args below meth c E ad G n Q nL σ pc lv st := fun H locs ls hls hP hS => lv_aload_n F.1 F.2.1 hdg hi (lv_at hls j hl) (kk H locs ls hls hP hS)
theorem J_aload (F : Fx p s m args meth c cc nL own E ad n ret) {i : Nat} {x : Nat} (hdg : decode cc pc = .ok (.aload i, 2)) (j : Nat) (hl : lv[j]? = some (i, .ref x)) (kk : J p l e h s m args below meth c E ad G n Q nL σ (pc + 2) lv (.ref x :: st)) : J p l e h s m args below meth c E ad G n Q nL σ pc lv st := fun H locs ls hls hP hS => lv_aload F.1 F.2.1 hdg (lv_at hls j hl) (kk H locs ls hls hP hS)
theorem J_aload_nN (F : Fx p s m args meth c cc nL own E ad n ret) {k : Fin 4} {i : Nat} (hdg : decode cc pc = .ok (.aload_n k, 1)) (hi : (k : Nat) = i) (j : Nat) (hl : lv[j]? = some (i, .null)) (kk : J p l e h s m args below meth c E ad G n Q nL σ (pc + 1) lv (.null :: st)) : J p l e h s m args below meth c E ad G n Q nL σ pc lv st := fun H locs ls hls hP hS => lv_aload_nN F.1 F.2.1 hdg hi (lv_at hls j hl) (kk H locs ls hls hP hS)
theorem J_aloadN (F : Fx p s m args meth c cc nL own E ad n ret) {i : Nat} (hdg : decode cc pc = .ok (.aload i, 2)) (j : Nat) (hl : lv[j]? = some (i, .null)) (kk : J p l e h s m args below meth c E ad G n Q nL σ (pc + 2) lv (.null :: st)) : J p l e h s m args below meth c E ad G n Q nL σ pc lv st := fun H locs ls hls hP hS => lv_aloadN F.1 F.2.1 hdg (lv_at hls j hl) (kk H locs ls hls hP hS)
theorem J_istore_n (F : Fx p s m args meth c cc nL own E ad n ret) {k : Fin 4} {i : Nat} {x : Int32} {lv' : List (Nat × Value)} (hdg : decode cc pc = .ok (.istore_n k, 1)) (hi : (k : Nat) = i) (hn : i < nL) (hl : (i, Value.int x) :: lv.filter (fun q => !(q.1 == i) && !(q.1 + 1 == i && q.2.category == 2)) = lv') (kk : J p l e h s m args below meth c E ad G n Q nL σ (pc + 1) lv' st) : J p l e h s m args below meth c E ad G n Q nL σ pc lv (.int x :: st) := fun H locs ls hls hP hS => lv_istore_n F.1 F.2.1 hdg hi hls hn hl (fun ls' h' => kk H locs ls' h' hP hS)
theorem J_istore (F : Fx p s m args meth c cc nL own E ad n ret) {i : Nat} {x : Int32} {lv' : List (Nat × Value)} (hdg : decode cc pc = .ok (.istore i, 2)) (hn : i < nL) (hl : (i, Value.int x) :: lv.filter (fun q => !(q.1 == i) && !(q.1 + 1 == i && q.2.category == 2)) = lv') (kk : J p l e h s m args below meth c E ad G n Q nL σ (pc + 2) lv' st) : J p l e h s m args below meth c E ad G n Q nL σ pc lv (.int x :: st) := fun H locs ls hls hP hS => lv_istore F.1 F.2.1 hdg hls hn hl (fun ls' h' => kk H locs ls' h' hP hS)
theorem J_lstore_n (F : Fx p s m args meth c cc nL own E ad n ret) {k : Fin 4} {i : Nat} {x : Int64} {lv' : List (Nat × Value)} (hdg : decode cc pc = .ok (.lstore_n k, 1)) (hi : (k : Nat) = i) (hn : i + 1 < nL) (hl : (i, Value.long x) :: lv.filter (fun q => !(q.1 == i) && (!(q.1 == i + 1) && !(q.1 + 1 == i && q.2.category == 2))) = lv') (kk : J p l e h s m args below meth c E ad G n Q nL σ (pc + 1) lv' st) : J p l e h s m args below meth c E ad G n Q nL σ pc lv (.long x :: st) := fun H locs ls hls hP hS => lv_lstore_n F.1 F.2.1 hdg hi hls hn hl (fun ls' h' => kk H locs ls' h' hP hS)
theorem J_lstore (F : Fx p s m args meth c cc nL own E ad n ret) {i : Nat} {x : Int64} {lv' : List (Nat × Value)} (hdg : decode cc pc = .ok (.lstore i, 2)) (hn : i + 1 < nL) (hl : (i, Value.long x) :: lv.filter (fun q => !(q.1 == i) && (!(q.1 == i + 1) && !(q.1 + 1 == i && q.2.category == 2))) = lv') (kk : J p l e h s m args below meth c E ad G n Q nL σ (pc + 2) lv' st) : J p l e h s m args below meth c E ad G n Q nL σ pc lv (.long x :: st) := fun H locs ls hls hP hS => lv_lstore F.1 F.2.1 hdg hls hn hl (fun ls' h' => kk H locs ls' h' hP hS)
theorem J_astore_n (F : Fx p s m args meth c cc nL own E ad n ret) {k : Fin 4} {i : Nat} {x : Nat} {lv' : List (Nat × Value)} (hdg : decode cc pc = .ok (.astore_n k, 1)) (hi : (k : Nat) = i) (hn : i < nL) (hl : (i, Value.ref x) :: lv.filter (fun q => !(q.1 == i) && !(q.1 + 1 == i && q.2.category == 2)) = lv') (kk : J p l e h s m args below meth c E ad G n Q nL σ (pc + 1) lv' st) : J p l e h s m args below meth c E ad G n Q nL σ pc lv (.ref x :: st) := fun H locs ls hls hP hS => lv_astore_n F.1 F.2.1 hdg hi hls hn hl (fun ls' h' => kk H locs ls' h' hP hS)
theorem J_astore (F : Fx p s m args meth c cc nL own E ad n ret) {i : Nat} {x : Nat} {lv' : List (Nat × Value)} (hdg : decode cc pc = .ok (.astore i, 2)) (hn : i < nL) (hl : (i, Value.ref x) :: lv.filter (fun q => !(q.1 == i) && !(q.1 + 1 == i && q.2.category == 2)) = lv') (kk : J p l e h s m args below meth c E ad G n Q nL σ (pc + 2) lv' st) : J p l e h s m args below meth c E ad G n Q nL σ pc lv (.ref x :: st) := fun H locs ls hls hP hS => lv_astore F.1 F.2.1 hdg hls hn hl (fun ls' h' => kk H locs ls' h' hP hS)
theorem J_astore_nN (F : Fx p s m args meth c cc nL own E ad n ret) {k : Fin 4} {i : Nat} {lv' : List (Nat × Value)} (hdg : decode cc pc = .ok (.astore_n k, 1)) (hi : (k : Nat) = i) (hn : i < nL) (hl : (i, Value.null) :: lv.filter (fun q => !(q.1 == i) && !(q.1 + 1 == i && q.2.category == 2)) = lv') (kk : J p l e h s m args below meth c E ad G n Q nL σ (pc + 1) lv' st) : J p l e h s m args below meth c E ad G n Q nL σ pc lv (.null :: st) := fun H locs ls hls hP hS => lv_astore_nN F.1 F.2.1 hdg hi hls hn hl (fun ls' h' => kk H locs ls' h' hP hS)
theorem J_astoreN (F : Fx p s m args meth c cc nL own E ad n ret) {i : Nat} {lv' : List (Nat × Value)} (hdg : decode cc pc = .ok (.astore i, 2)) (hn : i < nL) (hl : (i, Value.null) :: lv.filter (fun q => !(q.1 == i) && !(q.1 + 1 == i && q.2.category == 2)) = lv') (kk : J p l e h s m args below meth c E ad G n Q nL σ (pc + 2) lv' st) : J p l e h s m args below meth c E ad G n Q nL σ pc lv (.null :: st) := fun H locs ls hls hP hS => lv_astoreN F.1 F.2.1 hdg hls hn hl (fun ls' h' => kk H locs ls' h' hP hS)
theorem J_iinc (F : Fx p s m args meth c cc nL own E ad n ret) {i : Nat} {z : Int} {x v : Int32} {lv' : List (Nat × Value)} (hdg : decode cc pc = .ok (.iinc i z, 3)) (k : Nat) (hk : lv[k]? = some (i, .int x)) (hv : v = x + Int32.ofInt z) (hn : i < nL) (hl : (i, Value.int v) :: lv.filter (fun q => !(q.1 == i) && !(q.1 + 1 == i && q.2.category == 2)) = lv') (kk : J p l e h s m args below meth c E ad G n Q nL σ (pc + 3) lv' st) : J p l e h s m args below meth c E ad G n Q nL σ pc lv st := fun H locs ls hls hP hS => lv_iinc F.1 F.2.1 hdg hls hk hv.symm hn hl (fun ls' h' => kk H locs ls' h' hP hS)
theorem J_iadd (F : Fx p s m args meth c cc nL own E ad n ret) {x y : Int32} (hdg : decode cc pc = .ok (.iadd, 1))  (kk : J p l e h s m args below meth c E ad G n Q nL σ (pc + 1) lv (.int (x + y) :: st)) : J p l e h s m args below meth c E ad G n Q nL σ pc lv (.int y :: .int x :: st) := fun H locs ls hls hP hS => lv_iadd F.1 F.2.1 hdg  (kk H locs ls hls hP hS)
theorem J_isub (F : Fx p s m args meth c cc nL own E ad n ret) {x y : Int32} (hdg : decode cc pc = .ok (.isub, 1))  (kk : J p l e h s m args below meth c E ad G n Q nL σ (pc + 1) lv (.int (x - y) :: st)) : J p l e h s m args below meth c E ad G n Q nL σ pc lv (.int y :: .int x :: st) := fun H locs ls hls hP hS => lv_isub F.1 F.2.1 hdg  (kk H locs ls hls hP hS)
theorem J_imul (F : Fx p s m args meth c cc nL own E ad n ret) {x y : Int32} (hdg : decode cc pc = .ok (.imul, 1))  (kk : J p l e h s m args below meth c E ad G n Q nL σ (pc + 1) lv (.int (x * y) :: st)) : J p l e h s m args below meth c E ad G n Q nL σ pc lv (.int y :: .int x :: st) := fun H locs ls hls hP hS => lv_imul F.1 F.2.1 hdg  (kk H locs ls hls hP hS)
theorem J_iand (F : Fx p s m args meth c cc nL own E ad n ret) {x y : Int32} (hdg : decode cc pc = .ok (.iand, 1))  (kk : J p l e h s m args below meth c E ad G n Q nL σ (pc + 1) lv (.int (x &&& y) :: st)) : J p l e h s m args below meth c E ad G n Q nL σ pc lv (.int y :: .int x :: st) := fun H locs ls hls hP hS => lv_iand F.1 F.2.1 hdg  (kk H locs ls hls hP hS)
theorem J_ior (F : Fx p s m args meth c cc nL own E ad n ret) {x y : Int32} (hdg : decode cc pc = .ok (.ior, 1))  (kk : J p l e h s m args below meth c E ad G n Q nL σ (pc + 1) lv (.int (x ||| y) :: st)) : J p l e h s m args below meth c E ad G n Q nL σ pc lv (.int y :: .int x :: st) := fun H locs ls hls hP hS => lv_ior F.1 F.2.1 hdg  (kk H locs ls hls hP hS)
theorem J_ixor (F : Fx p s m args meth c cc nL own E ad n ret) {x y : Int32} (hdg : decode cc pc = .ok (.ixor, 1))  (kk : J p l e h s m args below meth c E ad G n Q nL σ (pc + 1) lv (.int (x ^^^ y) :: st)) : J p l e h s m args below meth c E ad G n Q nL σ pc lv (.int y :: .int x :: st) := fun H locs ls hls hP hS => lv_ixor F.1 F.2.1 hdg  (kk H locs ls hls hP hS)
theorem J_ishl (F : Fx p s m args meth c cc nL own E ad n ret) {x y : Int32} (hdg : decode cc pc = .ok (.ishl, 1))  (kk : J p l e h s m args below meth c E ad G n Q nL σ (pc + 1) lv (.int (x <<< (y &&& 31)) :: st)) : J p l e h s m args below meth c E ad G n Q nL σ pc lv (.int y :: .int x :: st) := fun H locs ls hls hP hS => lv_ishl F.1 F.2.1 hdg  (kk H locs ls hls hP hS)
theorem J_ishr (F : Fx p s m args meth c cc nL own E ad n ret) {x y : Int32} (hdg : decode cc pc = .ok (.ishr, 1))  (kk : J p l e h s m args below meth c E ad G n Q nL σ (pc + 1) lv (.int (x >>> (y &&& 31)) :: st)) : J p l e h s m args below meth c E ad G n Q nL σ pc lv (.int y :: .int x :: st) := fun H locs ls hls hP hS => lv_ishr F.1 F.2.1 hdg  (kk H locs ls hls hP hS)
theorem J_idiv (F : Fx p s m args meth c cc nL own E ad n ret) {x y : Int32} (hdg : decode cc pc = .ok (.idiv, 1)) (hne : ¬ y = 0) (kk : J p l e h s m args below meth c E ad G n Q nL σ (pc + 1) lv (.int (x / y) :: st)) : J p l e h s m args below meth c E ad G n Q nL σ pc lv (.int y :: .int x :: st) := fun H locs ls hls hP hS => lv_idiv F.1 F.2.1 hdg hne (kk H locs ls hls hP hS)
theorem J_irem (F : Fx p s m args meth c cc nL own E ad n ret) {x y : Int32} (hdg : decode cc pc = .ok (.irem, 1)) (hne : ¬ y = 0) (kk : J p l e h s m args below meth c E ad G n Q nL σ (pc + 1) lv (.int (x - x / y * y) :: st)) : J p l e h s m args below meth c E ad G n Q nL σ pc lv (.int y :: .int x :: st) := fun H locs ls hls hP hS => lv_irem F.1 F.2.1 hdg hne (kk H locs ls hls hP hS)
theorem J_ladd (F : Fx p s m args meth c cc nL own E ad n ret) {x y : Int64} (hdg : decode cc pc = .ok (.ladd, 1))  (kk : J p l e h s m args below meth c E ad G n Q nL σ (pc + 1) lv (.long (x + y) :: st)) : J p l e h s m args below meth c E ad G n Q nL σ pc lv (.long y :: .long x :: st) := fun H locs ls hls hP hS => lv_ladd F.1 F.2.1 hdg  (kk H locs ls hls hP hS)
theorem J_lmul (F : Fx p s m args meth c cc nL own E ad n ret) {x y : Int64} (hdg : decode cc pc = .ok (.lmul, 1))  (kk : J p l e h s m args below meth c E ad G n Q nL σ (pc + 1) lv (.long (x * y) :: st)) : J p l e h s m args below meth c E ad G n Q nL σ pc lv (.long y :: .long x :: st) := fun H locs ls hls hP hS => lv_lmul F.1 F.2.1 hdg  (kk H locs ls hls hP hS)
theorem J_lrem (F : Fx p s m args meth c cc nL own E ad n ret) {x y : Int64} (hdg : decode cc pc = .ok (.lrem, 1)) (hne : ¬ y = 0) (kk : J p l e h s m args below meth c E ad G n Q nL σ (pc + 1) lv (.long (x - x / y * y) :: st)) : J p l e h s m args below meth c E ad G n Q nL σ pc lv (.long y :: .long x :: st) := fun H locs ls hls hP hS => lv_lrem F.1 F.2.1 hdg hne (kk H locs ls hls hP hS)
theorem J_iushr (F : Fx p s m args meth c cc nL own E ad n ret) {x y : Int32} (hdg : decode cc pc = .ok (.iushr, 1)) (kk : J p l e h s m args below meth c E ad G n Q nL σ (pc + 1) lv (.int ((x.toUInt32 >>> (y.toUInt32 &&& Int32.toUInt32 31)).toInt32) :: st)) : J p l e h s m args below meth c E ad G n Q nL σ pc lv (.int y :: .int x :: st) := fun H locs ls hls hP hS => lv_iushr F.1 F.2.1 hdg rfl (kk H locs ls hls hP hS)
theorem J_ineg (F : Fx p s m args meth c cc nL own E ad n ret) {x : Int32} (hdg : decode cc pc = .ok (.ineg, 1)) (kk : J p l e h s m args below meth c E ad G n Q nL σ (pc + 1) lv (.int (-x) :: st)) : J p l e h s m args below meth c E ad G n Q nL σ pc lv (.int x :: st) := fun H locs ls hls hP hS => lv_ineg F.1 F.2.1 hdg (kk H locs ls hls hP hS)
theorem J_i2l (F : Fx p s m args meth c cc nL own E ad n ret) {x : Int32} (hdg : decode cc pc = .ok (.i2l, 1)) (kk : J p l e h s m args below meth c E ad G n Q nL σ (pc + 1) lv (.long x.toInt64 :: st)) : J p l e h s m args below meth c E ad G n Q nL σ pc lv (.int x :: st) := fun H locs ls hls hP hS => lv_i2l F.1 F.2.1 hdg rfl (kk H locs ls hls hP hS)
theorem J_l2i (F : Fx p s m args meth c cc nL own E ad n ret) {x : Int64} (hdg : decode cc pc = .ok (.l2i, 1)) (kk : J p l e h s m args below meth c E ad G n Q nL σ (pc + 1) lv (.int x.toInt32 :: st)) : J p l e h s m args below meth c E ad G n Q nL σ pc lv (.long x :: st) := fun H locs ls hls hP hS => lv_l2i F.1 F.2.1 hdg rfl (kk H locs ls hls hP hS)
theorem J_i2b (F : Fx p s m args meth c cc nL own E ad n ret) {x : Int32} (hdg : decode cc pc = .ok (.i2b, 1)) (kk : J p l e h s m args below meth c E ad G n Q nL σ (pc + 1) lv (.int x.toInt8.toInt32 :: st)) : J p l e h s m args below meth c E ad G n Q nL σ pc lv (.int x :: st) := fun H locs ls hls hP hS => lv_i2b F.1 F.2.1 hdg rfl (kk H locs ls hls hP hS)
theorem J_lcmp (F : Fx p s m args meth c cc nL own E ad n ret) {x y : Int64} (hdg : decode cc pc = .ok (.lcmp, 1)) (kk : J p l e h s m args below meth c E ad G n Q nL σ (pc + 1) lv (.int (lg_cmp x y) :: st)) : J p l e h s m args below meth c E ad G n Q nL σ pc lv (.long y :: .long x :: st) := fun H locs ls hls hP hS => W.lcmp F.1 F.2.1 hdg (kk H locs ls hls hP hS)
theorem J_dup (F : Fx p s m args meth c cc nL own E ad n ret) {v : Value} (hdg : decode cc pc = .ok (.dup, 1)) (hv : v.category = 1) (kk : J p l e h s m args below meth c E ad G n Q nL σ (pc + 1) lv (v :: v :: st)) : J p l e h s m args below meth c E ad G n Q nL σ pc lv (v :: st) := fun H locs ls hls hP hS => lv_dup F.1 F.2.1 hdg hv (kk H locs ls hls hP hS)
theorem J_pop (F : Fx p s m args meth c cc nL own E ad n ret) {v : Value} (hdg : decode cc pc = .ok (.pop, 1)) (hv : v.category = 1) (kk : J p l e h s m args below meth c E ad G n Q nL σ (pc + 1) lv (st)) : J p l e h s m args below meth c E ad G n Q nL σ pc lv (v :: st) := fun H locs ls hls hP hS => lv_pop F.1 F.2.1 hdg hv (kk H locs ls hls hP hS)
theorem J_dup2 (F : Fx p s m args meth c cc nL own E ad n ret) {v w : Value} (hdg : decode cc pc = .ok (.dup2, 1)) (hv : v.category = 1) (hw : w.category = 1) (kk : J p l e h s m args below meth c E ad G n Q nL σ (pc + 1) lv (v :: w :: v :: w :: st)) : J p l e h s m args below meth c E ad G n Q nL σ pc lv (v :: w :: st) := fun H locs ls hls hP hS => lv_dup2_11 F.1 F.2.1 hdg hv hw (kk H locs ls hls hP hS)
theorem J_goto (F : Fx p s m args meth c cc nL own E ad n ret) {off : Int} {tgt : Nat} (hdg : decode cc pc = .ok (.goto off, 3)) (ht : (pc : Int) + off = (tgt : Int)) (kk : J p l e h s m args below meth c E ad G n Q nL σ tgt lv (st)) : J p l e h s m args below meth c E ad G n Q nL σ pc lv (st) := fun H locs ls hls hP hS => lv_goto F.1 F.2.1 hdg ht (kk H locs ls hls hP hS)
theorem J_if_eqT (F : Fx p s m args meth c cc nL own E ad n ret) {x : Int32} {off : Int} {tgt : Nat} (hdg : decode cc pc = .ok (.ifCond .eq off, 3)) (ht : (pc : Int) + off = (tgt : Int)) (hc : x = 0) (kk : J p l e h s m args below meth c E ad G n Q nL σ tgt lv (st)) : J p l e h s m args below meth c E ad G n Q nL σ pc lv (.int x :: st) := fun H locs ls hls hP hS => lv_if_eq F.1 F.2.1 hdg ht (fun _ => kk H locs ls hls hP hS) (fun q => absurd hc q)
theorem J_if_eqF (F : Fx p s m args meth c cc nL own E ad n ret) {x : Int32} {off : Int} {tgt : Nat} (hdg : decode cc pc = .ok (.ifCond .eq off, 3)) (ht : (pc : Int) + off = (tgt : Int)) (hc : ¬ x = 0) (kk : J p l e h s m args below meth c E ad G n Q nL σ (pc + 3) lv (st)) : J p l e h s m args below meth c E ad G n Q nL σ pc lv (.int x :: st) := fun H locs ls hls hP hS => lv_if_eq F.1 F.2.1 hdg ht (fun q => absurd q hc) (fun _ => kk H locs ls hls hP hS)
theorem J_icmp_eqT (F : Fx p s m args meth c cc nL own E ad n ret) {x y : Int32} {off : Int} {tgt : Nat} (hdg : decode cc pc = .ok (.if_icmp .eq off, 3)) (ht : (pc : Int) + off = (tgt : Int)) (hc : x = y) (kk : J p l e h s m args below meth c E ad G n Q nL σ tgt lv (st)) : J p l e h s m args below meth c E ad G n Q nL σ pc lv (.int y :: .int x :: st) := fun H locs ls hls hP hS => lv_icmp_eq F.1 F.2.1 hdg ht (fun _ => kk H locs ls hls hP hS) (fun q => absurd hc q)
theorem J_icmp_eqF (F : Fx p s m args meth c cc nL own E ad n ret) {x y : Int32} {off : Int} {tgt : Nat} (hdg : decode cc pc = .ok (.if_icmp .eq off, 3)) (ht : (pc : Int) + off = (tgt : Int)) (hc : ¬ x = y) (kk : J p l e h s m args below meth c E ad G n Q nL σ (pc + 3) lv (st)) : J p l e h s m args below meth c E ad G n Q nL σ pc lv (.int y :: .int x :: st) := fun H locs ls hls hP hS => lv_icmp_eq F.1 F.2.1 hdg ht (fun q => absurd q hc) (fun _ => kk H locs ls hls hP hS)
theorem J_if_neT (F : Fx p s m args meth c cc nL own E ad n ret) {x : Int32} {off : Int} {tgt : Nat} (hdg : decode cc pc = .ok (.ifCond .ne off, 3)) (ht : (pc : Int) + off = (tgt : Int)) (hc : ¬ x = 0) (kk : J p l e h s m args below meth c E ad G n Q nL σ tgt lv (st)) : J p l e h s m args below meth c E ad G n Q nL σ pc lv (.int x :: st) := fun H locs ls hls hP hS => lv_if_ne F.1 F.2.1 hdg ht (fun _ => kk H locs ls hls hP hS) (fun q => absurd q hc)
theorem J_if_neF (F : Fx p s m args meth c cc nL own E ad n ret) {x : Int32} {off : Int} {tgt : Nat} (hdg : decode cc pc = .ok (.ifCond .ne off, 3)) (ht : (pc : Int) + off = (tgt : Int)) (hc : ¬ (¬ x = 0)) (kk : J p l e h s m args below meth c E ad G n Q nL σ (pc + 3) lv (st)) : J p l e h s m args below meth c E ad G n Q nL σ pc lv (.int x :: st) := fun H locs ls hls hP hS => lv_if_ne F.1 F.2.1 hdg ht (fun q => absurd q hc) (fun _ => kk H locs ls hls hP hS)
theorem J_icmp_neT (F : Fx p s m args meth c cc nL own E ad n ret) {x y : Int32} {off : Int} {tgt : Nat} (hdg : decode cc pc = .ok (.if_icmp .ne off, 3)) (ht : (pc : Int) + off = (tgt : Int)) (hc : ¬ x = y) (kk : J p l e h s m args below meth c E ad G n Q nL σ tgt lv (st)) : J p l e h s m args below meth c E ad G n Q nL σ pc lv (.int y :: .int x :: st) := fun H locs ls hls hP hS => lv_icmp_ne F.1 F.2.1 hdg ht (fun _ => kk H locs ls hls hP hS) (fun q => absurd q hc)
theorem J_icmp_neF (F : Fx p s m args meth c cc nL own E ad n ret) {x y : Int32} {off : Int} {tgt : Nat} (hdg : decode cc pc = .ok (.if_icmp .ne off, 3)) (ht : (pc : Int) + off = (tgt : Int)) (hc : ¬ (¬ x = y)) (kk : J p l e h s m args below meth c E ad G n Q nL σ (pc + 3) lv (st)) : J p l e h s m args below meth c E ad G n Q nL σ pc lv (.int y :: .int x :: st) := fun H locs ls hls hP hS => lv_icmp_ne F.1 F.2.1 hdg ht (fun q => absurd q hc) (fun _ => kk H locs ls hls hP hS)
theorem J_if_ltT (F : Fx p s m args meth c cc nL own E ad n ret) {x : Int32} {off : Int} {tgt : Nat} (hdg : decode cc pc = .ok (.ifCond .lt off, 3)) (ht : (pc : Int) + off = (tgt : Int)) (hc : x < 0) (kk : J p l e h s m args below meth c E ad G n Q nL σ tgt lv (st)) : J p l e h s m args below meth c E ad G n Q nL σ pc lv (.int x :: st) := fun H locs ls hls hP hS => lv_if_lt F.1 F.2.1 hdg ht (fun _ => kk H locs ls hls hP hS) (fun q => absurd hc q)
theorem J_if_ltF (F : Fx p s m args meth c cc nL own E ad n ret) {x : Int32} {off : Int} {tgt : Nat} (hdg : decode cc pc = .ok (.ifCond .lt off, 3)) (ht : (pc : Int) + off = (tgt : Int)) (hc : ¬ x < 0) (kk : J p l e h s m args below meth c E ad G n Q nL σ (pc + 3) lv (st)) : J p l e h s m args below meth c E ad G n Q nL σ pc lv (.int x :: st) := fun H locs ls hls hP hS => lv_if_lt F.1 F.2.1 hdg ht (fun q => absurd q hc) (fun _ => kk H locs ls hls hP hS)
theorem J_icmp_ltT (F : Fx p s m args meth c cc nL own E ad n ret) {x y : Int32} {off : Int} {tgt : Nat} (hdg : decode cc pc = .ok (.if_icmp .lt off, 3)) (ht : (pc : Int) + off = (tgt : Int)) (hc : x < y) (kk : J p l e h s m args below meth c E ad G n Q nL σ tgt lv (st)) : J p l e h s m args below meth c E ad G n Q nL σ pc lv (.int y :: .int x :: st) := fun H locs ls hls hP hS => lv_icmp_lt F.1 F.2.1 hdg ht (fun _ => kk H locs ls hls hP hS) (fun q => absurd hc q)
theorem J_icmp_ltF (F : Fx p s m args meth c cc nL own E ad n ret) {x y : Int32} {off : Int} {tgt : Nat} (hdg : decode cc pc = .ok (.if_icmp .lt off, 3)) (ht : (pc : Int) + off = (tgt : Int)) (hc : ¬ x < y) (kk : J p l e h s m args below meth c E ad G n Q nL σ (pc + 3) lv (st)) : J p l e h s m args below meth c E ad G n Q nL σ pc lv (.int y :: .int x :: st) := fun H locs ls hls hP hS => lv_icmp_lt F.1 F.2.1 hdg ht (fun q => absurd q hc) (fun _ => kk H locs ls hls hP hS)
theorem J_if_geT (F : Fx p s m args meth c cc nL own E ad n ret) {x : Int32} {off : Int} {tgt : Nat} (hdg : decode cc pc = .ok (.ifCond .ge off, 3)) (ht : (pc : Int) + off = (tgt : Int)) (hc : 0 ≤ x) (kk : J p l e h s m args below meth c E ad G n Q nL σ tgt lv (st)) : J p l e h s m args below meth c E ad G n Q nL σ pc lv (.int x :: st) := fun H locs ls hls hP hS => lv_if_ge F.1 F.2.1 hdg ht (fun _ => kk H locs ls hls hP hS) (fun q => absurd hc q)
theorem J_if_geF (F : Fx p s m args meth c cc nL own E ad n ret) {x : Int32} {off : Int} {tgt : Nat} (hdg : decode cc pc = .ok (.ifCond .ge off, 3)) (ht : (pc : Int) + off = (tgt : Int)) (hc : ¬ 0 ≤ x) (kk : J p l e h s m args below meth c E ad G n Q nL σ (pc + 3) lv (st)) : J p l e h s m args below meth c E ad G n Q nL σ pc lv (.int x :: st) := fun H locs ls hls hP hS => lv_if_ge F.1 F.2.1 hdg ht (fun q => absurd q hc) (fun _ => kk H locs ls hls hP hS)
theorem J_icmp_geT (F : Fx p s m args meth c cc nL own E ad n ret) {x y : Int32} {off : Int} {tgt : Nat} (hdg : decode cc pc = .ok (.if_icmp .ge off, 3)) (ht : (pc : Int) + off = (tgt : Int)) (hc : y ≤ x) (kk : J p l e h s m args below meth c E ad G n Q nL σ tgt lv (st)) : J p l e h s m args below meth c E ad G n Q nL σ pc lv (.int y :: .int x :: st) := fun H locs ls hls hP hS => lv_icmp_ge F.1 F.2.1 hdg ht (fun _ => kk H locs ls hls hP hS) (fun q => absurd hc q)
theorem J_icmp_geF (F : Fx p s m args meth c cc nL own E ad n ret) {x y : Int32} {off : Int} {tgt : Nat} (hdg : decode cc pc = .ok (.if_icmp .ge off, 3)) (ht : (pc : Int) + off = (tgt : Int)) (hc : ¬ y ≤ x) (kk : J p l e h s m args below meth c E ad G n Q nL σ (pc + 3) lv (st)) : J p l e h s m args below meth c E ad G n Q nL σ pc lv (.int y :: .int x :: st) := fun H locs ls hls hP hS => lv_icmp_ge F.1 F.2.1 hdg ht (fun q => absurd q hc) (fun _ => kk H locs ls hls hP hS)
theorem J_if_gtT (F : Fx p s m args meth c cc nL own E ad n ret) {x : Int32} {off : Int} {tgt : Nat} (hdg : decode cc pc = .ok (.ifCond .gt off, 3)) (ht : (pc : Int) + off = (tgt : Int)) (hc : 0 < x) (kk : J p l e h s m args below meth c E ad G n Q nL σ tgt lv (st)) : J p l e h s m args below meth c E ad G n Q nL σ pc lv (.int x :: st) := fun H locs ls hls hP hS => lv_if_gt F.1 F.2.1 hdg ht (fun _ => kk H locs ls hls hP hS) (fun q => absurd hc q)
theorem J_if_gtF (F : Fx p s m args meth c cc nL own E ad n ret) {x : Int32} {off : Int} {tgt : Nat} (hdg : decode cc pc = .ok (.ifCond .gt off, 3)) (ht : (pc : Int) + off = (tgt : Int)) (hc : ¬ 0 < x) (kk : J p l e h s m args below meth c E ad G n Q nL σ (pc + 3) lv (st)) : J p l e h s m args below meth c E ad G n Q nL σ pc lv (.int x :: st) := fun H locs ls hls hP hS => lv_if_gt F.1 F.2.1 hdg ht (fun q => absurd q hc) (fun _ => kk H locs ls hls hP hS)
theorem J_icmp_gtT (F : Fx p s m args meth c cc nL own E ad n ret) {x y : Int32} {off : Int} {tgt : Nat} (hdg : decode cc pc = .ok (.if_icmp .gt off, 3)) (ht : (pc : Int) + off = (tgt : Int)) (hc : y < x) (kk : J p l e h s m args below meth c E ad G n Q nL σ tgt lv (st)) : J p l e h s m args below meth c E ad G n Q nL σ pc lv (.int y :: .int x :: st) := fun H locs ls hls hP hS => lv_icmp_gt F.1 F.2.1 hdg ht (fun _ => kk H locs ls hls hP hS) (fun q => absurd hc q)
theorem J_icmp_gtF (F : Fx p s m args meth c cc nL own E ad n ret) {x y : Int32} {off : Int} {tgt : Nat} (hdg : decode cc pc = .ok (.if_icmp .gt off, 3)) (ht : (pc : Int) + off = (tgt : Int)) (hc : ¬ y < x) (kk : J p l e h s m args below meth c E ad G n Q nL σ (pc + 3) lv (st)) : J p l e h s m args below meth c E ad G n Q nL σ pc lv (.int y :: .int x :: st) := fun H locs ls hls hP hS => lv_icmp_gt F.1 F.2.1 hdg ht (fun q => absurd q hc) (fun _ => kk H locs ls hls hP hS)
theorem J_if_leT (F : Fx p s m args meth c cc nL own E ad n ret) {x : Int32} {off : Int} {tgt : Nat} (hdg : decode cc pc = .ok (.ifCond .le off, 3)) (ht : (pc : Int) + off = (tgt : Int)) (hc : x ≤ 0) (kk : J p l e h s m args below meth c E ad G n Q nL σ tgt lv (st)) : J p l e h s m args below meth c E ad G n Q nL σ pc lv (.int x :: st) := fun H locs ls hls hP hS => lv_if_le F.1 F.2.1 hdg ht (fun _ => kk H locs ls hls hP hS) (fun q => absurd hc q)
theorem J_if_leF (F : Fx p s m args meth c cc nL own E ad n ret) {x : Int32} {off : Int} {tgt : Nat} (hdg : decode cc pc = .ok (.ifCond .le off, 3)) (ht : (pc : Int) + off = (tgt : Int)) (hc : ¬ x ≤ 0) (kk : J p l e h s m args below meth c E ad G n Q nL σ (pc + 3) lv (st)) : J p l e h s m args below meth c E ad G n Q nL σ pc lv (.int x :: st) := fun H locs ls hls hP hS => lv_if_le F.1 F.2.1 hdg ht (fun q => absurd q hc) (fun _ => kk H locs ls hls hP hS)
theorem J_icmp_leT (F : Fx p s m args meth c cc nL own E ad n ret) {x y : Int32} {off : Int} {tgt : Nat} (hdg : decode cc pc = .ok (.if_icmp .le off, 3)) (ht : (pc : Int) + off = (tgt : Int)) (hc : x ≤ y) (kk : J p l e h s m args below meth c E ad G n Q nL σ tgt lv (st)) : J p l e h s m args below meth c E ad G n Q nL σ pc lv (.int y :: .int x :: st) := fun H locs ls hls hP hS => lv_icmp_le F.1 F.2.1 hdg ht (fun _ => kk H locs ls hls hP hS) (fun q => absurd hc q)
theorem J_icmp_leF (F : Fx p s m args meth c cc nL own E ad n ret) {x y : Int32} {off : Int} {tgt : Nat} (hdg : decode cc pc = .ok (.if_icmp .le off, 3)) (ht : (pc : Int) + off = (tgt : Int)) (hc : ¬ x ≤ y) (kk : J p l e h s m args below meth c E ad G n Q nL σ (pc + 3) lv (st)) : J p l e h s m args below meth c E ad G n Q nL σ pc lv (.int y :: .int x :: st) := fun H locs ls hls hP hS => lv_icmp_le F.1 F.2.1 hdg ht (fun q => absurd q hc) (fun _ => kk H locs ls hls hP hS)
theorem J_ifnonnull (F : Fx p s m args meth c cc nL own E ad n ret) {x : Nat} {off : Int} {tgt : Nat} (hdg : decode cc pc = .ok (.ifnonnull off, 3)) (ht : (pc : Int) + off = (tgt : Int)) (kk : J p l e h s m args below meth c E ad G n Q nL σ tgt lv (st)) : J p l e h s m args below meth c E ad G n Q nL σ pc lv (.ref x :: st) := fun H locs ls hls hP hS => lv_ifnonnull F.1 F.2.1 hdg ht (kk H locs ls hls hP hS)
theorem J_ifnull (F : Fx p s m args meth c cc nL own E ad n ret) {x : Nat} {off : Int} (hdg : decode cc pc = .ok (.ifnull off, 3)) (kk : J p l e h s m args below meth c E ad G n Q nL σ (pc + 3) lv (st)) : J p l e h s m args below meth c E ad G n Q nL σ pc lv (.ref x :: st) := fun H locs ls hls hP hS => lv_ifnull F.1 F.2.1 hdg (kk H locs ls hls hP hS)
theorem J_ifnullN (F : Fx p s m args meth c cc nL own E ad n ret) {off : Int} {tgt : Nat} (hdg : decode cc pc = .ok (.ifnull off, 3)) (ht : (pc : Int) + off = (tgt : Int)) (kk : J p l e h s m args below meth c E ad G n Q nL σ tgt lv (st)) : J p l e h s m args below meth c E ad G n Q nL σ pc lv (.null :: st) := fun H locs ls hls hP hS => lv_ifnullN F.1 F.2.1 hdg ht (kk H locs ls hls hP hS)
theorem J_ifnonnullN (F : Fx p s m args meth c cc nL own E ad n ret) {off : Int} (hdg : decode cc pc = .ok (.ifnonnull off, 3)) (kk : J p l e h s m args below meth c E ad G n Q nL σ (pc + 3) lv (st)) : J p l e h s m args below meth c E ad G n Q nL σ pc lv (.null :: st) := fun H locs ls hls hP hS => lv_ifnonnullN F.1 F.2.1 hdg (kk H locs ls hls hP hS)
theorem J_null (F : Fx p s m args meth c cc nL own E ad n ret) (hdg : decode cc pc = .ok (.aconst_null, 1)) (kk : J p l e h s m args below meth c E ad G n Q nL σ (pc + 1) lv (.null :: st)) : J p l e h s m args below meth c E ad G n Q nL σ pc lv (st) := fun H locs ls hls hP hS => lv_null F.1 F.2.1 hdg (kk H locs ls hls hP hS)
theorem J_tableIn (F : Fx p s m args meth c cc nL own E ad n ret) {dflt lo hi : Int} {offs : Array Int} {len : Nat} {x : Int32} {off : Int} {tgt : Nat} (hdg : decode cc pc = .ok (.tableswitch dflt lo hi offs, len)) (h1 : ¬ x.toInt < lo) (h2 : ¬ hi < x.toInt) (ho : offs[(x.toInt - lo).toNat]? = some off) (ht : (pc : Int) + off = (tgt : Int)) (kk : J p l e h s m args below meth c E ad G n Q nL σ tgt lv (st)) : J p l e h s m args below meth c E ad G n Q nL σ pc lv (.int x :: st) := fun H locs ls hls hP hS => lv_tableIn F.1 F.2.1 hdg h1 h2 ho ht (kk H locs ls hls hP hS)
theorem J_tableOut (F : Fx p s m args meth c cc nL own E ad n ret) {dflt lo hi : Int} {offs : Array Int} {len : Nat} {x : Int32} {tgt : Nat} (hdg : decode cc pc = .ok (.tableswitch dflt lo hi offs, len)) (ho : x.toInt < lo ∨ hi < x.toInt) (ht : (pc : Int) + dflt = (tgt : Int)) (kk : J p l e h s m args below meth c E ad G n Q nL σ tgt lv (st)) : J p l e h s m args below meth c E ad G n Q nL σ pc lv (.int x :: st) := fun H locs ls hls hP hS => lv_tableOut F.1 F.2.1 hdg ho ht (kk H locs ls hls hP hS)
theorem J_lookup (F : Fx p s m args meth c cc nL own E ad n ret) {dflt : Int} {ps : Array (Int × Int)} {len : Nat} {x : Int32} {off : Int} {tgt : Nat} (hdg : decode cc pc = .ok (.lookupswitch dflt ps, len)) (hp : (ps.toList.zip (ps.toList.drop 1)).all (fun (a, next) => a.1 < next.1) = true) (ho : Op.lookupswitch.offset ps.toList dflt x.toInt = off) (ht : (pc : Int) + off = (tgt : Int)) (kk : J p l e h s m args below meth c E ad G n Q nL σ tgt lv (st)) : J p l e h s m args below meth c E ad G n Q nL σ pc lv (.int x :: st) := fun H locs ls hls hP hS => lv_lookup F.1 F.2.1 hdg hp ho ht (kk H locs ls hls hP hS)
end JR
end
section
/-! rows over the memory, calls, ends -/
section JH
variable {p : Program} {l : Launch} {e : Env} {h : Nat} {s : State} {m : MethodId} {args : Array Value} {below : List Frame} {meth : Method} {c : Code} {E : En} {ad : Nat → Nat} {G : Lay} {n : Nat} {Q : State → Prop} {nL : Nat} {σ σ' : St} {pc : Nat} {lv : List (Nat × Value)} {st : List Value} {cc : ByteArray} {own : String} {ret : Option FieldType}
def ArrI (E : En) (G : Lay) (n k L : Nat) : Prop := k < n ∧ ∀ f, G k f = .inl (E.2.1, L, .inl f)
def ArrB (E : En) (G : Lay) (n k L : Nat) : Prop := k < n ∧ ∀ f, G k f = .inl (E.2.2.1, L, .inl f)
theorem J_ldcw (F : Fx p s m args meth c cc nL own E ad n ret) {k : Nat} {v : Int32} (hw : Cond.constant own k v ∈ gtbl) (hdg : decode cc pc = .ok (.ldc_w k, 3)) (kk : J p l e h s m args below meth c E ad G n Q nL σ (pc + 3) lv (.int v :: st)) : J p l e h s m args below meth c E ad G n Q nL σ pc lv st := fun H locs ls hls hP hS => lv_ldcw F.1 F.2.1 F.2.2.2.1 (F.2.2.2.2.1 _ hw) hdg (kk H locs ls hls hP hS)
theorem J_getG (F : Fx p s m args meth c cc nL own E ad n ret) {C : String} {T : u_T} {N ci k idx a0 : Nat} {fs : List Value} {v : Value} (hin : ∀ w ∈ u_ws C T N, w ∈ gtbl) (hc : vwCl[ci]? = some (C, T, N)) (hn : a0 < n) (hG : G a0 (σ a0) = .inr (ci, fs)) (hk : k < N) (hw : Cond.fieldLink own idx (T k).1 (T k).2.1 (T k).2.2.1 ∈ gtbl) (hv : fs[k]? = some v) (hdg : decode cc pc = .ok (.getfield idx, 3)) (kk : J p l e h s m args below meth c E ad G n Q nL σ (pc + 3) lv (v :: st)) : J p l e h s m args below meth c E ad G n Q nL σ pc lv (.ref (ad a0) :: st) := fun H locs ls hls hP hS => by
  have he : (wl ad G n σ)[a0]? = some (ad a0, .inr (ci, fs)) := by rw [wl_get hn, hG]
  exact va_get (D := E.1) F.1 F.2.1 F.2.2.2.2.1 hin F.2.2.2.1 F.2.2.2.2.2.2.1 hP a0 he hc k hk (F.2.2.2.2.1 _ hw) (fun _ h9 => h9) hv hdg (kk H locs ls hls hP hS)
theorem J_putG (F : Fx p s m args meth c cc nL own E ad n ret) {C : String} {T : u_T} {N ci k j idx a0 : Nat} {fs : (Nat → Int32) → List Value} {v : Int32} {ty : FieldType} (hin : ∀ w ∈ u_ws C T N, w ∈ gtbl) (hc : vwCl[ci]? = some (C, T, N)) (ty0 : Nat → FieldType) (hty : ∀ k, k < N → parseFieldDescriptor (T k).2.2.1 = some (ty0 k)) (hnm : ∀ a, a < N → ∀ b, b < N → a ≠ b → (T a).2.1 ≠ (T b).2.1) (hn : a0 < n) (hG : ∀ f, G a0 f = .inr (ci, fs f)) (hk : k < N) (hfin : (T k).2.2.2 = false) (hd : parseFieldDescriptor (T k).2.2.1 = some ty) (hnar : narrow ty (.int v) = .int v) (hfit : fits ty (.int v) = true) (hl : ∀ f, k < (fs f).length) (hset : ∀ f, (fs f).set k (.int v) = fs (upd f j v)) (hw : Cond.fieldLink own idx (T k).1 (T k).2.1 (T k).2.2.1 ∈ gtbl) (hdg : decode cc pc = .ok (.putfield idx, 3)) (hσ : σ' = w2 σ a0 j v) (kk : J p l e h s m args below meth c E ad G n Q nL σ' (pc + 3) lv st) : J p l e h s m args below meth c E ad G n Q nL σ pc lv (.int v :: .ref (ad a0) :: st) := fun H locs ls hls hP hS => by
  have he : (wl ad G n σ)[a0]? = some (ad a0, .inr (ci, fs (σ a0))) := by rw [wl_get hn, hG]
  refine va_put (D := E.1) (v := .int v) (ty := ty) F.1 F.2.1 F.2.2.2.2.1 hin ty0 hty hnm F.2.2.2.1 F.2.2.2.2.2.2.1 hP (wl_D F.2.2.2.2.2.2.2.1) hS a0 he hc k hk (F.2.2.2.2.1 _ hw) (fun _ h9 => h9) hfin hd hnar hfit (hl _) hdg (fun H1 locs1 hP1 hD1 hS1 => ?_)
  rw [hset, ← hG, wl_set hn] at hP1
  subst hσ
  exact kk H1 locs1 ls hls hP1 hS1
theorem J_iald (F : Fx p s m args meth c cc nL own E ad n ret) {k L : Nat} {i : Int32} (ha : ArrI E G n k L) (hin : ¬ (i < 0 ∨ L ≤ i.toNatClampNeg)) (hdg : decode cc pc = .ok (.iaload, 1)) (kk : J p l e h s m args below meth c E ad G n Q nL σ (pc + 1) lv (.int (σ k i.toNatClampNeg) :: st)) : J p l e h s m args below meth c E ad G n Q nL σ pc lv (.int i :: .ref (ad k) :: st) := fun H locs ls hls hP hS => by
  have he : (wl ad G n σ)[k]? = some (ad k, .inl (E.2.1, L, .inl (σ k))) := by rw [wl_get ha.1, ha.2]
  exact va_iald F.1 F.2.1 F.2.2.2.2.2.2.1 hP k 0 he rfl hin hdg (kk H locs ls hls hP hS)
theorem J_bald (F : Fx p s m args meth c cc nL own E ad n ret) {k L : Nat} {i : Int32} (ha : ArrB E G n k L) (hin : ¬ (i < 0 ∨ L ≤ i.toNatClampNeg)) (hdg : decode cc pc = .ok (.baload, 1)) (kk : J p l e h s m args below meth c E ad G n Q nL σ (pc + 1) lv (.int (σ k i.toNatClampNeg) :: st)) : J p l e h s m args below meth c E ad G n Q nL σ pc lv (.int i :: .ref (ad k) :: st) := fun H locs ls hls hP hS => by
  have he : (wl ad G n σ)[k]? = some (ad k, .inl (E.2.2.1, L, .inl (σ k))) := by rw [wl_get ha.1, ha.2]
  exact va_bald F.1 F.2.1 F.2.2.2.2.2.2.1 hP k 1 he rfl hin hdg (kk H locs ls hls hP hS)
theorem J_iast (F : Fx p s m args meth c cc nL own E ad n ret) {k L : Nat} {i x : Int32} (ha : ArrI E G n k L) (hin : ¬ (i < 0 ∨ L ≤ i.toNatClampNeg)) (hdg : decode cc pc = .ok (.iastore, 1)) (hσ : σ' = w2 σ k i.toNatClampNeg x) (kk : J p l e h s m args below meth c E ad G n Q nL σ' (pc + 1) lv st) : J p l e h s m args below meth c E ad G n Q nL σ pc lv (.int x :: .int i :: .ref (ad k) :: st) := fun H locs ls hls hP hS => by
  have he : (wl ad G n σ)[k]? = some (ad k, .inl (E.2.1, L, .inl (σ k))) := by rw [wl_get ha.1, ha.2]
  refine va_iast F.1 F.2.1 F.2.2.2.2.2.2.1 hP (wl_D F.2.2.2.2.2.2.2.1) hS k 0 he rfl hin hdg (fun H1 locs1 hP1 hD1 hS1 => ?_)
  rw [← ha.2, wl_set ha.1] at hP1
  subst hσ
  exact kk H1 locs1 ls hls hP1 hS1
theorem J_bast (F : Fx p s m args meth c cc nL own E ad n ret) {k L : Nat} {i x : Int32} (ha : ArrB E G n k L) (hin : ¬ (i < 0 ∨ L ≤ i.toNatClampNeg)) (hdg : decode cc pc = .ok (.bastore, 1)) (hσ : σ' = w2 σ k i.toNatClampNeg x.toInt8.toInt32) (kk : J p l e h s m args below meth c E ad G n Q nL σ' (pc + 1) lv st) : J p l e h s m args below meth c E ad G n Q nL σ pc lv (.int x :: .int i :: .ref (ad k) :: st) := fun H locs ls hls hP hS => by
  have he : (wl ad G n σ)[k]? = some (ad k, .inl (E.2.2.1, L, .inl (σ k))) := by rw [wl_get ha.1, ha.2]
  refine va_bast F.1 F.2.1 F.2.2.2.2.2.2.1 hP (wl_D F.2.2.2.2.2.2.2.1) hS k 1 he rfl hin hdg (fun H1 locs1 hP1 hD1 hS1 => ?_)
  rw [← ha.2, wl_set ha.1, vp_nar_byte] at hP1
  subst hσ
  exact kk H1 locs1 ls hls hP1 hS1
theorem J_alenI (F : Fx p s m args meth c cc nL own E ad n ret) {k L : Nat} (ha : ArrI E G n k L) (hdg : decode cc pc = .ok (.arraylength, 1)) (kk : J p l e h s m args below meth c E ad G n Q nL σ (pc + 1) lv (.int (nI L) :: st)) : J p l e h s m args below meth c E ad G n Q nL σ pc lv (.ref (ad k) :: st) := fun H locs ls hls hP hS => by
  have he : (wl ad G n σ)[k]? = some (ad k, .inl (E.2.1, L, .inl (σ k))) := by rw [wl_get ha.1, ha.2]
  exact va_alen F.1 F.2.1 F.2.2.2.2.2.2.1 hP k 0 he rfl rfl hdg (kk H locs ls hls hP hS)
def RowT (E : En) (ad : Nat → Nat) (G : Lay) (n r L : Nat) : Prop := r < n ∧ ∀ f, G r f = .inl (E.2.2.2, L, .inr (.inr (.inr (.inr (fun j => if j < L then some (ad (r + 1 + 9 * j)) else none)))))
theorem J_alenT (F : Fx p s m args meth c cc nL own E ad n ret) {r L : Nat} (ha : RowT E ad G n r L) (hdg : decode cc pc = .ok (.arraylength, 1)) (kk : J p l e h s m args below meth c E ad G n Q nL σ (pc + 1) lv (.int (nI L) :: st)) : J p l e h s m args below meth c E ad G n Q nL σ pc lv (.ref (ad r) :: st) := fun H locs ls hls hP hS => by
  have he := (wl_get (ad := ad) (G := G) (σ := σ) ha.1)
  rw [ha.2] at he
  exact va_alen F.1 F.2.1 F.2.2.2.2.2.2.1 hP r 2 he rfl rfl hdg (kk H locs ls hls hP hS)
theorem J_aald (F : Fx p s m args meth c cc nL own E ad n ret) {r L : Nat} {i : Int32} (ha : RowT E ad G n r L) (hin : ¬ (i < 0 ∨ L ≤ i.toNatClampNeg)) (hdg : decode cc pc = .ok (.aaload, 1)) (kk : J p l e h s m args below meth c E ad G n Q nL σ (pc + 1) lv (.ref (ad (r + 1 + 9 * i.toNatClampNeg)) :: st)) : J p l e h s m args below meth c E ad G n Q nL σ pc lv (.int i :: .ref (ad r) :: st) := fun H locs ls hls hP hS => by
  have he := (wl_get (ad := ad) (G := G) (σ := σ) ha.1)
  rw [ha.2] at he
  refine va_aldq F.1 F.2.1 F.2.2.2.2.2.2.1 hP r 2 he rfl hin hdg ?_
  have hlt : i.toNatClampNeg < L := Nat.not_le.mp fun q => hin (Or.inr q)
  simp only [if_pos hlt]
  exact kk H locs ls hls hP hS
theorem J_run {o : Option Value} {rest : List Value} {a : Array Value} (hr : ∀ (H : Heap) (locs : List Loc) (ls : Array Slot), lv_has ls nL lv → va_P E.1 vwCl (wl ad G n σ) H → va_S (adA ad n) s.heap H locs → va_Run p l e (rmh h) s m args below meth c H locs 0 0 0 0 (F0 m pc ls st) rest (mQ E ad G n o σ' a) (adA ad n)) (kk : J p l e h s m args below meth c E ad G n Q nL σ' (pc + 3) lv (o.toList ++ rest)) : J p l e h s m args below meth c E ad G n Q nL σ pc lv st := by
  intro H locs ls hls hP hS T hT X
  obtain ⟨v, st₀, t, T', L, h0, X', hL, e1, e2, ⟨hv, hp, hz, hk⟩, hst⟩ := hr H locs ls hls hP hS T hT X
  cases hv
  rw [h0] at hz hk
  obtain ⟨t2, a1, b1⟩ := kk T'.heap (locs ++ L) ls hls (by rw [e1]; exact hp)
    ⟨Nat.le_trans hS.1 (by rw [e1]; exact hz), fun q h1 h2 => by rw [e1, hk q (Nat.lt_of_lt_of_le h1 hS.1) h2]; exact hS.2.1 q h1 h2, fun q hq => by
      rcases List.mem_append.mp hq with h | h
      · exact hS.2.2 q h
      · exact hL q h⟩ T' rfl X'
  exact ⟨t2, hst t2 a1, b1⟩
theorem gcons {w : Cond} (h : w ∈ gtbl) : GoodIn gtbl (w :: gtbl) := fun v hv => (List.mem_cons.mp hv).elim (fun q => q ▸ gtbl_good w h) (fun q => gtbl_good v q)
/-- what a caller needs of the tables for a callee: four words (the third: 'static' or 'instanceMethod' and 'selects') -/
def WcS (y : MethodName) (bytes : ByteArray) (maxL : Nat) (ret : Option FieldType) (k : Nat) : Prop := Cond.static y ∈ gtbl ∧ Cond.initialized y.cls ∈ gtbl ∧ Cond.code y bytes maxL ret ∈ gtbl ∧ (y.cls ≠ "java/lang/invoke/MethodHandle" ∧ y.cls ≠ "java/lang/invoke/VarHandle" ∧ (parseMethodDescriptor y.desc).map (fun d => d.parameters.length) = some k)
def WcV (y : MethodName) (bytes : ByteArray) (maxL : Nat) (ret : Option FieldType) (k : Nat) : Prop := Cond.instanceMethod y ∈ gtbl ∧ Cond.selects y.cls y y ∈ gtbl ∧ Cond.initialized y.cls ∈ gtbl ∧ Cond.code y bytes maxL ret ∈ gtbl ∧ (y.cls ≠ "java/lang/invoke/MethodHandle" ∧ y.cls ≠ "java/lang/invoke/VarHandle" ∧ (parseMethodDescriptor y.desc).map (fun d => d.parameters.length) = some k)
theorem J_callS (F : Fx p s m args meth c cc nL own E ad n ret) {y : MethodName} {bytes : ByteArray} {maxL h' idx k : Nat} {ret' : Option FieldType} {As rest : List Value} {o : Option Value} (hC : Ct l y bytes maxL ret' h' E ad G n As σ o σ') (hh : h' < h) (hm : maxL ≤ 21) (hW : WcS y bytes maxL ret' k) (hw : Cond.methodLink own idx y ∈ gtbl) (hk : As.length = k) (hst : st = As.reverse ++ rest) (hcat : (rest.map fun v => v.category).sum ≤ 8) (hdg : decode cc pc = .ok (.invokestatic idx, 3)) (kk : J p l e h s m args below meth c E ad G n Q nL σ' (pc + 3) lv (o.toList ++ rest)) : J p l e h s m args below meth c E ad G n Q nL σ pc lv st := by
  obtain ⟨w1, w2, w3, w4⟩ := hW
  have hts := F.2.2.2.2.1
  refine J_run (a := As.toArray) (fun H locs ls hls hP hS => ?_) kk
  refine va_runS (Ts := gtbl) ⟨F.1, F.2.1, F.2.2.1, F.2.2.2.1, hts⟩ hC ⟨callB_of k hts (gcons w3) rfl rfl rfl (hts _ w2) (hts _ hw) w4 ⟨?_, ?_⟩, hts _ w1⟩ ⟨WP_blind, fun U hU hW => ⟨rfl, by rw [hU]; exact hP, va_K.moved hW.alike F.2.2.2.2.2.2.1, NWs.warm hW F.2.2.2.2.2.1⟩⟩ rfl hk hls.1 hst (lv_room hcat) hdg ⟨Nat.zero_le _, Nat.zero_le _⟩
  · show h' + 1 ≤ h; omega
  · show 8 + (maxL + 11) + 40 * h' ≤ 40 * h; omega
theorem J_callN (F : Fx p s m args meth c cc nL own E ad n ret) {y : MethodName} {bytes : ByteArray} {maxL h' idx k : Nat} {host : String} {ret' : Option FieldType} {As rest : List Value} {o : Option Value} (hC : Ct l y bytes maxL ret' h' E ad G n As σ o σ') (hh : h' < h) (hm : maxL ≤ 21) (hW : WcS y bytes maxL ret' k) (hw : (own, idx, y, host) ∈ nestL) (hk : As.length = k) (hst : st = As.reverse ++ rest) (hcat : (rest.map fun v => v.category).sum ≤ 8) (hdg : decode cc pc = .ok (.invokestatic idx, 3)) (kk : J p l e h s m args below meth c E ad G n Q nL σ' (pc + 3) lv (o.toList ++ rest)) : J p l e h s m args below meth c E ad G n Q nL σ pc lv st := by
  obtain ⟨w1, w2, w3, w4⟩ := hW
  have hts := F.2.2.2.2.1
  have hN := F.2.2.2.2.2.1
  refine J_run (a := As.toArray) (fun H locs ls hls hP hS => ?_) kk
  refine va_runSN (Ts := gtbl) (host := host) ⟨F.1, F.2.1, F.2.2.1, F.2.2.2.1, hts⟩ hC ⟨va_cnB k hts (gcons w3) rfl rfl rfl (hN _ hw) (hts _ w2) w4 ⟨?_, ?_⟩, hts _ w1, trivial⟩ ⟨WP_blind, fun U hU hW => ⟨rfl, by rw [hU]; exact hP, va_K.moved hW.alike F.2.2.2.2.2.2.1, NWs.warm hW hN⟩⟩ rfl hk hls.1 hst (lv_room hcat) hdg ⟨Nat.zero_le _, Nat.zero_le _⟩
  · show h' + 1 ≤ h; omega
  · show 8 + (maxL + 11) + 40 * h' ≤ 40 * h; omega
theorem J_callV (F : Fx p s m args meth c cc nL own E ad n ret) {y : MethodName} {bytes : ByteArray} {maxL h' idx k b ci N : Nat} {T : u_T} {fs : List Value} {ret' : Option FieldType} {As rest : List Value} {o : Option Value} (hC : Ct l y bytes maxL ret' h' E ad G n (.ref (ad b) :: As) σ o σ') (hh : h' < h) (hm : maxL ≤ 21) (hn : b < n) (hG : G b (σ b) = .inr (ci, fs)) (hcl : vwCl[ci]? = some (y.cls, T, N)) (hW : WcV y bytes maxL ret' k) (hw : Cond.methodLink own idx y ∈ gtbl) (hk : As.length = k) (hst : st = As.reverse ++ .ref (ad b) :: rest) (hcat : (rest.map fun v => v.category).sum ≤ 8) (hdg : decode cc pc = .ok (.invokevirtual idx, 3)) (kk : J p l e h s m args below meth c E ad G n Q nL σ' (pc + 3) lv (o.toList ++ rest)) : J p l e h s m args below meth c E ad G n Q nL σ pc lv st := by
  obtain ⟨w0, w1, w2, w3, w4⟩ := hW
  have hts := F.2.2.2.2.1
  refine J_run (a := (Value.ref (ad b) :: As).toArray) (fun H locs ls hls hP hS => ?_) kk
  have he : (wl ad G n σ)[b]? = some (ad b, .inr (ci, fs)) := by rw [wl_get hn, hG]
  refine va_runV (Ts := gtbl) (C := y.cls) ⟨F.1, F.2.1, F.2.2.1, F.2.2.2.1, hts⟩ hC ⟨callB_of k hts (gcons w3) rfl rfl rfl (hts _ w2) (hts _ hw) w4 ⟨?_, ?_⟩, hts _ w0, hts _ w1⟩ ⟨WP_blind, va_recv F.2.2.2.2.2.2.1 hP hcl he, fun U hU hW => ⟨rfl, by rw [hU]; exact hP, va_K.moved hW.alike F.2.2.2.2.2.2.1, NWs.warm hW F.2.2.2.2.2.1⟩⟩ rfl hk hls.1 hst (lv_room hcat) hdg ⟨Nat.zero_le _, Nat.zero_le _⟩
  · show h' + 1 ≤ h; omega
  · show 8 + (maxL + 11) + 40 * h' ≤ 40 * h; omega
theorem J_mmax (F : Fx p s m args meth c cc nL own E ad n ret) {idx : Nat} {x y : Int32} (hh : 0 < h) (hw : Cond.methodLink own idx Lib.Math.max.name ∈ gtbl) (w1 : Cond.static Lib.Math.max.name ∈ gtbl) (w2 : Cond.initialized "java/lang/Math" ∈ gtbl) (w3 : Cond.code Lib.Math.max.name Lib.Math.max.code 2 (some .int) ∈ gtbl) (hcat : (st.map fun v => v.category).sum ≤ 8) (hdg : decode cc pc = .ok (.invokestatic idx, 3)) (kk : J p l e h s m args below meth c E ad G n Q nL σ (pc + 3) lv (.int (if x < y then y else x) :: st)) : J p l e h s m args below meth c E ad G n Q nL σ pc lv (.int y :: .int x :: st) := fun H locs ls hls hP hS => by
  have hts := F.2.2.2.2.1
  exact va_mmax F.1 F.2.1 (by rw [F.2.2.1, hls.1]) F.2.2.2.1 (hts _ hw) (hts _ w1) (hts _ w2) (hts _ w3) (by show 1 ≤ h; omega) (by show _ ≤ 40 * h; omega) (Nat.zero_le _) (Nat.zero_le _) hdg (kk H locs ls hls hP hS)
theorem J_mmin (F : Fx p s m args meth c cc nL own E ad n ret) {idx : Nat} {x y : Int32} (hh : 0 < h) (hw : Cond.methodLink own idx Lib.Math.min.name ∈ gtbl) (w1 : Cond.static Lib.Math.min.name ∈ gtbl) (w2 : Cond.initialized "java/lang/Math" ∈ gtbl) (w3 : Cond.code Lib.Math.min.name Lib.Math.min.code 2 (some .int) ∈ gtbl) (hcat : (st.map fun v => v.category).sum ≤ 8) (hdg : decode cc pc = .ok (.invokestatic idx, 3)) (kk : J p l e h s m args below meth c E ad G n Q nL σ (pc + 3) lv (.int (if y < x then y else x) :: st)) : J p l e h s m args below meth c E ad G n Q nL σ pc lv (.int y :: .int x :: st) := fun H locs ls hls hP hS => by
  have hts := F.2.2.2.2.1
  exact va_mmin F.1 F.2.1 (by rw [F.2.2.1, hls.1]) F.2.2.2.1 (hts _ hw) (hts _ w1) (hts _ w2) (hts _ w3) (by show 1 ≤ h; omega) (by show _ ≤ 40 * h; omega) (Nat.zero_le _) (Nat.zero_le _) hdg (kk H locs ls hls hP hS)
theorem J_copyI (F : Fx p s m args meth c cc nL own E ad n ret) {idx k0 k1 L0 L1 : Nat} {sp dp z : Int32} (hh : 1 < h) (hw : Cond.methodLink own idx arraycopyName ∈ gtbl) (w1 : Cond.native arraycopyName ∈ gtbl) (w2 : Cond.static arraycopyName ∈ gtbl) (w3 : Cond.initialized "java/lang/System" ∈ gtbl) (ha0 : ArrI E G n k0 L0) (ha1 : ArrI E G n k1 L1) (hg : ¬ (sp < 0 ∨ dp < 0 ∨ z < 0 ∨ L0 < sp.toNatClampNeg + z.toNatClampNeg ∨ L1 < dp.toNatClampNeg + z.toNatClampNeg)) (hcat : (st.map fun v => v.category).sum ≤ 8) (hdg : decode cc pc = .ok (.invokestatic idx, 3)) (hσ : σ' = va_up σ k1 (va_cpy (σ k0) (σ k1) sp.toNatClampNeg dp.toNatClampNeg z.toNatClampNeg)) (kk : J p l e h s m args below meth c E ad G n Q nL σ' (pc + 3) lv st) : J p l e h s m args below meth c E ad G n Q nL σ pc lv (.int z :: .int dp :: .ref (ad k1) :: .int sp :: .ref (ad k0) :: st) := fun H locs ls hls hP hS => by
  have hts := F.2.2.2.2.1
  have he0 : (wl ad G n σ)[k0]? = some (ad k0, .inl (E.2.1, L0, .inl (σ k0))) := by rw [wl_get ha0.1, ha0.2]
  have he1 : (wl ad G n σ)[k1]? = some (ad k1, .inl (E.2.1, L1, .inl (σ k1))) := by rw [wl_get ha1.1, ha1.2]
  have hnw : nativeFrameWords "java/lang/System" "arraycopy" 5 + 11 ≤ 70 := by decide +kernel
  refine va_copyi F.1 F.2.1 (by rw [F.2.2.1, hls.1]) F.2.2.2.1 (hts _ hw) (hts _ w1) (hts _ w2) (hts _ w3) F.2.2.2.2.2.2.1 hP (wl_D F.2.2.2.2.2.2.2.1) hS k0 k1 0 0 he0 he1 (ty := .int) rfl rfl rfl (fun q => hg (Or.inl q)) (fun q => hg (Or.inr (Or.inl q))) (fun q => hg (Or.inr (Or.inr (Or.inl q)))) (Nat.not_lt.mp fun q => hg (Or.inr (Or.inr (Or.inr (Or.inl q))))) (Nat.not_lt.mp fun q => hg (Or.inr (Or.inr (Or.inr (Or.inr q))))) (fun _ _ => rfl) (by show 1 ≤ h; omega) (by show _ ≤ 40 * h; omega) hdg (fun H1 locs1 hP1 hD1 hS1 => ?_)
  rw [← ha1.2, wl_set ha1.1] at hP1
  subst hσ
  exact kk H1 locs1 ls hls hP1 hS1
abbrev QI (below : List Frame) (E : En) (ad : Nat → Nat) (G : Lay) (n : Nat) (args : Array Value) (s : State) (res : Int32 × St) : State → Prop := MQ below (mQ E ad G n (some (.int res.1)) res.2) args s 0 0 (adA ad n)
abbrev QU (below : List Frame) (E : En) (ad : Nat → Nat) (G : Lay) (n : Nat) (args : Array Value) (s : State) (res : Unit × St) : State → Prop := MQ below (mQ E ad G n none res.2) args s 0 0 (adA ad n)
abbrev QR (below : List Frame) (E : En) (ad : Nat → Nat) (G : Lay) (n : Nat) (args : Array Value) (s : State) (res : Option Nat × St) : State → Prop := MQ below (mQ E ad G n (some (va_re ad res.1)) res.2) args s 0 0 (adA ad n)
theorem J_iret {ty : FieldType} (F : Fx p s m args meth c cc nL own E ad n (some ty)) {v : Int32} {res : Int32 × St} (hn : narrow ty (.int v) = .int v) (hdg : decode cc pc = .ok (.ireturn, 1)) (hf : some (v, σ) = some res) : J p l e h s m args below meth c E ad G n (QI below E ad G n args s res) nL σ pc lv [.int v] := by
  cases hf
  intro H locs ls hls hP hS
  have hlk := F.2.2.2.2.2.2.2.2.2
  exact W.zret F.1 F.2.1 F.2.2.2.2.2.2.2.2.1 hn (fun t ht _ => ⟨rfl, by rw [ht]; exact hP, hS.F ht⟩) hS.2.2 hdg hlk
theorem J_vret (F : Fx p s m args meth c cc nL own E ad n none) {res : Unit × St} (hdg : decode cc pc = .ok (.return_, 1)) (hf : some ((), σ) = some res) : J p l e h s m args below meth c E ad G n (QU below E ad G n args s res) nL σ pc lv [] := by
  cases hf
  intro H locs ls hls hP hS
  have hlk := F.2.2.2.2.2.2.2.2.2
  exact W.vret F.1 F.2.1 F.2.2.2.2.2.2.2.2.1 (fun t ht _ => ⟨rfl, by rw [ht]; exact hP, hS.F ht⟩) hS.2.2 hdg hlk
theorem J_aret {rt : String} (F : Fx p s m args meth c cc nL own E ad n (some (.object rt))) {x : Nat} {res : Option Nat × St} (hdg : decode cc pc = .ok (.areturn, 1)) (hf : some (some x, σ) = some res) : J p l e h s m args below meth c E ad G n (QR below E ad G n args s res) nL σ pc lv [.ref (ad x)] := by
  cases hf
  intro H locs ls hls hP hS
  have hlk := F.2.2.2.2.2.2.2.2.2
  exact W.aret (v := .ref (ad x)) F.1 F.2.1 F.2.2.2.2.2.2.2.2.1 (Or.inl ⟨rt, rfl⟩) (Or.inr ⟨_, rfl⟩) (fun t ht _ => ⟨rfl, by rw [ht]; exact hP, hS.F ht⟩) hS.2.2 hdg hlk
theorem J_aretN {rt : String} (F : Fx p s m args meth c cc nL own E ad n (some (.object rt))) {res : Option Nat × St} (hdg : decode cc pc = .ok (.areturn, 1)) (hf : some (none, σ) = some res) : J p l e h s m args below meth c E ad G n (QR below E ad G n args s res) nL σ pc lv [.null] := by
  cases hf
  intro H locs ls hls hP hS
  have hlk := F.2.2.2.2.2.2.2.2.2
  exact W.aret (v := .null) F.1 F.2.1 F.2.2.2.2.2.2.2.2.1 (Or.inl ⟨rt, rfl⟩) (Or.inl rfl) (fun t ht _ => ⟨rfl, by rw [ht]; exact hP, hS.F ht⟩) hS.2.2 hdg hlk
theorem J_callSI (F : Fx p s m args meth c cc nL own E ad n ret) {y : MethodName} {bytes : ByteArray} {maxL h' idx k : Nat} {ret' : Option FieldType} {As rest : List Value} {r : Int32} (hC : Ct l y bytes maxL ret' h' E ad G n As σ (some (.int r)) σ') (hh : h' < h) (hm : maxL ≤ 21) (hW : WcS y bytes maxL ret' k) (hw : Cond.methodLink own idx y ∈ gtbl) (hk : As.length = k) (hst : st = As.reverse ++ rest) (hcat : (rest.map fun v => v.category).sum ≤ 8) (hdg : decode cc pc = .ok (.invokestatic idx, 3)) (kk : J p l e h s m args below meth c E ad G n Q nL σ' (pc + 3) lv (.int r :: rest)) : J p l e h s m args below meth c E ad G n Q nL σ pc lv st := J_callS F hC hh hm hW hw hk hst hcat hdg kk
theorem J_callSU (F : Fx p s m args meth c cc nL own E ad n ret) {y : MethodName} {bytes : ByteArray} {maxL h' idx k : Nat} {ret' : Option FieldType} {As rest : List Value} (hC : Ct l y bytes maxL ret' h' E ad G n As σ none σ') (hh : h' < h) (hm : maxL ≤ 21) (hW : WcS y bytes maxL ret' k) (hw : Cond.methodLink own idx y ∈ gtbl) (hk : As.length = k) (hst : st = As.reverse ++ rest) (hcat : (rest.map fun v => v.category).sum ≤ 8) (hdg : decode cc pc = .ok (.invokestatic idx, 3)) (kk : J p l e h s m args below meth c E ad G n Q nL σ' (pc + 3) lv rest) : J p l e h s m args below meth c E ad G n Q nL σ pc lv st := J_callS F hC hh hm hW hw hk hst hcat hdg kk
theorem J_callSR (F : Fx p s m args meth c cc nL own E ad n ret) {y : MethodName} {bytes : ByteArray} {maxL h' idx k : Nat} {ret' : Option FieldType} {As rest : List Value} {r : Option Nat} (hC : Ct l y bytes maxL ret' h' E ad G n As σ (some (va_re ad r)) σ') (hh : h' < h) (hm : maxL ≤ 21) (hW : WcS y bytes maxL ret' k) (hw : Cond.methodLink own idx y ∈ gtbl) (hk : As.length = k) (hst : st = As.reverse ++ rest) (hcat : (rest.map fun v => v.category).sum ≤ 8) (hdg : decode cc pc = .ok (.invokestatic idx, 3)) (kk : J p l e h s m args below meth c E ad G n Q nL σ' (pc + 3) lv (va_re ad r :: rest)) : J p l e h s m args below meth c E ad G n Q nL σ pc lv st := J_callS F hC hh hm hW hw hk hst hcat hdg kk
theorem J_callNI (F : Fx p s m args meth c cc nL own E ad n ret) {y : MethodName} {bytes : ByteArray} {maxL h' idx k : Nat} {host : String} {ret' : Option FieldType} {As rest : List Value} {r : Int32} (hC : Ct l y bytes maxL ret' h' E ad G n As σ (some (.int r)) σ') (hh : h' < h) (hm : maxL ≤ 21) (hW : WcS y bytes maxL ret' k) (hw : (own, idx, y, host) ∈ nestL) (hk : As.length = k) (hst : st = As.reverse ++ rest) (hcat : (rest.map fun v => v.category).sum ≤ 8) (hdg : decode cc pc = .ok (.invokestatic idx, 3)) (kk : J p l e h s m args below meth c E ad G n Q nL σ' (pc + 3) lv (.int r :: rest)) : J p l e h s m args below meth c E ad G n Q nL σ pc lv st := J_callN F hC hh hm hW hw hk hst hcat hdg kk
theorem J_callNU (F : Fx p s m args meth c cc nL own E ad n ret) {y : MethodName} {bytes : ByteArray} {maxL h' idx k : Nat} {host : String} {ret' : Option FieldType} {As rest : List Value} (hC : Ct l y bytes maxL ret' h' E ad G n As σ none σ') (hh : h' < h) (hm : maxL ≤ 21) (hW : WcS y bytes maxL ret' k) (hw : (own, idx, y, host) ∈ nestL) (hk : As.length = k) (hst : st = As.reverse ++ rest) (hcat : (rest.map fun v => v.category).sum ≤ 8) (hdg : decode cc pc = .ok (.invokestatic idx, 3)) (kk : J p l e h s m args below meth c E ad G n Q nL σ' (pc + 3) lv rest) : J p l e h s m args below meth c E ad G n Q nL σ pc lv st := J_callN F hC hh hm hW hw hk hst hcat hdg kk
theorem J_callNR (F : Fx p s m args meth c cc nL own E ad n ret) {y : MethodName} {bytes : ByteArray} {maxL h' idx k : Nat} {host : String} {ret' : Option FieldType} {As rest : List Value} {r : Option Nat} (hC : Ct l y bytes maxL ret' h' E ad G n As σ (some (va_re ad r)) σ') (hh : h' < h) (hm : maxL ≤ 21) (hW : WcS y bytes maxL ret' k) (hw : (own, idx, y, host) ∈ nestL) (hk : As.length = k) (hst : st = As.reverse ++ rest) (hcat : (rest.map fun v => v.category).sum ≤ 8) (hdg : decode cc pc = .ok (.invokestatic idx, 3)) (kk : J p l e h s m args below meth c E ad G n Q nL σ' (pc + 3) lv (va_re ad r :: rest)) : J p l e h s m args below meth c E ad G n Q nL σ pc lv st := J_callN F hC hh hm hW hw hk hst hcat hdg kk
theorem J_callVI (F : Fx p s m args meth c cc nL own E ad n ret) {y : MethodName} {bytes : ByteArray} {maxL h' idx k b ci N : Nat} {T : u_T} {fs : List Value} {ret' : Option FieldType} {As rest : List Value} {r : Int32} (hC : Ct l y bytes maxL ret' h' E ad G n (.ref (ad b) :: As) σ (some (.int r)) σ') (hh : h' < h) (hm : maxL ≤ 21) (hn : b < n) (hG : G b (σ b) = .inr (ci, fs)) (hcl : vwCl[ci]? = some (y.cls, T, N)) (hW : WcV y bytes maxL ret' k) (hw : Cond.methodLink own idx y ∈ gtbl) (hk : As.length = k) (hst : st = As.reverse ++ .ref (ad b) :: rest) (hcat : (rest.map fun v => v.category).sum ≤ 8) (hdg : decode cc pc = .ok (.invokevirtual idx, 3)) (kk : J p l e h s m args below meth c E ad G n Q nL σ' (pc + 3) lv (.int r :: rest)) : J p l e h s m args below meth c E ad G n Q nL σ pc lv st := J_callV F hC hh hm hn hG hcl hW hw hk hst hcat hdg kk
theorem J_callVU (F : Fx p s m args meth c cc nL own E ad n ret) {y : MethodName} {bytes : ByteArray} {maxL h' idx k b ci N : Nat} {T : u_T} {fs : List Value} {ret' : Option FieldType} {As rest : List Value} (hC : Ct l y bytes maxL ret' h' E ad G n (.ref (ad b) :: As) σ none σ') (hh : h' < h) (hm : maxL ≤ 21) (hn : b < n) (hG : G b (σ b) = .inr (ci, fs)) (hcl : vwCl[ci]? = some (y.cls, T, N)) (hW : WcV y bytes maxL ret' k) (hw : Cond.methodLink own idx y ∈ gtbl) (hk : As.length = k) (hst : st = As.reverse ++ .ref (ad b) :: rest) (hcat : (rest.map fun v => v.category).sum ≤ 8) (hdg : decode cc pc = .ok (.invokevirtual idx, 3)) (kk : J p l e h s m args below meth c E ad G n Q nL σ' (pc + 3) lv rest) : J p l e h s m args below meth c E ad G n Q nL σ pc lv st := J_callV F hC hh hm hn hG hcl hW hw hk hst hcat hdg kk
theorem J_callVR (F : Fx p s m args meth c cc nL own E ad n ret) {y : MethodName} {bytes : ByteArray} {maxL h' idx k b ci N : Nat} {T : u_T} {fs : List Value} {ret' : Option FieldType} {As rest : List Value} {r : Option Nat} (hC : Ct l y bytes maxL ret' h' E ad G n (.ref (ad b) :: As) σ (some (va_re ad r)) σ') (hh : h' < h) (hm : maxL ≤ 21) (hn : b < n) (hG : G b (σ b) = .inr (ci, fs)) (hcl : vwCl[ci]? = some (y.cls, T, N)) (hW : WcV y bytes maxL ret' k) (hw : Cond.methodLink own idx y ∈ gtbl) (hk : As.length = k) (hst : st = As.reverse ++ .ref (ad b) :: rest) (hcat : (rest.map fun v => v.category).sum ≤ 8) (hdg : decode cc pc = .ok (.invokevirtual idx, 3)) (kk : J p l e h s m args below meth c E ad G n Q nL σ' (pc + 3) lv (va_re ad r :: rest)) : J p l e h s m args below meth c E ad G n Q nL σ pc lv st := J_callV F hC hh hm hn hG hcl hW hw hk hst hcat hdg kk
end JH
end
section
/-! shapes of the objects, their fields, the words, the constants -/
def TabAt (E : En) (ad : Nat → Nat) (G : Lay) (n t : Nat) : Prop := t + 9 ≤ n ∧ (∀ f, G t f = .inr (1, [.ref (ad (t + 1)), .ref (ad (t + 2)), .ref (ad (t + 3)), .ref (ad (t + 4)), .ref (ad (t + 5)), .ref (ad (t + 6)), .ref (ad (t + 7)), .ref (ad (t + 8)), .int (f 0), .int (f 1), .int (f 2), .int (f 3)])) ∧ ArrI E G n (t + 1) 8 ∧ ArrI E G n (t + 2) 5 ∧ ArrI E G n (t + 3) 5 ∧ ArrI E G n (t + 4) 5 ∧ ArrI E G n (t + 5) 5 ∧ ArrI E G n (t + 6) 40 ∧ ArrI E G n (t + 7) 40 ∧ ArrI E G n (t + 8) 5
def TxtAt (E : En) (ad : Nat → Nat) (G : Lay) (n : Nat) : Prop := 2 ≤ n ∧ (∀ f, G 0 f = .inr (2, [.ref (ad 1), .int (f 0), .int (f 1), .int (f 2)])) ∧ ArrI E G n 1 200
def HeaAt (E : En) (ad : Nat → Nat) (G : Lay) (n : Nat) : Prop := 207 ≤ n ∧ (∀ f, G 203 f = .inr (0, [.ref (ad 204), .ref (ad 205), .ref (ad 206), .int (f 0)])) ∧ ArrI E G n 204 6 ∧ ArrI E G n 205 6 ∧ ArrI E G n 206 6
def RowA (E : En) (ad : Nat → Nat) (G : Lay) (n r L : Nat) : Prop := RowT E ad G n r L ∧ ∀ j, j < L → TabAt E ad G n (r + 1 + 9 * j)
def RooAt (E : En) (ad : Nat → Nat) (G : Lay) (n : Nat) : Prop := 209 ≤ n ∧ (∀ f, G 208 f = .inr (3, [.ref (ad 0), .ref (ad 2), .ref (ad 11), .ref (ad 20), .ref (ad 29), .ref (ad 111), .ref (ad 184), .ref (ad 203), .ref (ad 207), .int (f 0), .int (f 1), .int (f 2)])) ∧ TxtAt E ad G n ∧ TabAt E ad G n 2 ∧ TabAt E ad G n 11 ∧ TabAt E ad G n 20 ∧ RowA E ad G n 29 9 ∧ RowA E ad G n 111 8 ∧ RowA E ad G n 184 2 ∧ HeaAt E ad G n ∧ ArrI E G n 207 10
def ModAt (E : En) (ad : Nat → Nat) (G : Lay) (n : Nat) : Prop := 10 ≤ n ∧ (∀ f, G 0 f = .inr (4, [.int (f 0), .ref (ad 1), .int (f 1), .int (f 2), .int (f 3), .ref (ad 2), .int (f 4), .int (f 5), .ref (ad 3), .int (f 6), .int (f 7), .int (f 8), .ref (ad 4), .int (f 9), .int (f 10), .int (f 11), .int (f 12), .ref (ad 5), .ref (ad 6), .ref (ad 7), .ref (ad 8), .ref (ad 9)])) ∧ ArrI E G n 1 8 ∧ ArrI E G n 2 8 ∧ ArrI E G n 3 1092 ∧ ArrB E G n 4 200 ∧ ArrI E G n 5 6 ∧ ArrI E G n 6 6 ∧ ArrI E G n 7 6 ∧ ArrI E G n 8 5 ∧ ArrI E G n 9 5
section JF
variable {p : Program} {l : Launch} {e : Env} {h : Nat} {s : State} {m : MethodId} {args : Array Value} {below : List Frame} {meth : Method} {c : Code} {E : En} {ad : Nat → Nat} {G : Lay} {n t : Nat} {Q : State → Prop} {nL : Nat} {σ σ' : St} {pc : Nat} {lv : List (Nat × Value)} {st : List Value} {cc : ByteArray} {own : String} {ret : Option FieldType}
theorem tabN (h : TabAt E ad G n t) : t < n := by have := h.1; omega
theorem tabA1 (h : TabAt E ad G n t) : ArrI E G n (t + 1) 8 := h.2.2.1
theorem tabA2 (h : TabAt E ad G n t) : ArrI E G n (t + 2) 5 := h.2.2.2.1
theorem tabA3 (h : TabAt E ad G n t) : ArrI E G n (t + 3) 5 := h.2.2.2.2.1
theorem tabA4 (h : TabAt E ad G n t) : ArrI E G n (t + 4) 5 := h.2.2.2.2.2.1
theorem tabA5 (h : TabAt E ad G n t) : ArrI E G n (t + 5) 5 := h.2.2.2.2.2.2.1
theorem tabA6 (h : TabAt E ad G n t) : ArrI E G n (t + 6) 40 := h.2.2.2.2.2.2.2.1
theorem tabA7 (h : TabAt E ad G n t) : ArrI E G n (t + 7) 40 := h.2.2.2.2.2.2.2.2.1
theorem tabA8 (h : TabAt E ad G n t) : ArrI E G n (t + 8) 5 := h.2.2.2.2.2.2.2.2.2
theorem txtN (h : TxtAt E ad G n) : 0 < n := by have := h.1; omega
theorem heaN (h : HeaAt E ad G n) : 203 < n := by have := h.1; omega
theorem rooN (h : RooAt E ad G n) : 208 < n := by have := h.1; omega
theorem modN (h : ModAt E ad G n) : 0 < n := by have := h.1; omega
theorem optTab (h : TabAt E ad G n t) : ∀ y, some t = some y → TabAt E ad G n y := fun y q => by cases q; exact h
theorem optNul : ∀ y : Nat, none = some y → TabAt E ad G n y := fun y q => by cases q
theorem rowIn {i : Int32} {L : Nat} (h : ¬ (i < 0 ∨ L ≤ i.toNatClampNeg)) : i.toNatClampNeg < L := Nat.not_le.mp fun q => h (Or.inr q)
theorem narZ {v : Int32} (h : ¬ ¬ (v = 0 ∨ v = 1)) : narrow .boolean (.int v) = .int v := by rcases Classical.not_not.mp h with rfl | rfl <;> rfl
theorem i32ne {x k : Int32} {z : Int} (hk : k.toInt = z) (h : ¬ x = k) : ¬ x.toInt = z := fun q => h (Int32.toInt_inj.mp (by rw [q, hk]))
theorem pnJ6 : plainName RJ6 = true := by decide +kernel
theorem pnX1 : plainName RX1 = true := by decide +kernel
theorem pnX2 : plainName RX2 = true := by decide +kernel
theorem pnX0 : plainName RX0 = true := by decide +kernel
theorem pnX3 : plainName RX3 = true := by decide +kernel
theorem pnX4 : plainName RX4 = true := by decide +kernel
theorem inGX1 : ∀ w ∈ u_ws RX1 TX1 12, w ∈ gtbl := fun w hw => gtbl_of (inX1 w hw) (List.all_eq_true.mp (show (u_ws RX1 TX1 12).all goodWord = true by decide +kernel) w hw)
theorem inGX2 : ∀ w ∈ u_ws RX2 TX2 4, w ∈ gtbl := fun w hw => gtbl_of (inX2 w hw) (List.all_eq_true.mp (show (u_ws RX2 TX2 4).all goodWord = true by decide +kernel) w hw)
theorem inGX0 : ∀ w ∈ u_ws RX0 TX0 4, w ∈ gtbl := fun w hw => gtbl_of (inX0 w hw) (List.all_eq_true.mp (show (u_ws RX0 TX0 4).all goodWord = true by decide +kernel) w hw)
theorem inGX3 : ∀ w ∈ u_ws RX3 TX3 12, w ∈ gtbl := fun w hw => gtbl_of (inX3 w hw) (List.all_eq_true.mp (show (u_ws RX3 TX3 12).all goodWord = true by decide +kernel) w hw)
theorem inGX4 : ∀ w ∈ u_ws RX4 TX4 22, w ∈ gtbl := fun w hw => gtbl_of (inX4 w hw) (List.all_eq_true.mp (show (u_ws RX4 TX4 22).all goodWord = true by decide +kernel) w hw)
theorem gfX1_sounds (F : Fx p s m args meth c cc nL own E ad n ret) (ho : TabAt E ad G n t) {i : Nat} (hw : Cond.fieldLink own i RX1 "sounds" "[I" ∈ gtbl) (hdg : decode cc pc = .ok (.getfield i, 3)) (kk : J p l e h s m args below meth c E ad G n Q nL σ (pc + 3) lv (.ref (ad (t + 1)) :: st)) : J p l e h s m args below meth c E ad G n Q nL σ pc lv (.ref (ad t) :: st) := J_getG F (C := RX1) (T := TX1) (N := 12) (k := 0) inGX1 rfl (tabN ho) (ho.2.1 _) (by decide) hw rfl hdg kk
theorem gfX1_kind (F : Fx p s m args meth c cc nL own E ad n ret) (ho : TabAt E ad G n t) {i : Nat} (hw : Cond.fieldLink own i RX1 "kind" "[I" ∈ gtbl) (hdg : decode cc pc = .ok (.getfield i, 3)) (kk : J p l e h s m args below meth c E ad G n Q nL σ (pc + 3) lv (.ref (ad (t + 2)) :: st)) : J p l e h s m args below meth c E ad G n Q nL σ pc lv (.ref (ad t) :: st) := J_getG F (C := RX1) (T := TX1) (N := 12) (k := 1) inGX1 rfl (tabN ho) (ho.2.1 _) (by decide) hw rfl hdg kk
theorem gfX1_memory (F : Fx p s m args meth c cc nL own E ad n ret) (ho : TabAt E ad G n t) {i : Nat} (hw : Cond.fieldLink own i RX1 "memory" "[I" ∈ gtbl) (hdg : decode cc pc = .ok (.getfield i, 3)) (kk : J p l e h s m args below meth c E ad G n Q nL σ (pc + 3) lv (.ref (ad (t + 3)) :: st)) : J p l e h s m args below meth c E ad G n Q nL σ pc lv (.ref (ad t) :: st) := J_getG F (C := RX1) (T := TX1) (N := 12) (k := 2) inGX1 rfl (tabN ho) (ho.2.1 _) (by decide) hw rfl hdg kk
theorem gfX1_has (F : Fx p s m args meth c cc nL own E ad n ret) (ho : TabAt E ad G n t) {i : Nat} (hw : Cond.fieldLink own i RX1 "has" "[I" ∈ gtbl) (hdg : decode cc pc = .ok (.getfield i, 3)) (kk : J p l e h s m args below meth c E ad G n Q nL σ (pc + 3) lv (.ref (ad (t + 4)) :: st)) : J p l e h s m args below meth c E ad G n Q nL σ pc lv (.ref (ad t) :: st) := J_getG F (C := RX1) (T := TX1) (N := 12) (k := 3) inGX1 rfl (tabN ho) (ho.2.1 _) (by decide) hw rfl hdg kk
theorem gfX1_right (F : Fx p s m args meth c cc nL own E ad n ret) (ho : TabAt E ad G n t) {i : Nat} (hw : Cond.fieldLink own i RX1 "right" "[I" ∈ gtbl) (hdg : decode cc pc = .ok (.getfield i, 3)) (kk : J p l e h s m args below meth c E ad G n Q nL σ (pc + 3) lv (.ref (ad (t + 5)) :: st)) : J p l e h s m args below meth c E ad G n Q nL σ pc lv (.ref (ad t) :: st) := J_getG F (C := RX1) (T := TX1) (N := 12) (k := 4) inGX1 rfl (tabN ho) (ho.2.1 _) (by decide) hw rfl hdg kk
theorem gfX1_way (F : Fx p s m args meth c cc nL own E ad n ret) (ho : TabAt E ad G n t) {i : Nat} (hw : Cond.fieldLink own i RX1 "way" "[I" ∈ gtbl) (hdg : decode cc pc = .ok (.getfield i, 3)) (kk : J p l e h s m args below meth c E ad G n Q nL σ (pc + 3) lv (.ref (ad (t + 6)) :: st)) : J p l e h s m args below meth c E ad G n Q nL σ pc lv (.ref (ad t) :: st) := J_getG F (C := RX1) (T := TX1) (N := 12) (k := 5) inGX1 rfl (tabN ho) (ho.2.1 _) (by decide) hw rfl hdg kk
theorem gfX1_age (F : Fx p s m args meth c cc nL own E ad n ret) (ho : TabAt E ad G n t) {i : Nat} (hw : Cond.fieldLink own i RX1 "age" "[I" ∈ gtbl) (hdg : decode cc pc = .ok (.getfield i, 3)) (kk : J p l e h s m args below meth c E ad G n Q nL σ (pc + 3) lv (.ref (ad (t + 7)) :: st)) : J p l e h s m args below meth c E ad G n Q nL σ pc lv (.ref (ad t) :: st) := J_getG F (C := RX1) (T := TX1) (N := 12) (k := 6) inGX1 rfl (tabN ho) (ho.2.1 _) (by decide) hw rfl hdg kk
theorem gfX1_told (F : Fx p s m args meth c cc nL own E ad n ret) (ho : TabAt E ad G n t) {i : Nat} (hw : Cond.fieldLink own i RX1 "told" "[I" ∈ gtbl) (hdg : decode cc pc = .ok (.getfield i, 3)) (kk : J p l e h s m args below meth c E ad G n Q nL σ (pc + 3) lv (.ref (ad (t + 8)) :: st)) : J p l e h s m args below meth c E ad G n Q nL σ pc lv (.ref (ad t) :: st) := J_getG F (C := RX1) (T := TX1) (N := 12) (k := 7) inGX1 rfl (tabN ho) (ho.2.1 _) (by decide) hw rfl hdg kk
theorem gfX1_words (F : Fx p s m args meth c cc nL own E ad n ret) (ho : TabAt E ad G n t) {i : Nat} (hw : Cond.fieldLink own i RX1 "words" "I" ∈ gtbl) (hdg : decode cc pc = .ok (.getfield i, 3)) (kk : J p l e h s m args below meth c E ad G n Q nL σ (pc + 3) lv (.int (σ t 0) :: st)) : J p l e h s m args below meth c E ad G n Q nL σ pc lv (.ref (ad t) :: st) := J_getG F (C := RX1) (T := TX1) (N := 12) (k := 8) inGX1 rfl (tabN ho) (ho.2.1 _) (by decide) hw rfl hdg kk
theorem pfX1_words (F : Fx p s m args meth c cc nL own E ad n ret) {v : Int32} (ho : TabAt E ad G n t) {i : Nat} (hw : Cond.fieldLink own i RX1 "words" "I" ∈ gtbl) (hdg : decode cc pc = .ok (.putfield i, 3)) (hσ : σ' = w2 σ t 0 v) (kk : J p l e h s m args below meth c E ad G n Q nL σ' (pc + 3) lv st) : J p l e h s m args below meth c E ad G n Q nL σ pc lv (.int v :: .ref (ad t) :: st) := J_putG F (C := RX1) (T := TX1) (N := 12) (k := 8) (j := 0) (ty := .int) (fs := fun f => [.ref (ad (t + 1)), .ref (ad (t + 2)), .ref (ad (t + 3)), .ref (ad (t + 4)), .ref (ad (t + 5)), .ref (ad (t + 6)), .ref (ad (t + 7)), .ref (ad (t + 8)), .int (f 0), .int (f 1), .int (f 2), .int (f 3)]) inGX1 rfl tyX1 tyX1_ok nmX1 (tabN ho) ho.2.1 (by decide) rfl (by decide +kernel) rfl rfl (fun _ => Nat.le_of_ble_eq_true rfl) (fun _ => rfl) hw hdg hσ kk
theorem gfX1_wooers (F : Fx p s m args meth c cc nL own E ad n ret) (ho : TabAt E ad G n t) {i : Nat} (hw : Cond.fieldLink own i RX1 "wooers" "I" ∈ gtbl) (hdg : decode cc pc = .ok (.getfield i, 3)) (kk : J p l e h s m args below meth c E ad G n Q nL σ (pc + 3) lv (.int (σ t 1) :: st)) : J p l e h s m args below meth c E ad G n Q nL σ pc lv (.ref (ad t) :: st) := J_getG F (C := RX1) (T := TX1) (N := 12) (k := 9) inGX1 rfl (tabN ho) (ho.2.1 _) (by decide) hw rfl hdg kk
theorem pfX1_wooers (F : Fx p s m args meth c cc nL own E ad n ret) {v : Int32} (ho : TabAt E ad G n t) {i : Nat} (hw : Cond.fieldLink own i RX1 "wooers" "I" ∈ gtbl) (hdg : decode cc pc = .ok (.putfield i, 3)) (hσ : σ' = w2 σ t 1 v) (kk : J p l e h s m args below meth c E ad G n Q nL σ' (pc + 3) lv st) : J p l e h s m args below meth c E ad G n Q nL σ pc lv (.int v :: .ref (ad t) :: st) := J_putG F (C := RX1) (T := TX1) (N := 12) (k := 9) (j := 1) (ty := .int) (fs := fun f => [.ref (ad (t + 1)), .ref (ad (t + 2)), .ref (ad (t + 3)), .ref (ad (t + 4)), .ref (ad (t + 5)), .ref (ad (t + 6)), .ref (ad (t + 7)), .ref (ad (t + 8)), .int (f 0), .int (f 1), .int (f 2), .int (f 3)]) inGX1 rfl tyX1 tyX1_ok nmX1 (tabN ho) ho.2.1 (by decide) rfl (by decide +kernel) rfl rfl (fun _ => Nat.le_of_ble_eq_true rfl) (fun _ => rfl) hw hdg hσ kk
theorem gfX1_need (F : Fx p s m args meth c cc nL own E ad n ret) (ho : TabAt E ad G n t) {i : Nat} (hw : Cond.fieldLink own i RX1 "need" "I" ∈ gtbl) (hdg : decode cc pc = .ok (.getfield i, 3)) (kk : J p l e h s m args below meth c E ad G n Q nL σ (pc + 3) lv (.int (σ t 2) :: st)) : J p l e h s m args below meth c E ad G n Q nL σ pc lv (.ref (ad t) :: st) := J_getG F (C := RX1) (T := TX1) (N := 12) (k := 10) inGX1 rfl (tabN ho) (ho.2.1 _) (by decide) hw rfl hdg kk
theorem pfX1_need (F : Fx p s m args meth c cc nL own E ad n ret) {v : Int32} (ho : TabAt E ad G n t) {i : Nat} (hw : Cond.fieldLink own i RX1 "need" "I" ∈ gtbl) (hdg : decode cc pc = .ok (.putfield i, 3)) (hσ : σ' = w2 σ t 2 v) (kk : J p l e h s m args below meth c E ad G n Q nL σ' (pc + 3) lv st) : J p l e h s m args below meth c E ad G n Q nL σ pc lv (.int v :: .ref (ad t) :: st) := J_putG F (C := RX1) (T := TX1) (N := 12) (k := 10) (j := 2) (ty := .int) (fs := fun f => [.ref (ad (t + 1)), .ref (ad (t + 2)), .ref (ad (t + 3)), .ref (ad (t + 4)), .ref (ad (t + 5)), .ref (ad (t + 6)), .ref (ad (t + 7)), .ref (ad (t + 8)), .int (f 0), .int (f 1), .int (f 2), .int (f 3)]) inGX1 rfl tyX1 tyX1_ok nmX1 (tabN ho) ho.2.1 (by decide) rfl (by decide +kernel) rfl rfl (fun _ => Nat.le_of_ble_eq_true rfl) (fun _ => rfl) hw hdg hσ kk
theorem gfX1_days (F : Fx p s m args meth c cc nL own E ad n ret) (ho : TabAt E ad G n t) {i : Nat} (hw : Cond.fieldLink own i RX1 "days" "I" ∈ gtbl) (hdg : decode cc pc = .ok (.getfield i, 3)) (kk : J p l e h s m args below meth c E ad G n Q nL σ (pc + 3) lv (.int (σ t 3) :: st)) : J p l e h s m args below meth c E ad G n Q nL σ pc lv (.ref (ad t) :: st) := J_getG F (C := RX1) (T := TX1) (N := 12) (k := 11) inGX1 rfl (tabN ho) (ho.2.1 _) (by decide) hw rfl hdg kk
theorem pfX1_days (F : Fx p s m args meth c cc nL own E ad n ret) {v : Int32} (ho : TabAt E ad G n t) {i : Nat} (hw : Cond.fieldLink own i RX1 "days" "I" ∈ gtbl) (hdg : decode cc pc = .ok (.putfield i, 3)) (hσ : σ' = w2 σ t 3 v) (kk : J p l e h s m args below meth c E ad G n Q nL σ' (pc + 3) lv st) : J p l e h s m args below meth c E ad G n Q nL σ pc lv (.int v :: .ref (ad t) :: st) := J_putG F (C := RX1) (T := TX1) (N := 12) (k := 11) (j := 3) (ty := .int) (fs := fun f => [.ref (ad (t + 1)), .ref (ad (t + 2)), .ref (ad (t + 3)), .ref (ad (t + 4)), .ref (ad (t + 5)), .ref (ad (t + 6)), .ref (ad (t + 7)), .ref (ad (t + 8)), .int (f 0), .int (f 1), .int (f 2), .int (f 3)]) inGX1 rfl tyX1 tyX1_ok nmX1 (tabN ho) ho.2.1 (by decide) rfl (by decide +kernel) rfl rfl (fun _ => Nat.le_of_ble_eq_true rfl) (fun _ => rfl) hw hdg hσ kk
theorem gfX2_letters (F : Fx p s m args meth c cc nL own E ad n ret) (ho : TxtAt E ad G n) {i : Nat} (hw : Cond.fieldLink own i RX2 "letters" "[I" ∈ gtbl) (hdg : decode cc pc = .ok (.getfield i, 3)) (kk : J p l e h s m args below meth c E ad G n Q nL σ (pc + 3) lv (.ref (ad 1) :: st)) : J p l e h s m args below meth c E ad G n Q nL σ pc lv (.ref (ad 0) :: st) := J_getG F (C := RX2) (T := TX2) (N := 4) (k := 0) inGX2 rfl (txtN ho) (ho.2.1 _) (by decide) hw rfl hdg kk
theorem gfX2_length (F : Fx p s m args meth c cc nL own E ad n ret) (ho : TxtAt E ad G n) {i : Nat} (hw : Cond.fieldLink own i RX2 "length" "I" ∈ gtbl) (hdg : decode cc pc = .ok (.getfield i, 3)) (kk : J p l e h s m args below meth c E ad G n Q nL σ (pc + 3) lv (.int (σ 0 0) :: st)) : J p l e h s m args below meth c E ad G n Q nL σ pc lv (.ref (ad 0) :: st) := J_getG F (C := RX2) (T := TX2) (N := 4) (k := 1) inGX2 rfl (txtN ho) (ho.2.1 _) (by decide) hw rfl hdg kk
theorem pfX2_length (F : Fx p s m args meth c cc nL own E ad n ret) {v : Int32} (ho : TxtAt E ad G n) {i : Nat} (hw : Cond.fieldLink own i RX2 "length" "I" ∈ gtbl) (hdg : decode cc pc = .ok (.putfield i, 3)) (hσ : σ' = w2 σ 0 0 v) (kk : J p l e h s m args below meth c E ad G n Q nL σ' (pc + 3) lv st) : J p l e h s m args below meth c E ad G n Q nL σ pc lv (.int v :: .ref (ad 0) :: st) := J_putG F (C := RX2) (T := TX2) (N := 4) (k := 1) (j := 0) (ty := .int) (fs := fun f => [.ref (ad 1), .int (f 0), .int (f 1), .int (f 2)]) inGX2 rfl tyX2 tyX2_ok nmX2 (txtN ho) ho.2.1 (by decide) rfl (by decide +kernel) rfl rfl (fun _ => Nat.le_of_ble_eq_true rfl) (fun _ => rfl) hw hdg hσ kk
theorem gfX2_place (F : Fx p s m args meth c cc nL own E ad n ret) (ho : TxtAt E ad G n) {i : Nat} (hw : Cond.fieldLink own i RX2 "place" "I" ∈ gtbl) (hdg : decode cc pc = .ok (.getfield i, 3)) (kk : J p l e h s m args below meth c E ad G n Q nL σ (pc + 3) lv (.int (σ 0 1) :: st)) : J p l e h s m args below meth c E ad G n Q nL σ pc lv (.ref (ad 0) :: st) := J_getG F (C := RX2) (T := TX2) (N := 4) (k := 2) inGX2 rfl (txtN ho) (ho.2.1 _) (by decide) hw rfl hdg kk
theorem pfX2_place (F : Fx p s m args meth c cc nL own E ad n ret) {v : Int32} (ho : TxtAt E ad G n) {i : Nat} (hw : Cond.fieldLink own i RX2 "place" "I" ∈ gtbl) (hdg : decode cc pc = .ok (.putfield i, 3)) (hσ : σ' = w2 σ 0 1 v) (kk : J p l e h s m args below meth c E ad G n Q nL σ' (pc + 3) lv st) : J p l e h s m args below meth c E ad G n Q nL σ pc lv (.int v :: .ref (ad 0) :: st) := J_putG F (C := RX2) (T := TX2) (N := 4) (k := 2) (j := 1) (ty := .int) (fs := fun f => [.ref (ad 1), .int (f 0), .int (f 1), .int (f 2)]) inGX2 rfl tyX2 tyX2_ok nmX2 (txtN ho) ho.2.1 (by decide) rfl (by decide +kernel) rfl rfl (fun _ => Nat.le_of_ble_eq_true rfl) (fun _ => rfl) hw hdg hσ kk
theorem gfX2_pastTongue (F : Fx p s m args meth c cc nL own E ad n ret) (ho : TxtAt E ad G n) {i : Nat} (hw : Cond.fieldLink own i RX2 "pastTongue" "Z" ∈ gtbl) (hdg : decode cc pc = .ok (.getfield i, 3)) (kk : J p l e h s m args below meth c E ad G n Q nL σ (pc + 3) lv (.int (σ 0 2) :: st)) : J p l e h s m args below meth c E ad G n Q nL σ pc lv (.ref (ad 0) :: st) := J_getG F (C := RX2) (T := TX2) (N := 4) (k := 3) inGX2 rfl (txtN ho) (ho.2.1 _) (by decide) hw rfl hdg kk
theorem pfX2_pastTongue (F : Fx p s m args meth c cc nL own E ad n ret) {v : Int32} (ho : TxtAt E ad G n) (hz : v = 0 ∨ v = 1) {i : Nat} (hw : Cond.fieldLink own i RX2 "pastTongue" "Z" ∈ gtbl) (hdg : decode cc pc = .ok (.putfield i, 3)) (hσ : σ' = w2 σ 0 2 v) (kk : J p l e h s m args below meth c E ad G n Q nL σ' (pc + 3) lv st) : J p l e h s m args below meth c E ad G n Q nL σ pc lv (.int v :: .ref (ad 0) :: st) := J_putG F (C := RX2) (T := TX2) (N := 4) (k := 3) (j := 2) (ty := .boolean) (fs := fun f => [.ref (ad 1), .int (f 0), .int (f 1), .int (f 2)]) inGX2 rfl tyX2 tyX2_ok nmX2 (txtN ho) ho.2.1 (by decide) rfl (by decide +kernel) (by rcases hz with rfl | rfl <;> rfl) (by rcases hz with rfl | rfl <;> rfl) (fun _ => Nat.le_of_ble_eq_true rfl) (fun _ => rfl) hw hdg hσ kk
theorem gfX0_word (F : Fx p s m args meth c cc nL own E ad n ret) (ho : HeaAt E ad G n) {i : Nat} (hw : Cond.fieldLink own i RX0 "word" "[I" ∈ gtbl) (hdg : decode cc pc = .ok (.getfield i, 3)) (kk : J p l e h s m args below meth c E ad G n Q nL σ (pc + 3) lv (.ref (ad 204) :: st)) : J p l e h s m args below meth c E ad G n Q nL σ pc lv (.ref (ad 203) :: st) := J_getG F (C := RX0) (T := TX0) (N := 4) (k := 0) inGX0 rfl (heaN ho) (ho.2.1 _) (by decide) hw rfl hdg kk
theorem gfX0_sound (F : Fx p s m args meth c cc nL own E ad n ret) (ho : HeaAt E ad G n) {i : Nat} (hw : Cond.fieldLink own i RX0 "sound" "[I" ∈ gtbl) (hdg : decode cc pc = .ok (.getfield i, 3)) (kk : J p l e h s m args below meth c E ad G n Q nL σ (pc + 3) lv (.ref (ad 205) :: st)) : J p l e h s m args below meth c E ad G n Q nL σ pc lv (.ref (ad 203) :: st) := J_getG F (C := RX0) (T := TX0) (N := 4) (k := 1) inGX0 rfl (heaN ho) (ho.2.1 _) (by decide) hw rfl hdg kk
theorem gfX0_day (F : Fx p s m args meth c cc nL own E ad n ret) (ho : HeaAt E ad G n) {i : Nat} (hw : Cond.fieldLink own i RX0 "day" "[I" ∈ gtbl) (hdg : decode cc pc = .ok (.getfield i, 3)) (kk : J p l e h s m args below meth c E ad G n Q nL σ (pc + 3) lv (.ref (ad 206) :: st)) : J p l e h s m args below meth c E ad G n Q nL σ pc lv (.ref (ad 203) :: st) := J_getG F (C := RX0) (T := TX0) (N := 4) (k := 2) inGX0 rfl (heaN ho) (ho.2.1 _) (by decide) hw rfl hdg kk
theorem gfX0_count (F : Fx p s m args meth c cc nL own E ad n ret) (ho : HeaAt E ad G n) {i : Nat} (hw : Cond.fieldLink own i RX0 "count" "I" ∈ gtbl) (hdg : decode cc pc = .ok (.getfield i, 3)) (kk : J p l e h s m args below meth c E ad G n Q nL σ (pc + 3) lv (.int (σ 203 0) :: st)) : J p l e h s m args below meth c E ad G n Q nL σ pc lv (.ref (ad 203) :: st) := J_getG F (C := RX0) (T := TX0) (N := 4) (k := 3) inGX0 rfl (heaN ho) (ho.2.1 _) (by decide) hw rfl hdg kk
theorem pfX0_count (F : Fx p s m args meth c cc nL own E ad n ret) {v : Int32} (ho : HeaAt E ad G n) {i : Nat} (hw : Cond.fieldLink own i RX0 "count" "I" ∈ gtbl) (hdg : decode cc pc = .ok (.putfield i, 3)) (hσ : σ' = w2 σ 203 0 v) (kk : J p l e h s m args below meth c E ad G n Q nL σ' (pc + 3) lv st) : J p l e h s m args below meth c E ad G n Q nL σ pc lv (.int v :: .ref (ad 203) :: st) := J_putG F (C := RX0) (T := TX0) (N := 4) (k := 3) (j := 0) (ty := .int) (fs := fun f => [.ref (ad 204), .ref (ad 205), .ref (ad 206), .int (f 0)]) inGX0 rfl tyX0 tyX0_ok nmX0 (heaN ho) ho.2.1 (by decide) rfl (by decide +kernel) rfl rfl (fun _ => Nat.le_of_ble_eq_true rfl) (fun _ => rfl) hw hdg hσ kk
theorem gfX3_text (F : Fx p s m args meth c cc nL own E ad n ret) (ho : RooAt E ad G n) {i : Nat} (hw : Cond.fieldLink own i RX3 "text" "LLastTongue$Text;" ∈ gtbl) (hdg : decode cc pc = .ok (.getfield i, 3)) (kk : J p l e h s m args below meth c E ad G n Q nL σ (pc + 3) lv (.ref (ad 0) :: st)) : J p l e h s m args below meth c E ad G n Q nL σ pc lv (.ref (ad 208) :: st) := J_getG F (C := RX3) (T := TX3) (N := 12) (k := 0) inGX3 rfl (rooN ho) (ho.2.1 _) (by decide) hw rfl hdg kk
theorem gfX3_now (F : Fx p s m args meth c cc nL own E ad n ret) (ho : RooAt E ad G n) {i : Nat} (hw : Cond.fieldLink own i RX3 "now" "LLastTongue$Table;" ∈ gtbl) (hdg : decode cc pc = .ok (.getfield i, 3)) (kk : J p l e h s m args below meth c E ad G n Q nL σ (pc + 3) lv (.ref (ad 2) :: st)) : J p l e h s m args below meth c E ad G n Q nL σ pc lv (.ref (ad 208) :: st) := J_getG F (C := RX3) (T := TX3) (N := 12) (k := 1) inGX3 rfl (rooN ho) (ho.2.1 _) (by decide) hw rfl hdg kk
theorem gfX3_draft (F : Fx p s m args meth c cc nL own E ad n ret) (ho : RooAt E ad G n) {i : Nat} (hw : Cond.fieldLink own i RX3 "draft" "LLastTongue$Table;" ∈ gtbl) (hdg : decode cc pc = .ok (.getfield i, 3)) (kk : J p l e h s m args below meth c E ad G n Q nL σ (pc + 3) lv (.ref (ad 11) :: st)) : J p l e h s m args below meth c E ad G n Q nL σ pc lv (.ref (ad 208) :: st) := J_getG F (C := RX3) (T := TX3) (N := 12) (k := 2) inGX3 rfl (rooN ho) (ho.2.1 _) (by decide) hw rfl hdg kk
theorem gfX3_trial (F : Fx p s m args meth c cc nL own E ad n ret) (ho : RooAt E ad G n) {i : Nat} (hw : Cond.fieldLink own i RX3 "trial" "LLastTongue$Table;" ∈ gtbl) (hdg : decode cc pc = .ok (.getfield i, 3)) (kk : J p l e h s m args below meth c E ad G n Q nL σ (pc + 3) lv (.ref (ad 20) :: st)) : J p l e h s m args below meth c E ad G n Q nL σ pc lv (.ref (ad 208) :: st) := J_getG F (C := RX3) (T := TX3) (N := 12) (k := 3) inGX3 rfl (rooN ho) (ho.2.1 _) (by decide) hw rfl hdg kk
theorem gfX3_levels (F : Fx p s m args meth c cc nL own E ad n ret) (ho : RooAt E ad G n) {i : Nat} (hw : Cond.fieldLink own i RX3 "levels" "[LLastTongue$Table;" ∈ gtbl) (hdg : decode cc pc = .ok (.getfield i, 3)) (kk : J p l e h s m args below meth c E ad G n Q nL σ (pc + 3) lv (.ref (ad 29) :: st)) : J p l e h s m args below meth c E ad G n Q nL σ pc lv (.ref (ad 208) :: st) := J_getG F (C := RX3) (T := TX3) (N := 12) (k := 4) inGX3 rfl (rooN ho) (ho.2.1 _) (by decide) hw rfl hdg kk
theorem gfX3_past (F : Fx p s m args meth c cc nL own E ad n ret) (ho : RooAt E ad G n) {i : Nat} (hw : Cond.fieldLink own i RX3 "past" "[LLastTongue$Table;" ∈ gtbl) (hdg : decode cc pc = .ok (.getfield i, 3)) (kk : J p l e h s m args below meth c E ad G n Q nL σ (pc + 3) lv (.ref (ad 111) :: st)) : J p l e h s m args below meth c E ad G n Q nL σ pc lv (.ref (ad 208) :: st) := J_getG F (C := RX3) (T := TX3) (N := 12) (k := 5) inGX3 rfl (rooN ho) (ho.2.1 _) (by decide) hw rfl hdg kk
theorem gfX3_stored (F : Fx p s m args meth c cc nL own E ad n ret) (ho : RooAt E ad G n) {i : Nat} (hw : Cond.fieldLink own i RX3 "stored" "[LLastTongue$Table;" ∈ gtbl) (hdg : decode cc pc = .ok (.getfield i, 3)) (kk : J p l e h s m args below meth c E ad G n Q nL σ (pc + 3) lv (.ref (ad 184) :: st)) : J p l e h s m args below meth c E ad G n Q nL σ pc lv (.ref (ad 208) :: st) := J_getG F (C := RX3) (T := TX3) (N := 12) (k := 6) inGX3 rfl (rooN ho) (ho.2.1 _) (by decide) hw rfl hdg kk
theorem gfX3_heard (F : Fx p s m args meth c cc nL own E ad n ret) (ho : RooAt E ad G n) {i : Nat} (hw : Cond.fieldLink own i RX3 "heard" "LLastTongue$Hearsay;" ∈ gtbl) (hdg : decode cc pc = .ok (.getfield i, 3)) (kk : J p l e h s m args below meth c E ad G n Q nL σ (pc + 3) lv (.ref (ad 203) :: st)) : J p l e h s m args below meth c E ad G n Q nL σ pc lv (.ref (ad 208) :: st) := J_getG F (C := RX3) (T := TX3) (N := 12) (k := 7) inGX3 rfl (rooN ho) (ho.2.1 _) (by decide) hw rfl hdg kk
theorem gfX3_pairs (F : Fx p s m args meth c cc nL own E ad n ret) (ho : RooAt E ad G n) {i : Nat} (hw : Cond.fieldLink own i RX3 "pairs" "[I" ∈ gtbl) (hdg : decode cc pc = .ok (.getfield i, 3)) (kk : J p l e h s m args below meth c E ad G n Q nL σ (pc + 3) lv (.ref (ad 207) :: st)) : J p l e h s m args below meth c E ad G n Q nL σ pc lv (.ref (ad 208) :: st) := J_getG F (C := RX3) (T := TX3) (N := 12) (k := 8) inGX3 rfl (rooN ho) (ho.2.1 _) (by decide) hw rfl hdg kk
theorem gfX3_undos (F : Fx p s m args meth c cc nL own E ad n ret) (ho : RooAt E ad G n) {i : Nat} (hw : Cond.fieldLink own i RX3 "undos" "I" ∈ gtbl) (hdg : decode cc pc = .ok (.getfield i, 3)) (kk : J p l e h s m args below meth c E ad G n Q nL σ (pc + 3) lv (.int (σ 208 0) :: st)) : J p l e h s m args below meth c E ad G n Q nL σ pc lv (.ref (ad 208) :: st) := J_getG F (C := RX3) (T := TX3) (N := 12) (k := 9) inGX3 rfl (rooN ho) (ho.2.1 _) (by decide) hw rfl hdg kk
theorem pfX3_undos (F : Fx p s m args meth c cc nL own E ad n ret) {v : Int32} (ho : RooAt E ad G n) {i : Nat} (hw : Cond.fieldLink own i RX3 "undos" "I" ∈ gtbl) (hdg : decode cc pc = .ok (.putfield i, 3)) (hσ : σ' = w2 σ 208 0 v) (kk : J p l e h s m args below meth c E ad G n Q nL σ' (pc + 3) lv st) : J p l e h s m args below meth c E ad G n Q nL σ pc lv (.int v :: .ref (ad 208) :: st) := J_putG F (C := RX3) (T := TX3) (N := 12) (k := 9) (j := 0) (ty := .int) (fs := fun f => [.ref (ad 0), .ref (ad 2), .ref (ad 11), .ref (ad 20), .ref (ad 29), .ref (ad 111), .ref (ad 184), .ref (ad 203), .ref (ad 207), .int (f 0), .int (f 1), .int (f 2)]) inGX3 rfl tyX3 tyX3_ok nmX3 (rooN ho) ho.2.1 (by decide) rfl (by decide +kernel) rfl rfl (fun _ => Nat.le_of_ble_eq_true rfl) (fun _ => rfl) hw hdg hσ kk
theorem gfX3_latest (F : Fx p s m args meth c cc nL own E ad n ret) (ho : RooAt E ad G n) {i : Nat} (hw : Cond.fieldLink own i RX3 "latest" "I" ∈ gtbl) (hdg : decode cc pc = .ok (.getfield i, 3)) (kk : J p l e h s m args below meth c E ad G n Q nL σ (pc + 3) lv (.int (σ 208 1) :: st)) : J p l e h s m args below meth c E ad G n Q nL σ pc lv (.ref (ad 208) :: st) := J_getG F (C := RX3) (T := TX3) (N := 12) (k := 10) inGX3 rfl (rooN ho) (ho.2.1 _) (by decide) hw rfl hdg kk
theorem pfX3_latest (F : Fx p s m args meth c cc nL own E ad n ret) {v : Int32} (ho : RooAt E ad G n) {i : Nat} (hw : Cond.fieldLink own i RX3 "latest" "I" ∈ gtbl) (hdg : decode cc pc = .ok (.putfield i, 3)) (hσ : σ' = w2 σ 208 1 v) (kk : J p l e h s m args below meth c E ad G n Q nL σ' (pc + 3) lv st) : J p l e h s m args below meth c E ad G n Q nL σ pc lv (.int v :: .ref (ad 208) :: st) := J_putG F (C := RX3) (T := TX3) (N := 12) (k := 10) (j := 1) (ty := .int) (fs := fun f => [.ref (ad 0), .ref (ad 2), .ref (ad 11), .ref (ad 20), .ref (ad 29), .ref (ad 111), .ref (ad 184), .ref (ad 203), .ref (ad 207), .int (f 0), .int (f 1), .int (f 2)]) inGX3 rfl tyX3 tyX3_ok nmX3 (rooN ho) ho.2.1 (by decide) rfl (by decide +kernel) rfl rfl (fun _ => Nat.le_of_ble_eq_true rfl) (fun _ => rfl) hw hdg hσ kk
theorem gfX3_keeps (F : Fx p s m args meth c cc nL own E ad n ret) (ho : RooAt E ad G n) {i : Nat} (hw : Cond.fieldLink own i RX3 "keeps" "I" ∈ gtbl) (hdg : decode cc pc = .ok (.getfield i, 3)) (kk : J p l e h s m args below meth c E ad G n Q nL σ (pc + 3) lv (.int (σ 208 2) :: st)) : J p l e h s m args below meth c E ad G n Q nL σ pc lv (.ref (ad 208) :: st) := J_getG F (C := RX3) (T := TX3) (N := 12) (k := 11) inGX3 rfl (rooN ho) (ho.2.1 _) (by decide) hw rfl hdg kk
theorem pfX3_keeps (F : Fx p s m args meth c cc nL own E ad n ret) {v : Int32} (ho : RooAt E ad G n) {i : Nat} (hw : Cond.fieldLink own i RX3 "keeps" "I" ∈ gtbl) (hdg : decode cc pc = .ok (.putfield i, 3)) (hσ : σ' = w2 σ 208 2 v) (kk : J p l e h s m args below meth c E ad G n Q nL σ' (pc + 3) lv st) : J p l e h s m args below meth c E ad G n Q nL σ pc lv (.int v :: .ref (ad 208) :: st) := J_putG F (C := RX3) (T := TX3) (N := 12) (k := 11) (j := 2) (ty := .int) (fs := fun f => [.ref (ad 0), .ref (ad 2), .ref (ad 11), .ref (ad 20), .ref (ad 29), .ref (ad 111), .ref (ad 184), .ref (ad 203), .ref (ad 207), .int (f 0), .int (f 1), .int (f 2)]) inGX3 rfl tyX3 tyX3_ok nmX3 (rooN ho) ho.2.1 (by decide) rfl (by decide +kernel) rfl rfl (fun _ => Nat.le_of_ble_eq_true rfl) (fun _ => rfl) hw hdg hσ kk
theorem gfX4_words (F : Fx p s m args meth c cc nL own E ad n ret) (ho : ModAt E ad G n) {i : Nat} (hw : Cond.fieldLink own i RX4 "words" "I" ∈ gtbl) (hdg : decode cc pc = .ok (.getfield i, 3)) (kk : J p l e h s m args below meth c E ad G n Q nL σ (pc + 3) lv (.int (σ 0 0) :: st)) : J p l e h s m args below meth c E ad G n Q nL σ pc lv (.ref (ad 0) :: st) := J_getG F (C := RX4) (T := TX4) (N := 22) (k := 0) inGX4 rfl (modN ho) (ho.2.1 _) (by decide) hw rfl hdg kk
theorem pfX4_words (F : Fx p s m args meth c cc nL own E ad n ret) {v : Int32} (ho : ModAt E ad G n) {i : Nat} (hw : Cond.fieldLink own i RX4 "words" "I" ∈ gtbl) (hdg : decode cc pc = .ok (.putfield i, 3)) (hσ : σ' = w2 σ 0 0 v) (kk : J p l e h s m args below meth c E ad G n Q nL σ' (pc + 3) lv st) : J p l e h s m args below meth c E ad G n Q nL σ pc lv (.int v :: .ref (ad 0) :: st) := J_putG F (C := RX4) (T := TX4) (N := 22) (k := 0) (j := 0) (ty := .int) (fs := fun f => [.int (f 0), .ref (ad 1), .int (f 1), .int (f 2), .int (f 3), .ref (ad 2), .int (f 4), .int (f 5), .ref (ad 3), .int (f 6), .int (f 7), .int (f 8), .ref (ad 4), .int (f 9), .int (f 10), .int (f 11), .int (f 12), .ref (ad 5), .ref (ad 6), .ref (ad 7), .ref (ad 8), .ref (ad 9)]) inGX4 rfl tyX4 tyX4_ok nmX4 (modN ho) ho.2.1 (by decide) rfl (by decide +kernel) rfl rfl (fun _ => Nat.le_of_ble_eq_true rfl) (fun _ => rfl) hw hdg hσ kk
theorem gfX4_sounds (F : Fx p s m args meth c cc nL own E ad n ret) (ho : ModAt E ad G n) {i : Nat} (hw : Cond.fieldLink own i RX4 "sounds" "[I" ∈ gtbl) (hdg : decode cc pc = .ok (.getfield i, 3)) (kk : J p l e h s m args below meth c E ad G n Q nL σ (pc + 3) lv (.ref (ad 1) :: st)) : J p l e h s m args below meth c E ad G n Q nL σ pc lv (.ref (ad 0) :: st) := J_getG F (C := RX4) (T := TX4) (N := 22) (k := 1) inGX4 rfl (modN ho) (ho.2.1 _) (by decide) hw rfl hdg kk
theorem gfX4_many (F : Fx p s m args meth c cc nL own E ad n ret) (ho : ModAt E ad G n) {i : Nat} (hw : Cond.fieldLink own i RX4 "many" "I" ∈ gtbl) (hdg : decode cc pc = .ok (.getfield i, 3)) (kk : J p l e h s m args below meth c E ad G n Q nL σ (pc + 3) lv (.int (σ 0 1) :: st)) : J p l e h s m args below meth c E ad G n Q nL σ pc lv (.ref (ad 0) :: st) := J_getG F (C := RX4) (T := TX4) (N := 22) (k := 2) inGX4 rfl (modN ho) (ho.2.1 _) (by decide) hw rfl hdg kk
theorem pfX4_many (F : Fx p s m args meth c cc nL own E ad n ret) {v : Int32} (ho : ModAt E ad G n) {i : Nat} (hw : Cond.fieldLink own i RX4 "many" "I" ∈ gtbl) (hdg : decode cc pc = .ok (.putfield i, 3)) (hσ : σ' = w2 σ 0 1 v) (kk : J p l e h s m args below meth c E ad G n Q nL σ' (pc + 3) lv st) : J p l e h s m args below meth c E ad G n Q nL σ pc lv (.int v :: .ref (ad 0) :: st) := J_putG F (C := RX4) (T := TX4) (N := 22) (k := 2) (j := 1) (ty := .int) (fs := fun f => [.int (f 0), .ref (ad 1), .int (f 1), .int (f 2), .int (f 3), .ref (ad 2), .int (f 4), .int (f 5), .ref (ad 3), .int (f 6), .int (f 7), .int (f 8), .ref (ad 4), .int (f 9), .int (f 10), .int (f 11), .int (f 12), .ref (ad 5), .ref (ad 6), .ref (ad 7), .ref (ad 8), .ref (ad 9)]) inGX4 rfl tyX4 tyX4_ok nmX4 (modN ho) ho.2.1 (by decide) rfl (by decide +kernel) rfl rfl (fun _ => Nat.le_of_ble_eq_true rfl) (fun _ => rfl) hw hdg hσ kk
theorem gfX4_enough (F : Fx p s m args meth c cc nL own E ad n ret) (ho : ModAt E ad G n) {i : Nat} (hw : Cond.fieldLink own i RX4 "enough" "I" ∈ gtbl) (hdg : decode cc pc = .ok (.getfield i, 3)) (kk : J p l e h s m args below meth c E ad G n Q nL σ (pc + 3) lv (.int (σ 0 2) :: st)) : J p l e h s m args below meth c E ad G n Q nL σ pc lv (.ref (ad 0) :: st) := J_getG F (C := RX4) (T := TX4) (N := 22) (k := 3) inGX4 rfl (modN ho) (ho.2.1 _) (by decide) hw rfl hdg kk
theorem pfX4_enough (F : Fx p s m args meth c cc nL own E ad n ret) {v : Int32} (ho : ModAt E ad G n) {i : Nat} (hw : Cond.fieldLink own i RX4 "enough" "I" ∈ gtbl) (hdg : decode cc pc = .ok (.putfield i, 3)) (hσ : σ' = w2 σ 0 2 v) (kk : J p l e h s m args below meth c E ad G n Q nL σ' (pc + 3) lv st) : J p l e h s m args below meth c E ad G n Q nL σ pc lv (.int v :: .ref (ad 0) :: st) := J_putG F (C := RX4) (T := TX4) (N := 22) (k := 3) (j := 2) (ty := .int) (fs := fun f => [.int (f 0), .ref (ad 1), .int (f 1), .int (f 2), .int (f 3), .ref (ad 2), .int (f 4), .int (f 5), .ref (ad 3), .int (f 6), .int (f 7), .int (f 8), .ref (ad 4), .int (f 9), .int (f 10), .int (f 11), .int (f 12), .ref (ad 5), .ref (ad 6), .ref (ad 7), .ref (ad 8), .ref (ad 9)]) inGX4 rfl tyX4 tyX4_ok nmX4 (modN ho) ho.2.1 (by decide) rfl (by decide +kernel) rfl rfl (fun _ => Nat.le_of_ble_eq_true rfl) (fun _ => rfl) hw hdg hσ kk
theorem gfX4_newWords (F : Fx p s m args meth c cc nL own E ad n ret) (ho : ModAt E ad G n) {i : Nat} (hw : Cond.fieldLink own i RX4 "newWords" "I" ∈ gtbl) (hdg : decode cc pc = .ok (.getfield i, 3)) (kk : J p l e h s m args below meth c E ad G n Q nL σ (pc + 3) lv (.int (σ 0 3) :: st)) : J p l e h s m args below meth c E ad G n Q nL σ pc lv (.ref (ad 0) :: st) := J_getG F (C := RX4) (T := TX4) (N := 22) (k := 4) inGX4 rfl (modN ho) (ho.2.1 _) (by decide) hw rfl hdg kk
theorem pfX4_newWords (F : Fx p s m args meth c cc nL own E ad n ret) {v : Int32} (ho : ModAt E ad G n) {i : Nat} (hw : Cond.fieldLink own i RX4 "newWords" "I" ∈ gtbl) (hdg : decode cc pc = .ok (.putfield i, 3)) (hσ : σ' = w2 σ 0 3 v) (kk : J p l e h s m args below meth c E ad G n Q nL σ' (pc + 3) lv st) : J p l e h s m args below meth c E ad G n Q nL σ pc lv (.int v :: .ref (ad 0) :: st) := J_putG F (C := RX4) (T := TX4) (N := 22) (k := 4) (j := 3) (ty := .int) (fs := fun f => [.int (f 0), .ref (ad 1), .int (f 1), .int (f 2), .int (f 3), .ref (ad 2), .int (f 4), .int (f 5), .ref (ad 3), .int (f 6), .int (f 7), .int (f 8), .ref (ad 4), .int (f 9), .int (f 10), .int (f 11), .int (f 12), .ref (ad 5), .ref (ad 6), .ref (ad 7), .ref (ad 8), .ref (ad 9)]) inGX4 rfl tyX4 tyX4_ok nmX4 (modN ho) ho.2.1 (by decide) rfl (by decide +kernel) rfl rfl (fun _ => Nat.le_of_ble_eq_true rfl) (fun _ => rfl) hw hdg hσ kk
theorem gfX4_newSounds (F : Fx p s m args meth c cc nL own E ad n ret) (ho : ModAt E ad G n) {i : Nat} (hw : Cond.fieldLink own i RX4 "newSounds" "[I" ∈ gtbl) (hdg : decode cc pc = .ok (.getfield i, 3)) (kk : J p l e h s m args below meth c E ad G n Q nL σ (pc + 3) lv (.ref (ad 2) :: st)) : J p l e h s m args below meth c E ad G n Q nL σ pc lv (.ref (ad 0) :: st) := J_getG F (C := RX4) (T := TX4) (N := 22) (k := 5) inGX4 rfl (modN ho) (ho.2.1 _) (by decide) hw rfl hdg kk
theorem gfX4_newMany (F : Fx p s m args meth c cc nL own E ad n ret) (ho : ModAt E ad G n) {i : Nat} (hw : Cond.fieldLink own i RX4 "newMany" "I" ∈ gtbl) (hdg : decode cc pc = .ok (.getfield i, 3)) (kk : J p l e h s m args below meth c E ad G n Q nL σ (pc + 3) lv (.int (σ 0 4) :: st)) : J p l e h s m args below meth c E ad G n Q nL σ pc lv (.ref (ad 0) :: st) := J_getG F (C := RX4) (T := TX4) (N := 22) (k := 6) inGX4 rfl (modN ho) (ho.2.1 _) (by decide) hw rfl hdg kk
theorem pfX4_newMany (F : Fx p s m args meth c cc nL own E ad n ret) {v : Int32} (ho : ModAt E ad G n) {i : Nat} (hw : Cond.fieldLink own i RX4 "newMany" "I" ∈ gtbl) (hdg : decode cc pc = .ok (.putfield i, 3)) (hσ : σ' = w2 σ 0 4 v) (kk : J p l e h s m args below meth c E ad G n Q nL σ' (pc + 3) lv st) : J p l e h s m args below meth c E ad G n Q nL σ pc lv (.int v :: .ref (ad 0) :: st) := J_putG F (C := RX4) (T := TX4) (N := 22) (k := 6) (j := 4) (ty := .int) (fs := fun f => [.int (f 0), .ref (ad 1), .int (f 1), .int (f 2), .int (f 3), .ref (ad 2), .int (f 4), .int (f 5), .ref (ad 3), .int (f 6), .int (f 7), .int (f 8), .ref (ad 4), .int (f 9), .int (f 10), .int (f 11), .int (f 12), .ref (ad 5), .ref (ad 6), .ref (ad 7), .ref (ad 8), .ref (ad 9)]) inGX4 rfl tyX4 tyX4_ok nmX4 (modN ho) ho.2.1 (by decide) rfl (by decide +kernel) rfl rfl (fun _ => Nat.le_of_ble_eq_true rfl) (fun _ => rfl) hw hdg hσ kk
theorem gfX4_newEnough (F : Fx p s m args meth c cc nL own E ad n ret) (ho : ModAt E ad G n) {i : Nat} (hw : Cond.fieldLink own i RX4 "newEnough" "I" ∈ gtbl) (hdg : decode cc pc = .ok (.getfield i, 3)) (kk : J p l e h s m args below meth c E ad G n Q nL σ (pc + 3) lv (.int (σ 0 5) :: st)) : J p l e h s m args below meth c E ad G n Q nL σ pc lv (.ref (ad 0) :: st) := J_getG F (C := RX4) (T := TX4) (N := 22) (k := 7) inGX4 rfl (modN ho) (ho.2.1 _) (by decide) hw rfl hdg kk
theorem pfX4_newEnough (F : Fx p s m args meth c cc nL own E ad n ret) {v : Int32} (ho : ModAt E ad G n) {i : Nat} (hw : Cond.fieldLink own i RX4 "newEnough" "I" ∈ gtbl) (hdg : decode cc pc = .ok (.putfield i, 3)) (hσ : σ' = w2 σ 0 5 v) (kk : J p l e h s m args below meth c E ad G n Q nL σ' (pc + 3) lv st) : J p l e h s m args below meth c E ad G n Q nL σ pc lv (.int v :: .ref (ad 0) :: st) := J_putG F (C := RX4) (T := TX4) (N := 22) (k := 7) (j := 5) (ty := .int) (fs := fun f => [.int (f 0), .ref (ad 1), .int (f 1), .int (f 2), .int (f 3), .ref (ad 2), .int (f 4), .int (f 5), .ref (ad 3), .int (f 6), .int (f 7), .int (f 8), .ref (ad 4), .int (f 9), .int (f 10), .int (f 11), .int (f 12), .ref (ad 5), .ref (ad 6), .ref (ad 7), .ref (ad 8), .ref (ad 9)]) inGX4 rfl tyX4 tyX4_ok nmX4 (modN ho) ho.2.1 (by decide) rfl (by decide +kernel) rfl rfl (fun _ => Nat.le_of_ble_eq_true rfl) (fun _ => rfl) hw hdg hσ kk
theorem gfX4_slot (F : Fx p s m args meth c cc nL own E ad n ret) (ho : ModAt E ad G n) {i : Nat} (hw : Cond.fieldLink own i RX4 "slot" "[I" ∈ gtbl) (hdg : decode cc pc = .ok (.getfield i, 3)) (kk : J p l e h s m args below meth c E ad G n Q nL σ (pc + 3) lv (.ref (ad 3) :: st)) : J p l e h s m args below meth c E ad G n Q nL σ pc lv (.ref (ad 0) :: st) := J_getG F (C := RX4) (T := TX4) (N := 22) (k := 8) inGX4 rfl (modN ho) (ho.2.1 _) (by decide) hw rfl hdg kk
theorem gfX4_acts (F : Fx p s m args meth c cc nL own E ad n ret) (ho : ModAt E ad G n) {i : Nat} (hw : Cond.fieldLink own i RX4 "acts" "I" ∈ gtbl) (hdg : decode cc pc = .ok (.getfield i, 3)) (kk : J p l e h s m args below meth c E ad G n Q nL σ (pc + 3) lv (.int (σ 0 6) :: st)) : J p l e h s m args below meth c E ad G n Q nL σ pc lv (.ref (ad 0) :: st) := J_getG F (C := RX4) (T := TX4) (N := 22) (k := 9) inGX4 rfl (modN ho) (ho.2.1 _) (by decide) hw rfl hdg kk
theorem pfX4_acts (F : Fx p s m args meth c cc nL own E ad n ret) {v : Int32} (ho : ModAt E ad G n) {i : Nat} (hw : Cond.fieldLink own i RX4 "acts" "I" ∈ gtbl) (hdg : decode cc pc = .ok (.putfield i, 3)) (hσ : σ' = w2 σ 0 6 v) (kk : J p l e h s m args below meth c E ad G n Q nL σ' (pc + 3) lv st) : J p l e h s m args below meth c E ad G n Q nL σ pc lv (.int v :: .ref (ad 0) :: st) := J_putG F (C := RX4) (T := TX4) (N := 22) (k := 9) (j := 6) (ty := .int) (fs := fun f => [.int (f 0), .ref (ad 1), .int (f 1), .int (f 2), .int (f 3), .ref (ad 2), .int (f 4), .int (f 5), .ref (ad 3), .int (f 6), .int (f 7), .int (f 8), .ref (ad 4), .int (f 9), .int (f 10), .int (f 11), .int (f 12), .ref (ad 5), .ref (ad 6), .ref (ad 7), .ref (ad 8), .ref (ad 9)]) inGX4 rfl tyX4 tyX4_ok nmX4 (modN ho) ho.2.1 (by decide) rfl (by decide +kernel) rfl rfl (fun _ => Nat.le_of_ble_eq_true rfl) (fun _ => rfl) hw hdg hσ kk
theorem gfX4_keeps (F : Fx p s m args meth c cc nL own E ad n ret) (ho : ModAt E ad G n) {i : Nat} (hw : Cond.fieldLink own i RX4 "keeps" "I" ∈ gtbl) (hdg : decode cc pc = .ok (.getfield i, 3)) (kk : J p l e h s m args below meth c E ad G n Q nL σ (pc + 3) lv (.int (σ 0 7) :: st)) : J p l e h s m args below meth c E ad G n Q nL σ pc lv (.ref (ad 0) :: st) := J_getG F (C := RX4) (T := TX4) (N := 22) (k := 10) inGX4 rfl (modN ho) (ho.2.1 _) (by decide) hw rfl hdg kk
theorem pfX4_keeps (F : Fx p s m args meth c cc nL own E ad n ret) {v : Int32} (ho : ModAt E ad G n) {i : Nat} (hw : Cond.fieldLink own i RX4 "keeps" "I" ∈ gtbl) (hdg : decode cc pc = .ok (.putfield i, 3)) (hσ : σ' = w2 σ 0 7 v) (kk : J p l e h s m args below meth c E ad G n Q nL σ' (pc + 3) lv st) : J p l e h s m args below meth c E ad G n Q nL σ pc lv (.int v :: .ref (ad 0) :: st) := J_putG F (C := RX4) (T := TX4) (N := 22) (k := 10) (j := 7) (ty := .int) (fs := fun f => [.int (f 0), .ref (ad 1), .int (f 1), .int (f 2), .int (f 3), .ref (ad 2), .int (f 4), .int (f 5), .ref (ad 3), .int (f 6), .int (f 7), .int (f 8), .ref (ad 4), .int (f 9), .int (f 10), .int (f 11), .int (f 12), .ref (ad 5), .ref (ad 6), .ref (ad 7), .ref (ad 8), .ref (ad 9)]) inGX4 rfl tyX4 tyX4_ok nmX4 (modN ho) ho.2.1 (by decide) rfl (by decide +kernel) rfl rfl (fun _ => Nat.le_of_ble_eq_true rfl) (fun _ => rfl) hw hdg hσ kk
theorem gfX4_length (F : Fx p s m args meth c cc nL own E ad n ret) (ho : ModAt E ad G n) {i : Nat} (hw : Cond.fieldLink own i RX4 "length" "I" ∈ gtbl) (hdg : decode cc pc = .ok (.getfield i, 3)) (kk : J p l e h s m args below meth c E ad G n Q nL σ (pc + 3) lv (.int (σ 0 8) :: st)) : J p l e h s m args below meth c E ad G n Q nL σ pc lv (.ref (ad 0) :: st) := J_getG F (C := RX4) (T := TX4) (N := 22) (k := 11) inGX4 rfl (modN ho) (ho.2.1 _) (by decide) hw rfl hdg kk
theorem pfX4_length (F : Fx p s m args meth c cc nL own E ad n ret) {v : Int32} (ho : ModAt E ad G n) {i : Nat} (hw : Cond.fieldLink own i RX4 "length" "I" ∈ gtbl) (hdg : decode cc pc = .ok (.putfield i, 3)) (hσ : σ' = w2 σ 0 8 v) (kk : J p l e h s m args below meth c E ad G n Q nL σ' (pc + 3) lv st) : J p l e h s m args below meth c E ad G n Q nL σ pc lv (.int v :: .ref (ad 0) :: st) := J_putG F (C := RX4) (T := TX4) (N := 22) (k := 11) (j := 8) (ty := .int) (fs := fun f => [.int (f 0), .ref (ad 1), .int (f 1), .int (f 2), .int (f 3), .ref (ad 2), .int (f 4), .int (f 5), .ref (ad 3), .int (f 6), .int (f 7), .int (f 8), .ref (ad 4), .int (f 9), .int (f 10), .int (f 11), .int (f 12), .ref (ad 5), .ref (ad 6), .ref (ad 7), .ref (ad 8), .ref (ad 9)]) inGX4 rfl tyX4 tyX4_ok nmX4 (modN ho) ho.2.1 (by decide) rfl (by decide +kernel) rfl rfl (fun _ => Nat.le_of_ble_eq_true rfl) (fun _ => rfl) hw hdg hσ kk
theorem gfX4_text (F : Fx p s m args meth c cc nL own E ad n ret) (ho : ModAt E ad G n) {i : Nat} (hw : Cond.fieldLink own i RX4 "text" "[B" ∈ gtbl) (hdg : decode cc pc = .ok (.getfield i, 3)) (kk : J p l e h s m args below meth c E ad G n Q nL σ (pc + 3) lv (.ref (ad 4) :: st)) : J p l e h s m args below meth c E ad G n Q nL σ pc lv (.ref (ad 0) :: st) := J_getG F (C := RX4) (T := TX4) (N := 22) (k := 12) inGX4 rfl (modN ho) (ho.2.1 _) (by decide) hw rfl hdg kk
theorem gfX4_at (F : Fx p s m args meth c cc nL own E ad n ret) (ho : ModAt E ad G n) {i : Nat} (hw : Cond.fieldLink own i RX4 "at" "I" ∈ gtbl) (hdg : decode cc pc = .ok (.getfield i, 3)) (kk : J p l e h s m args below meth c E ad G n Q nL σ (pc + 3) lv (.int (σ 0 9) :: st)) : J p l e h s m args below meth c E ad G n Q nL σ pc lv (.ref (ad 0) :: st) := J_getG F (C := RX4) (T := TX4) (N := 22) (k := 13) inGX4 rfl (modN ho) (ho.2.1 _) (by decide) hw rfl hdg kk
theorem pfX4_at (F : Fx p s m args meth c cc nL own E ad n ret) {v : Int32} (ho : ModAt E ad G n) {i : Nat} (hw : Cond.fieldLink own i RX4 "at" "I" ∈ gtbl) (hdg : decode cc pc = .ok (.putfield i, 3)) (hσ : σ' = w2 σ 0 9 v) (kk : J p l e h s m args below meth c E ad G n Q nL σ' (pc + 3) lv st) : J p l e h s m args below meth c E ad G n Q nL σ pc lv (.int v :: .ref (ad 0) :: st) := J_putG F (C := RX4) (T := TX4) (N := 22) (k := 13) (j := 9) (ty := .int) (fs := fun f => [.int (f 0), .ref (ad 1), .int (f 1), .int (f 2), .int (f 3), .ref (ad 2), .int (f 4), .int (f 5), .ref (ad 3), .int (f 6), .int (f 7), .int (f 8), .ref (ad 4), .int (f 9), .int (f 10), .int (f 11), .int (f 12), .ref (ad 5), .ref (ad 6), .ref (ad 7), .ref (ad 8), .ref (ad 9)]) inGX4 rfl tyX4 tyX4_ok nmX4 (modN ho) ho.2.1 (by decide) rfl (by decide +kernel) rfl rfl (fun _ => Nat.le_of_ble_eq_true rfl) (fun _ => rfl) hw hdg hσ kk
theorem gfX4_begin (F : Fx p s m args meth c cc nL own E ad n ret) (ho : ModAt E ad G n) {i : Nat} (hw : Cond.fieldLink own i RX4 "begin" "I" ∈ gtbl) (hdg : decode cc pc = .ok (.getfield i, 3)) (kk : J p l e h s m args below meth c E ad G n Q nL σ (pc + 3) lv (.int (σ 0 10) :: st)) : J p l e h s m args below meth c E ad G n Q nL σ pc lv (.ref (ad 0) :: st) := J_getG F (C := RX4) (T := TX4) (N := 22) (k := 14) inGX4 rfl (modN ho) (ho.2.1 _) (by decide) hw rfl hdg kk
theorem pfX4_begin (F : Fx p s m args meth c cc nL own E ad n ret) {v : Int32} (ho : ModAt E ad G n) {i : Nat} (hw : Cond.fieldLink own i RX4 "begin" "I" ∈ gtbl) (hdg : decode cc pc = .ok (.putfield i, 3)) (hσ : σ' = w2 σ 0 10 v) (kk : J p l e h s m args below meth c E ad G n Q nL σ' (pc + 3) lv st) : J p l e h s m args below meth c E ad G n Q nL σ pc lv (.int v :: .ref (ad 0) :: st) := J_putG F (C := RX4) (T := TX4) (N := 22) (k := 14) (j := 10) (ty := .int) (fs := fun f => [.int (f 0), .ref (ad 1), .int (f 1), .int (f 2), .int (f 3), .ref (ad 2), .int (f 4), .int (f 5), .ref (ad 3), .int (f 6), .int (f 7), .int (f 8), .ref (ad 4), .int (f 9), .int (f 10), .int (f 11), .int (f 12), .ref (ad 5), .ref (ad 6), .ref (ad 7), .ref (ad 8), .ref (ad 9)]) inGX4 rfl tyX4 tyX4_ok nmX4 (modN ho) ho.2.1 (by decide) rfl (by decide +kernel) rfl rfl (fun _ => Nat.le_of_ble_eq_true rfl) (fun _ => rfl) hw hdg hσ kk
theorem gfX4_isWrong (F : Fx p s m args meth c cc nL own E ad n ret) (ho : ModAt E ad G n) {i : Nat} (hw : Cond.fieldLink own i RX4 "isWrong" "Z" ∈ gtbl) (hdg : decode cc pc = .ok (.getfield i, 3)) (kk : J p l e h s m args below meth c E ad G n Q nL σ (pc + 3) lv (.int (σ 0 11) :: st)) : J p l e h s m args below meth c E ad G n Q nL σ pc lv (.ref (ad 0) :: st) := J_getG F (C := RX4) (T := TX4) (N := 22) (k := 15) inGX4 rfl (modN ho) (ho.2.1 _) (by decide) hw rfl hdg kk
theorem pfX4_isWrong (F : Fx p s m args meth c cc nL own E ad n ret) {v : Int32} (ho : ModAt E ad G n) (hz : v = 0 ∨ v = 1) {i : Nat} (hw : Cond.fieldLink own i RX4 "isWrong" "Z" ∈ gtbl) (hdg : decode cc pc = .ok (.putfield i, 3)) (hσ : σ' = w2 σ 0 11 v) (kk : J p l e h s m args below meth c E ad G n Q nL σ' (pc + 3) lv st) : J p l e h s m args below meth c E ad G n Q nL σ pc lv (.int v :: .ref (ad 0) :: st) := J_putG F (C := RX4) (T := TX4) (N := 22) (k := 15) (j := 11) (ty := .boolean) (fs := fun f => [.int (f 0), .ref (ad 1), .int (f 1), .int (f 2), .int (f 3), .ref (ad 2), .int (f 4), .int (f 5), .ref (ad 3), .int (f 6), .int (f 7), .int (f 8), .ref (ad 4), .int (f 9), .int (f 10), .int (f 11), .int (f 12), .ref (ad 5), .ref (ad 6), .ref (ad 7), .ref (ad 8), .ref (ad 9)]) inGX4 rfl tyX4 tyX4_ok nmX4 (modN ho) ho.2.1 (by decide) rfl (by decide +kernel) (by rcases hz with rfl | rfl <;> rfl) (by rcases hz with rfl | rfl <;> rfl) (fun _ => Nat.le_of_ble_eq_true rfl) (fun _ => rfl) hw hdg hσ kk
theorem gfX4_heards (F : Fx p s m args meth c cc nL own E ad n ret) (ho : ModAt E ad G n) {i : Nat} (hw : Cond.fieldLink own i RX4 "heards" "I" ∈ gtbl) (hdg : decode cc pc = .ok (.getfield i, 3)) (kk : J p l e h s m args below meth c E ad G n Q nL σ (pc + 3) lv (.int (σ 0 12) :: st)) : J p l e h s m args below meth c E ad G n Q nL σ pc lv (.ref (ad 0) :: st) := J_getG F (C := RX4) (T := TX4) (N := 22) (k := 16) inGX4 rfl (modN ho) (ho.2.1 _) (by decide) hw rfl hdg kk
theorem pfX4_heards (F : Fx p s m args meth c cc nL own E ad n ret) {v : Int32} (ho : ModAt E ad G n) {i : Nat} (hw : Cond.fieldLink own i RX4 "heards" "I" ∈ gtbl) (hdg : decode cc pc = .ok (.putfield i, 3)) (hσ : σ' = w2 σ 0 12 v) (kk : J p l e h s m args below meth c E ad G n Q nL σ' (pc + 3) lv st) : J p l e h s m args below meth c E ad G n Q nL σ pc lv (.int v :: .ref (ad 0) :: st) := J_putG F (C := RX4) (T := TX4) (N := 22) (k := 16) (j := 12) (ty := .int) (fs := fun f => [.int (f 0), .ref (ad 1), .int (f 1), .int (f 2), .int (f 3), .ref (ad 2), .int (f 4), .int (f 5), .ref (ad 3), .int (f 6), .int (f 7), .int (f 8), .ref (ad 4), .int (f 9), .int (f 10), .int (f 11), .int (f 12), .ref (ad 5), .ref (ad 6), .ref (ad 7), .ref (ad 8), .ref (ad 9)]) inGX4 rfl tyX4 tyX4_ok nmX4 (modN ho) ho.2.1 (by decide) rfl (by decide +kernel) rfl rfl (fun _ => Nat.le_of_ble_eq_true rfl) (fun _ => rfl) hw hdg hσ kk
theorem gfX4_heardWord (F : Fx p s m args meth c cc nL own E ad n ret) (ho : ModAt E ad G n) {i : Nat} (hw : Cond.fieldLink own i RX4 "heardWord" "[I" ∈ gtbl) (hdg : decode cc pc = .ok (.getfield i, 3)) (kk : J p l e h s m args below meth c E ad G n Q nL σ (pc + 3) lv (.ref (ad 5) :: st)) : J p l e h s m args below meth c E ad G n Q nL σ pc lv (.ref (ad 0) :: st) := J_getG F (C := RX4) (T := TX4) (N := 22) (k := 17) inGX4 rfl (modN ho) (ho.2.1 _) (by decide) hw rfl hdg kk
theorem gfX4_heardSound (F : Fx p s m args meth c cc nL own E ad n ret) (ho : ModAt E ad G n) {i : Nat} (hw : Cond.fieldLink own i RX4 "heardSound" "[I" ∈ gtbl) (hdg : decode cc pc = .ok (.getfield i, 3)) (kk : J p l e h s m args below meth c E ad G n Q nL σ (pc + 3) lv (.ref (ad 6) :: st)) : J p l e h s m args below meth c E ad G n Q nL σ pc lv (.ref (ad 0) :: st) := J_getG F (C := RX4) (T := TX4) (N := 22) (k := 18) inGX4 rfl (modN ho) (ho.2.1 _) (by decide) hw rfl hdg kk
theorem gfX4_heardDay (F : Fx p s m args meth c cc nL own E ad n ret) (ho : ModAt E ad G n) {i : Nat} (hw : Cond.fieldLink own i RX4 "heardDay" "[I" ∈ gtbl) (hdg : decode cc pc = .ok (.getfield i, 3)) (kk : J p l e h s m args below meth c E ad G n Q nL σ (pc + 3) lv (.ref (ad 7) :: st)) : J p l e h s m args below meth c E ad G n Q nL σ pc lv (.ref (ad 0) :: st) := J_getG F (C := RX4) (T := TX4) (N := 22) (k := 19) inGX4 rfl (modN ho) (ho.2.1 _) (by decide) hw rfl hdg kk
theorem gfX4_tells (F : Fx p s m args meth c cc nL own E ad n ret) (ho : ModAt E ad G n) {i : Nat} (hw : Cond.fieldLink own i RX4 "tells" "[I" ∈ gtbl) (hdg : decode cc pc = .ok (.getfield i, 3)) (kk : J p l e h s m args below meth c E ad G n Q nL σ (pc + 3) lv (.ref (ad 8) :: st)) : J p l e h s m args below meth c E ad G n Q nL σ pc lv (.ref (ad 0) :: st) := J_getG F (C := RX4) (T := TX4) (N := 22) (k := 20) inGX4 rfl (modN ho) (ho.2.1 _) (by decide) hw rfl hdg kk
theorem gfX4_how (F : Fx p s m args meth c cc nL own E ad n ret) (ho : ModAt E ad G n) {i : Nat} (hw : Cond.fieldLink own i RX4 "how" "[I" ∈ gtbl) (hdg : decode cc pc = .ok (.getfield i, 3)) (kk : J p l e h s m args below meth c E ad G n Q nL σ (pc + 3) lv (.ref (ad 9) :: st)) : J p l e h s m args below meth c E ad G n Q nL σ pc lv (.ref (ad 0) :: st) := J_getG F (C := RX4) (T := TX4) (N := 22) (k := 21) inGX4 rfl (modN ho) (ho.2.1 _) (by decide) hw rfl hdg kk
end JF
theorem wd_8 : Cond.initialized "java/lang/Math" ∈ gtbl := gtbl_of (List.mem_append_right _ (List.mem_of_getElem? (i := 8) (by decide +kernel))) rfl
theorem wd_11 : Cond.initialized "java/lang/System" ∈ gtbl := gtbl_of (List.mem_append_right _ (List.mem_of_getElem? (i := 11) (by decide +kernel))) rfl
theorem wd_27 : Cond.fieldLink RX2 9 RX2 "letters" "[I" ∈ gtbl := gtbl_of (List.mem_append_right _ (List.mem_of_getElem? (i := 27) (by decide +kernel))) rfl
theorem wd_28 : Cond.fieldLink RX2 15 RX2 "length" "I" ∈ gtbl := gtbl_of (List.mem_append_right _ (List.mem_of_getElem? (i := 28) (by decide +kernel))) rfl
theorem wd_29 : Cond.fieldLink RX3 25 RX2 "length" "I" ∈ gtbl := gtbl_of (List.mem_append_right _ (List.mem_of_getElem? (i := 29) (by decide +kernel))) rfl
theorem wd_30 : Cond.fieldLink RX2 19 RX2 "place" "I" ∈ gtbl := gtbl_of (List.mem_append_right _ (List.mem_of_getElem? (i := 30) (by decide +kernel))) rfl
theorem wd_31 : Cond.fieldLink RX2 22 RX2 "pastTongue" "Z" ∈ gtbl := gtbl_of (List.mem_append_right _ (List.mem_of_getElem? (i := 31) (by decide +kernel))) rfl
theorem wd_48 : Cond.fieldLink RX1 9 RX1 "sounds" "[I" ∈ gtbl := gtbl_of (List.mem_append_right _ (List.mem_of_getElem? (i := 48) (by decide +kernel))) rfl
theorem wd_49 : Cond.fieldLink RX3 97 RX1 "sounds" "[I" ∈ gtbl := gtbl_of (List.mem_append_right _ (List.mem_of_getElem? (i := 49) (by decide +kernel))) rfl
theorem wd_50 : Cond.fieldLink RX2 67 RX1 "sounds" "[I" ∈ gtbl := gtbl_of (List.mem_append_right _ (List.mem_of_getElem? (i := 50) (by decide +kernel))) rfl
theorem wd_51 : Cond.fieldLink RX1 15 RX1 "kind" "[I" ∈ gtbl := gtbl_of (List.mem_append_right _ (List.mem_of_getElem? (i := 51) (by decide +kernel))) rfl
theorem wd_52 : Cond.fieldLink RX3 107 RX1 "kind" "[I" ∈ gtbl := gtbl_of (List.mem_append_right _ (List.mem_of_getElem? (i := 52) (by decide +kernel))) rfl
theorem wd_53 : Cond.fieldLink RX1 18 RX1 "memory" "[I" ∈ gtbl := gtbl_of (List.mem_append_right _ (List.mem_of_getElem? (i := 53) (by decide +kernel))) rfl
theorem wd_54 : Cond.fieldLink RX3 110 RX1 "memory" "[I" ∈ gtbl := gtbl_of (List.mem_append_right _ (List.mem_of_getElem? (i := 54) (by decide +kernel))) rfl
theorem wd_55 : Cond.fieldLink RX1 21 RX1 "has" "[I" ∈ gtbl := gtbl_of (List.mem_append_right _ (List.mem_of_getElem? (i := 55) (by decide +kernel))) rfl
theorem wd_56 : Cond.fieldLink RX3 113 RX1 "has" "[I" ∈ gtbl := gtbl_of (List.mem_append_right _ (List.mem_of_getElem? (i := 56) (by decide +kernel))) rfl
theorem wd_57 : Cond.fieldLink RX1 24 RX1 "right" "[I" ∈ gtbl := gtbl_of (List.mem_append_right _ (List.mem_of_getElem? (i := 57) (by decide +kernel))) rfl
theorem wd_58 : Cond.fieldLink RX3 116 RX1 "right" "[I" ∈ gtbl := gtbl_of (List.mem_append_right _ (List.mem_of_getElem? (i := 58) (by decide +kernel))) rfl
theorem wd_59 : Cond.fieldLink RX1 27 RX1 "way" "[I" ∈ gtbl := gtbl_of (List.mem_append_right _ (List.mem_of_getElem? (i := 59) (by decide +kernel))) rfl
theorem wd_60 : Cond.fieldLink RX1 30 RX1 "age" "[I" ∈ gtbl := gtbl_of (List.mem_append_right _ (List.mem_of_getElem? (i := 60) (by decide +kernel))) rfl
theorem wd_61 : Cond.fieldLink RX1 33 RX1 "told" "[I" ∈ gtbl := gtbl_of (List.mem_append_right _ (List.mem_of_getElem? (i := 61) (by decide +kernel))) rfl
theorem wd_62 : Cond.fieldLink RX1 36 RX1 "words" "I" ∈ gtbl := gtbl_of (List.mem_append_right _ (List.mem_of_getElem? (i := 62) (by decide +kernel))) rfl
theorem wd_63 : Cond.fieldLink RX3 81 RX1 "words" "I" ∈ gtbl := gtbl_of (List.mem_append_right _ (List.mem_of_getElem? (i := 63) (by decide +kernel))) rfl
theorem wd_64 : Cond.fieldLink RX2 70 RX1 "words" "I" ∈ gtbl := gtbl_of (List.mem_append_right _ (List.mem_of_getElem? (i := 64) (by decide +kernel))) rfl
theorem wd_65 : Cond.fieldLink RX1 40 RX1 "wooers" "I" ∈ gtbl := gtbl_of (List.mem_append_right _ (List.mem_of_getElem? (i := 65) (by decide +kernel))) rfl
theorem wd_66 : Cond.fieldLink RX0 39 RX1 "wooers" "I" ∈ gtbl := gtbl_of (List.mem_append_right _ (List.mem_of_getElem? (i := 66) (by decide +kernel))) rfl
theorem wd_67 : Cond.fieldLink RX3 84 RX1 "wooers" "I" ∈ gtbl := gtbl_of (List.mem_append_right _ (List.mem_of_getElem? (i := 67) (by decide +kernel))) rfl
theorem wd_68 : Cond.fieldLink RX2 73 RX1 "wooers" "I" ∈ gtbl := gtbl_of (List.mem_append_right _ (List.mem_of_getElem? (i := 68) (by decide +kernel))) rfl
theorem wd_69 : Cond.fieldLink RX1 43 RX1 "need" "I" ∈ gtbl := gtbl_of (List.mem_append_right _ (List.mem_of_getElem? (i := 69) (by decide +kernel))) rfl
theorem wd_70 : Cond.fieldLink RX2 88 RX1 "need" "I" ∈ gtbl := gtbl_of (List.mem_append_right _ (List.mem_of_getElem? (i := 70) (by decide +kernel))) rfl
theorem wd_71 : Cond.fieldLink RX3 225 RX1 "need" "I" ∈ gtbl := gtbl_of (List.mem_append_right _ (List.mem_of_getElem? (i := 71) (by decide +kernel))) rfl
theorem wd_72 : Cond.fieldLink RX1 46 RX1 "days" "I" ∈ gtbl := gtbl_of (List.mem_append_right _ (List.mem_of_getElem? (i := 72) (by decide +kernel))) rfl
theorem wd_73 : Cond.fieldLink RX3 140 RX1 "days" "I" ∈ gtbl := gtbl_of (List.mem_append_right _ (List.mem_of_getElem? (i := 73) (by decide +kernel))) rfl
theorem wd_159 : Cond.methodLink RX3 21 yX2_readInto ∈ gtbl := gtbl_of (List.mem_append_right _ (List.mem_of_getElem? (i := 159) (by decide +kernel))) rfl
theorem wd_163 : Cond.methodLink RX2 43 yX1_clear ∈ gtbl := gtbl_of (List.mem_append_right _ (List.mem_of_getElem? (i := 163) (by decide +kernel))) rfl
theorem wd_167 : Cond.methodLink RX2 48 yX2_readItem ∈ gtbl := gtbl_of (List.mem_append_right _ (List.mem_of_getElem? (i := 167) (by decide +kernel))) rfl
theorem wd_171 : Cond.methodLink RX2 52 yX2_next ∈ gtbl := gtbl_of (List.mem_append_right _ (List.mem_of_getElem? (i := 171) (by decide +kernel))) rfl
theorem wd_178 : Cond.methodLink RX2 55 yX2_readTongue ∈ gtbl := gtbl_of (List.mem_append_right _ (List.mem_of_getElem? (i := 178) (by decide +kernel))) rfl
theorem wd_182 : Cond.methodLink RX2 64 yX2_isFigure ∈ gtbl := gtbl_of (List.mem_append_right _ (List.mem_of_getElem? (i := 182) (by decide +kernel))) rfl
theorem wd_186 : Cond.methodLink RX2 58 yX2_readWooer ∈ gtbl := gtbl_of (List.mem_append_right _ (List.mem_of_getElem? (i := 186) (by decide +kernel))) rfl
theorem wd_190 : Cond.methodLink RX2 76 yX2_number ∈ gtbl := gtbl_of (List.mem_append_right _ (List.mem_of_getElem? (i := 190) (by decide +kernel))) rfl
theorem wd_194 : Cond.methodLink RX2 80 yX1_seat ∈ gtbl := gtbl_of (List.mem_append_right _ (List.mem_of_getElem? (i := 194) (by decide +kernel))) rfl
theorem wd_199 : Cond.methodLink RX2 84 yX1_give ∈ gtbl := gtbl_of (List.mem_append_right _ (List.mem_of_getElem? (i := 199) (by decide +kernel))) rfl
theorem wd_204 : Cond.methodLink RX2 61 yX2_readNeed ∈ gtbl := gtbl_of (List.mem_append_right _ (List.mem_of_getElem? (i := 204) (by decide +kernel))) rfl
theorem wd_211 : Cond.methodLink RX3 239 Lib.Math.max.name ∈ gtbl := gtbl_of (List.mem_append_right _ (List.mem_of_getElem? (i := 211) (by decide +kernel))) rfl
theorem wd_212 : Cond.static Lib.Math.max.name ∈ gtbl := gtbl_of (List.mem_append_right _ (List.mem_of_getElem? (i := 212) (by decide +kernel))) rfl
theorem wd_213 : Cond.code Lib.Math.max.name Lib.Math.max.code 2 (some .int) ∈ gtbl := gtbl_of (List.mem_append_right _ (List.mem_of_getElem? (i := 213) (by decide +kernel))) rfl
theorem wd_221 : Cond.fieldLink RX0 9 RX0 "word" "[I" ∈ gtbl := gtbl_of (List.mem_append_right _ (List.mem_of_getElem? (i := 221) (by decide +kernel))) rfl
theorem wd_222 : Cond.fieldLink RX0 15 RX0 "sound" "[I" ∈ gtbl := gtbl_of (List.mem_append_right _ (List.mem_of_getElem? (i := 222) (by decide +kernel))) rfl
theorem wd_223 : Cond.fieldLink RX0 18 RX0 "day" "[I" ∈ gtbl := gtbl_of (List.mem_append_right _ (List.mem_of_getElem? (i := 223) (by decide +kernel))) rfl
theorem wd_224 : Cond.fieldLink RX0 21 RX0 "count" "I" ∈ gtbl := gtbl_of (List.mem_append_right _ (List.mem_of_getElem? (i := 224) (by decide +kernel))) rfl
theorem wd_225 : Cond.fieldLink RX3 91 RX0 "count" "I" ∈ gtbl := gtbl_of (List.mem_append_right _ (List.mem_of_getElem? (i := 225) (by decide +kernel))) rfl
theorem wd_236 : Cond.fieldLink RX3 29 RX3 "text" "LLastTongue$Text;" ∈ gtbl := gtbl_of (List.mem_append_right _ (List.mem_of_getElem? (i := 236) (by decide +kernel))) rfl
theorem wd_237 : Cond.fieldLink RX3 33 RX3 "now" "LLastTongue$Table;" ∈ gtbl := gtbl_of (List.mem_append_right _ (List.mem_of_getElem? (i := 237) (by decide +kernel))) rfl
theorem wd_238 : Cond.fieldLink RX3 37 RX3 "draft" "LLastTongue$Table;" ∈ gtbl := gtbl_of (List.mem_append_right _ (List.mem_of_getElem? (i := 238) (by decide +kernel))) rfl
theorem wd_239 : Cond.fieldLink RX3 40 RX3 "trial" "LLastTongue$Table;" ∈ gtbl := gtbl_of (List.mem_append_right _ (List.mem_of_getElem? (i := 239) (by decide +kernel))) rfl
theorem wd_240 : Cond.fieldLink RX3 47 RX3 "levels" "[LLastTongue$Table;" ∈ gtbl := gtbl_of (List.mem_append_right _ (List.mem_of_getElem? (i := 240) (by decide +kernel))) rfl
theorem wd_241 : Cond.fieldLink RX3 51 RX3 "past" "[LLastTongue$Table;" ∈ gtbl := gtbl_of (List.mem_append_right _ (List.mem_of_getElem? (i := 241) (by decide +kernel))) rfl
theorem wd_242 : Cond.fieldLink RX3 54 RX3 "stored" "[LLastTongue$Table;" ∈ gtbl := gtbl_of (List.mem_append_right _ (List.mem_of_getElem? (i := 242) (by decide +kernel))) rfl
theorem wd_243 : Cond.fieldLink RX3 60 RX3 "heard" "LLastTongue$Hearsay;" ∈ gtbl := gtbl_of (List.mem_append_right _ (List.mem_of_getElem? (i := 243) (by decide +kernel))) rfl
theorem wd_244 : Cond.fieldLink RX3 64 RX3 "pairs" "[I" ∈ gtbl := gtbl_of (List.mem_append_right _ (List.mem_of_getElem? (i := 244) (by decide +kernel))) rfl
theorem wd_245 : Cond.fieldLink RX3 68 RX3 "undos" "I" ∈ gtbl := gtbl_of (List.mem_append_right _ (List.mem_of_getElem? (i := 245) (by decide +kernel))) rfl
theorem wd_246 : Cond.fieldLink RX3 71 RX3 "latest" "I" ∈ gtbl := gtbl_of (List.mem_append_right _ (List.mem_of_getElem? (i := 246) (by decide +kernel))) rfl
theorem wd_247 : Cond.fieldLink RX3 74 RX3 "keeps" "I" ∈ gtbl := gtbl_of (List.mem_append_right _ (List.mem_of_getElem? (i := 247) (by decide +kernel))) rfl
theorem wd_277 : Cond.methodLink RX3 77 yX2_append ∈ gtbl := gtbl_of (List.mem_append_right _ (List.mem_of_getElem? (i := 277) (by decide +kernel))) rfl
theorem wd_290 : Cond.methodLink RX3 87 yX1_copy ∈ gtbl := gtbl_of (List.mem_append_right _ (List.mem_of_getElem? (i := 290) (by decide +kernel))) rfl
theorem wd_297 : Cond.methodLink RX3 231 Lib.Math.min.name ∈ gtbl := gtbl_of (List.mem_append_right _ (List.mem_of_getElem? (i := 297) (by decide +kernel))) rfl
theorem wd_298 : Cond.static Lib.Math.min.name ∈ gtbl := gtbl_of (List.mem_append_right _ (List.mem_of_getElem? (i := 298) (by decide +kernel))) rfl
theorem wd_299 : Cond.code Lib.Math.min.name Lib.Math.min.code 2 (some .int) ∈ gtbl := gtbl_of (List.mem_append_right _ (List.mem_of_getElem? (i := 299) (by decide +kernel))) rfl
theorem wd_300 : Cond.methodLink RX3 248 arraycopyName ∈ gtbl := gtbl_of (List.mem_append_right _ (List.mem_of_getElem? (i := 300) (by decide +kernel))) rfl
theorem wd_301 : Cond.static arraycopyName ∈ gtbl := gtbl_of (List.mem_append_right _ (List.mem_of_getElem? (i := 301) (by decide +kernel))) rfl
theorem wd_302 : Cond.native arraycopyName ∈ gtbl := gtbl_of (List.mem_append_right _ (List.mem_of_getElem? (i := 302) (by decide +kernel))) rfl
theorem wd_307 : Cond.methodLink RX3 94 yX1_isWord ∈ gtbl := gtbl_of (List.mem_append_right _ (List.mem_of_getElem? (i := 307) (by decide +kernel))) rfl
theorem wd_311 : Cond.methodLink RX3 100 yX3_at ∈ gtbl := gtbl_of (List.mem_append_right _ (List.mem_of_getElem? (i := 311) (by decide +kernel))) rfl
theorem wd_316 : Cond.methodLink RX3 104 yX1_isWooer ∈ gtbl := gtbl_of (List.mem_append_right _ (List.mem_of_getElem? (i := 316) (by decide +kernel))) rfl
theorem wd_320 : Cond.methodLink RX3 119 yX1_isSpeaker ∈ gtbl := gtbl_of (List.mem_append_right _ (List.mem_of_getElem? (i := 320) (by decide +kernel))) rfl
theorem wd_324 : Cond.methodLink RX1 63 yX1_rightOf ∈ gtbl := gtbl_of (List.mem_append_right _ (List.mem_of_getElem? (i := 324) (by decide +kernel))) rfl
theorem wd_328 : Cond.methodLink RX1 57 yJ6_bitCount_0f7a4 ∈ gtbl := gtbl_of (List.mem_append_right _ (List.mem_of_getElem? (i := 328) (by decide +kernel))) rfl
theorem wd_331 : Cond.constant RJ6 265 (1431655765) ∈ gtbl := gtbl_of (List.mem_append_right _ (List.mem_of_getElem? (i := 331) (by decide +kernel))) rfl
theorem wd_332 : Cond.constant RJ6 266 (858993459) ∈ gtbl := gtbl_of (List.mem_append_right _ (List.mem_of_getElem? (i := 332) (by decide +kernel))) rfl
theorem wd_333 : Cond.constant RJ6 267 (252645135) ∈ gtbl := gtbl_of (List.mem_append_right _ (List.mem_of_getElem? (i := 333) (by decide +kernel))) rfl
theorem wd_338 : Cond.methodLink RX3 122 yX1_holds ∈ gtbl := gtbl_of (List.mem_append_right _ (List.mem_of_getElem? (i := 338) (by decide +kernel))) rfl
theorem wd_342 : Cond.methodLink RX3 126 yX1_wayOf ∈ gtbl := gtbl_of (List.mem_append_right _ (List.mem_of_getElem? (i := 342) (by decide +kernel))) rfl
theorem wd_346 : Cond.methodLink RX3 130 yX1_ageOf ∈ gtbl := gtbl_of (List.mem_append_right _ (List.mem_of_getElem? (i := 346) (by decide +kernel))) rfl
theorem wd_354 : Cond.methodLink RX3 133 yX3_noteAct ∈ gtbl := gtbl_of (List.mem_append_right _ (List.mem_of_getElem? (i := 354) (by decide +kernel))) rfl
theorem wd_358 : Cond.methodLink RX3 160 yX3_tableAt ∈ gtbl := gtbl_of (List.mem_append_right _ (List.mem_of_getElem? (i := 358) (by decide +kernel))) rfl
theorem wd_361 : Cond.methodLink RX3 222 yX3_copyInto ∈ gtbl := gtbl_of (List.mem_append_right _ (List.mem_of_getElem? (i := 361) (by decide +kernel))) rfl
theorem wd_365 : Cond.methodLink RX3 136 yX1_teach ∈ gtbl := gtbl_of (List.mem_append_right _ (List.mem_of_getElem? (i := 365) (by decide +kernel))) rfl
theorem wd_369 : Cond.methodLink RX1 74 yX1_holds ∈ gtbl := gtbl_of (List.mem_append_right _ (List.mem_of_getElem? (i := 369) (by decide +kernel))) rfl
theorem wd_370 : Cond.methodLink RX1 78 yX1_wayOf ∈ gtbl := gtbl_of (List.mem_append_right _ (List.mem_of_getElem? (i := 370) (by decide +kernel))) rfl
theorem wd_371 : Cond.methodLink RX1 82 yX1_give ∈ gtbl := gtbl_of (List.mem_append_right _ (List.mem_of_getElem? (i := 371) (by decide +kernel))) rfl
theorem wd_372 : Cond.methodLink RX1 86 yX1_asHeardBy ∈ gtbl := gtbl_of (List.mem_append_right _ (List.mem_of_getElem? (i := 372) (by decide +kernel))) rfl
theorem wd_380 : Cond.methodLink RX3 143 yX1_spend ∈ gtbl := gtbl_of (List.mem_append_right _ (List.mem_of_getElem? (i := 380) (by decide +kernel))) rfl
theorem wd_384 : Cond.methodLink RX1 95 yX1_spendDay ∈ gtbl := gtbl_of (List.mem_append_right _ (List.mem_of_getElem? (i := 384) (by decide +kernel))) rfl
theorem wd_388 : Cond.methodLink RX1 99 yX1_nextSeat ∈ gtbl := gtbl_of (List.mem_append_right _ (List.mem_of_getElem? (i := 388) (by decide +kernel))) rfl
theorem wd_392 : Cond.methodLink RX1 102 yX1_lowest ∈ gtbl := gtbl_of (List.mem_append_right _ (List.mem_of_getElem? (i := 392) (by decide +kernel))) rfl
theorem wd_396 : Cond.methodLink RX1 105 yX1_growOlder ∈ gtbl := gtbl_of (List.mem_append_right _ (List.mem_of_getElem? (i := 396) (by decide +kernel))) rfl
theorem wd_400 : Cond.methodLink RX1 112 yX1_ageOf ∈ gtbl := gtbl_of (List.mem_append_right _ (List.mem_of_getElem? (i := 400) (by decide +kernel))) rfl
theorem wd_401 : Cond.methodLink RX1 115 yX1_drop ∈ gtbl := gtbl_of (List.mem_append_right _ (List.mem_of_getElem? (i := 401) (by decide +kernel))) rfl
theorem wd_405 : Cond.methodLink RX1 109 yX1_tellNext ∈ gtbl := gtbl_of (List.mem_append_right _ (List.mem_of_getElem? (i := 405) (by decide +kernel))) rfl
theorem wd_409 : Cond.methodLink RX3 147 yX1_speakers ∈ gtbl := gtbl_of (List.mem_append_right _ (List.mem_of_getElem? (i := 409) (by decide +kernel))) rfl
theorem wd_413 : Cond.methodLink RX1 66 yX1_isSpeaker ∈ gtbl := gtbl_of (List.mem_append_right _ (List.mem_of_getElem? (i := 413) (by decide +kernel))) rfl
theorem wd_418 : Cond.methodLink RX3 151 yX1_canRepair ∈ gtbl := gtbl_of (List.mem_append_right _ (List.mem_of_getElem? (i := 418) (by decide +kernel))) rfl
theorem wd_422 : Cond.methodLink RX1 89 yX1_isRight ∈ gtbl := gtbl_of (List.mem_append_right _ (List.mem_of_getElem? (i := 422) (by decide +kernel))) rfl
theorem wd_426 : Cond.methodLink RX3 154 yX1_repair ∈ gtbl := gtbl_of (List.mem_append_right _ (List.mem_of_getElem? (i := 426) (by decide +kernel))) rfl
theorem wd_434 : Cond.methodLink RX3 157 yX1_swapSeats ∈ gtbl := gtbl_of (List.mem_append_right _ (List.mem_of_getElem? (i := 434) (by decide +kernel))) rfl
theorem wd_441 : Cond.methodLink RX3 203 yX3_put ∈ gtbl := gtbl_of (List.mem_append_right _ (List.mem_of_getElem? (i := 441) (by decide +kernel))) rfl
theorem wd_450 : Cond.methodLink RX3 164 yX1_rightOf ∈ gtbl := gtbl_of (List.mem_append_right _ (List.mem_of_getElem? (i := 450) (by decide +kernel))) rfl
theorem wd_455 : Cond.methodLink RX3 168 yX1_spendDay ∈ gtbl := gtbl_of (List.mem_append_right _ (List.mem_of_getElem? (i := 455) (by decide +kernel))) rfl
theorem wd_460 : Cond.methodLink RX3 172 yX3_startLevels ∈ gtbl := gtbl_of (List.mem_append_right _ (List.mem_of_getElem? (i := 460) (by decide +kernel))) rfl
theorem wd_464 : Cond.methodLink RX3 175 yX3_bestFrom ∈ gtbl := gtbl_of (List.mem_append_right _ (List.mem_of_getElem? (i := 464) (by decide +kernel))) rfl
theorem wd_471 : Cond.methodLink RX3 179 yX3_rightOnceMended ∈ gtbl := gtbl_of (List.mem_append_right _ (List.mem_of_getElem? (i := 471) (by decide +kernel))) rfl
theorem wd_475 : Cond.methodLink RX3 219 yX1_allRight ∈ gtbl := gtbl_of (List.mem_append_right _ (List.mem_of_getElem? (i := 475) (by decide +kernel))) rfl
theorem wd_483 : Cond.methodLink RX3 182 yJ6_bitCount_0f7a4 ∈ gtbl := gtbl_of (List.mem_append_right _ (List.mem_of_getElem? (i := 483) (by decide +kernel))) rfl
theorem wd_488 : Cond.methodLink RX3 187 yX3_comparePairs ∈ gtbl := gtbl_of (List.mem_append_right _ (List.mem_of_getElem? (i := 488) (by decide +kernel))) rfl
theorem wd_492 : Cond.methodLink RX3 236 yX1_differing ∈ gtbl := gtbl_of (List.mem_append_right _ (List.mem_of_getElem? (i := 492) (by decide +kernel))) rfl
theorem wd_496 : Cond.methodLink RX3 190 yX3_partsAll ∈ gtbl := gtbl_of (List.mem_append_right _ (List.mem_of_getElem? (i := 496) (by decide +kernel))) rfl
theorem wd_504 : Cond.methodLink RX3 193 yX1_isAnother ∈ gtbl := gtbl_of (List.mem_append_right _ (List.mem_of_getElem? (i := 504) (by decide +kernel))) rfl
theorem wd_508 : Cond.methodLink RX1 130 yX1_holders ∈ gtbl := gtbl_of (List.mem_append_right _ (List.mem_of_getElem? (i := 508) (by decide +kernel))) rfl
theorem wd_512 : Cond.methodLink RX1 121 yX1_canRepair ∈ gtbl := gtbl_of (List.mem_append_right _ (List.mem_of_getElem? (i := 512) (by decide +kernel))) rfl
theorem wd_517 : Cond.methodLink RX3 196 yX0_add ∈ gtbl := gtbl_of (List.mem_append_right _ (List.mem_of_getElem? (i := 517) (by decide +kernel))) rfl
theorem wd_530 : Cond.methodLink RX3 200 yX0_fitting ∈ gtbl := gtbl_of (List.mem_append_right _ (List.mem_of_getElem? (i := 530) (by decide +kernel))) rfl
theorem wd_534 : Cond.methodLink RX0 44 yX0_lastDay ∈ gtbl := gtbl_of (List.mem_append_right _ (List.mem_of_getElem? (i := 534) (by decide +kernel))) rfl
theorem wd_539 : Cond.methodLink RX0 33 Lib.Math.max.name ∈ gtbl := gtbl_of (List.mem_append_right _ (List.mem_of_getElem? (i := 539) (by decide +kernel))) rfl
theorem wd_540 : Cond.methodLink RX0 48 yX1_having ∈ gtbl := gtbl_of (List.mem_append_right _ (List.mem_of_getElem? (i := 540) (by decide +kernel))) rfl
theorem wd_544 : Cond.methodLink RX0 51 yX1_spendDay ∈ gtbl := gtbl_of (List.mem_append_right _ (List.mem_of_getElem? (i := 544) (by decide +kernel))) rfl
theorem wd_553 : Cond.methodLink RX3 207 yX3_hailFrom ∈ gtbl := gtbl_of (List.mem_append_right _ (List.mem_of_getElem? (i := 553) (by decide +kernel))) rfl
theorem wd_556 : Cond.methodLink RX3 210 yX3_commonPart ∈ gtbl := gtbl_of (List.mem_append_right _ (List.mem_of_getElem? (i := 556) (by decide +kernel))) rfl
theorem wd_563 : Cond.methodLink RX3 213 yX3_draw ∈ gtbl := gtbl_of (List.mem_append_right _ (List.mem_of_getElem? (i := 563) (by decide +kernel))) rfl
theorem wd_566 : Cond.constantLong RX3 242 (7919) ∈ gtbl := gtbl_of (List.mem_append_right _ (List.mem_of_getElem? (i := 566) (by decide +kernel))) rfl
theorem wd_567 : Cond.constantLong RX3 244 (6151) ∈ gtbl := gtbl_of (List.mem_append_right _ (List.mem_of_getElem? (i := 567) (by decide +kernel))) rfl
theorem wd_568 : Cond.constantLong RX3 246 (65521) ∈ gtbl := gtbl_of (List.mem_append_right _ (List.mem_of_getElem? (i := 568) (by decide +kernel))) rfl
theorem wd_569 : Cond.methodLink RX3 216 yX1_befall ∈ gtbl := gtbl_of (List.mem_append_right _ (List.mem_of_getElem? (i := 569) (by decide +kernel))) rfl
theorem wd_573 : Cond.methodLink RX1 118 yX1_teach ∈ gtbl := gtbl_of (List.mem_append_right _ (List.mem_of_getElem? (i := 573) (by decide +kernel))) rfl
theorem wd_574 : Cond.methodLink RX1 124 yX1_repair ∈ gtbl := gtbl_of (List.mem_append_right _ (List.mem_of_getElem? (i := 574) (by decide +kernel))) rfl
theorem wd_575 : Cond.methodLink RX1 127 yX1_swapSeats ∈ gtbl := gtbl_of (List.mem_append_right _ (List.mem_of_getElem? (i := 575) (by decide +kernel))) rfl
theorem wd_588 : Cond.methodLink RX3 228 yX1_allHad ∈ gtbl := gtbl_of (List.mem_append_right _ (List.mem_of_getElem? (i := 588) (by decide +kernel))) rfl
theorem wd_598 : Cond.methodLink RX4 38 yX4_clears ∈ gtbl := gtbl_of (List.mem_append_right _ (List.mem_of_getElem? (i := 598) (by decide +kernel))) rfl
theorem wd_602 : Cond.methodLink RX4 45 yX4_sits ∈ gtbl := gtbl_of (List.mem_append_right _ (List.mem_of_getElem? (i := 602) (by decide +kernel))) rfl
theorem wd_606 : Cond.methodLink RX4 49 yX4_has ∈ gtbl := gtbl_of (List.mem_append_right _ (List.mem_of_getElem? (i := 606) (by decide +kernel))) rfl
theorem wd_610 : Cond.methodLink RX4 55 yX4_settles ∈ gtbl := gtbl_of (List.mem_append_right _ (List.mem_of_getElem? (i := 610) (by decide +kernel))) rfl
theorem wd_614 : Cond.methodLink RX4 70 yX4_copies ∈ gtbl := gtbl_of (List.mem_append_right _ (List.mem_of_getElem? (i := 614) (by decide +kernel))) rfl
theorem wd_618 : Cond.fieldLink RX4 61 RX4 "words" "I" ∈ gtbl := gtbl_of (List.mem_append_right _ (List.mem_of_getElem? (i := 618) (by decide +kernel))) rfl
theorem wd_619 : Cond.fieldLink RX4 7 RX4 "sounds" "[I" ∈ gtbl := gtbl_of (List.mem_append_right _ (List.mem_of_getElem? (i := 619) (by decide +kernel))) rfl
theorem wd_620 : Cond.fieldLink RX4 64 RX4 "many" "I" ∈ gtbl := gtbl_of (List.mem_append_right _ (List.mem_of_getElem? (i := 620) (by decide +kernel))) rfl
theorem wd_621 : Cond.fieldLink RX4 67 RX4 "enough" "I" ∈ gtbl := gtbl_of (List.mem_append_right _ (List.mem_of_getElem? (i := 621) (by decide +kernel))) rfl
theorem wd_622 : Cond.fieldLink RX4 41 RX4 "newWords" "I" ∈ gtbl := gtbl_of (List.mem_append_right _ (List.mem_of_getElem? (i := 622) (by decide +kernel))) rfl
theorem wd_623 : Cond.fieldLink RX4 13 RX4 "newSounds" "[I" ∈ gtbl := gtbl_of (List.mem_append_right _ (List.mem_of_getElem? (i := 623) (by decide +kernel))) rfl
theorem wd_624 : Cond.fieldLink RX4 58 RX4 "newMany" "I" ∈ gtbl := gtbl_of (List.mem_append_right _ (List.mem_of_getElem? (i := 624) (by decide +kernel))) rfl
theorem wd_625 : Cond.fieldLink RX4 52 RX4 "newEnough" "I" ∈ gtbl := gtbl_of (List.mem_append_right _ (List.mem_of_getElem? (i := 625) (by decide +kernel))) rfl
theorem wd_626 : Cond.fieldLink RX4 16 RX4 "slot" "[I" ∈ gtbl := gtbl_of (List.mem_append_right _ (List.mem_of_getElem? (i := 626) (by decide +kernel))) rfl
theorem wd_627 : Cond.fieldLink RX4 128 RX4 "acts" "I" ∈ gtbl := gtbl_of (List.mem_append_right _ (List.mem_of_getElem? (i := 627) (by decide +kernel))) rfl
theorem wd_628 : Cond.fieldLink RX4 131 RX4 "keeps" "I" ∈ gtbl := gtbl_of (List.mem_append_right _ (List.mem_of_getElem? (i := 628) (by decide +kernel))) rfl
theorem wd_629 : Cond.fieldLink RX4 81 RX4 "length" "I" ∈ gtbl := gtbl_of (List.mem_append_right _ (List.mem_of_getElem? (i := 629) (by decide +kernel))) rfl
theorem wd_630 : Cond.fieldLink RX4 19 RX4 "text" "[B" ∈ gtbl := gtbl_of (List.mem_append_right _ (List.mem_of_getElem? (i := 630) (by decide +kernel))) rfl
theorem wd_631 : Cond.fieldLink RX4 84 RX4 "at" "I" ∈ gtbl := gtbl_of (List.mem_append_right _ (List.mem_of_getElem? (i := 631) (by decide +kernel))) rfl
theorem wd_632 : Cond.fieldLink RX4 117 RX4 "begin" "I" ∈ gtbl := gtbl_of (List.mem_append_right _ (List.mem_of_getElem? (i := 632) (by decide +kernel))) rfl
theorem wd_633 : Cond.fieldLink RX4 95 RX4 "isWrong" "Z" ∈ gtbl := gtbl_of (List.mem_append_right _ (List.mem_of_getElem? (i := 633) (by decide +kernel))) rfl
theorem wd_634 : Cond.fieldLink RX4 134 RX4 "heards" "I" ∈ gtbl := gtbl_of (List.mem_append_right _ (List.mem_of_getElem? (i := 634) (by decide +kernel))) rfl
theorem wd_635 : Cond.fieldLink RX4 23 RX4 "heardWord" "[I" ∈ gtbl := gtbl_of (List.mem_append_right _ (List.mem_of_getElem? (i := 635) (by decide +kernel))) rfl
theorem wd_636 : Cond.fieldLink RX4 26 RX4 "heardSound" "[I" ∈ gtbl := gtbl_of (List.mem_append_right _ (List.mem_of_getElem? (i := 636) (by decide +kernel))) rfl
theorem wd_637 : Cond.fieldLink RX4 29 RX4 "heardDay" "[I" ∈ gtbl := gtbl_of (List.mem_append_right _ (List.mem_of_getElem? (i := 637) (by decide +kernel))) rfl
theorem wd_638 : Cond.fieldLink RX4 32 RX4 "tells" "[I" ∈ gtbl := gtbl_of (List.mem_append_right _ (List.mem_of_getElem? (i := 638) (by decide +kernel))) rfl
theorem wd_639 : Cond.fieldLink RX4 35 RX4 "how" "[I" ∈ gtbl := gtbl_of (List.mem_append_right _ (List.mem_of_getElem? (i := 639) (by decide +kernel))) rfl
theorem wd_689 : Cond.constantLong RX4 77 (32) ∈ gtbl := gtbl_of (List.mem_append_right _ (List.mem_of_getElem? (i := 689) (by decide +kernel))) rfl
theorem wd_690 : Cond.constantLong RX4 79 (126) ∈ gtbl := gtbl_of (List.mem_append_right _ (List.mem_of_getElem? (i := 690) (by decide +kernel))) rfl
theorem wd_691 : Cond.methodLink RX4 73 yX4_in ∈ gtbl := gtbl_of (List.mem_append_right _ (List.mem_of_getElem? (i := 691) (by decide +kernel))) rfl
theorem wd_702 : Cond.methodLink RX4 124 yX4_reads ∈ gtbl := gtbl_of (List.mem_append_right _ (List.mem_of_getElem? (i := 702) (by decide +kernel))) rfl
theorem wd_706 : Cond.methodLink RX4 87 yX4_next ∈ gtbl := gtbl_of (List.mem_append_right _ (List.mem_of_getElem? (i := 706) (by decide +kernel))) rfl
theorem wd_710 : Cond.methodLink RX4 120 yX4_item ∈ gtbl := gtbl_of (List.mem_append_right _ (List.mem_of_getElem? (i := 710) (by decide +kernel))) rfl
theorem wd_714 : Cond.methodLink RX4 111 yX4_tongueItem ∈ gtbl := gtbl_of (List.mem_append_right _ (List.mem_of_getElem? (i := 714) (by decide +kernel))) rfl
theorem wd_718 : Cond.constantLong RX4 91 (48) ∈ gtbl := gtbl_of (List.mem_append_right _ (List.mem_of_getElem? (i := 718) (by decide +kernel))) rfl
theorem wd_719 : Cond.constantLong RX4 93 (57) ∈ gtbl := gtbl_of (List.mem_append_right _ (List.mem_of_getElem? (i := 719) (by decide +kernel))) rfl
theorem wd_720 : Cond.methodLink RX4 103 yX4_smaller ∈ gtbl := gtbl_of (List.mem_append_right _ (List.mem_of_getElem? (i := 720) (by decide +kernel))) rfl
theorem wd_723 : Cond.constantLong RX4 106 (8) ∈ gtbl := gtbl_of (List.mem_append_right _ (List.mem_of_getElem? (i := 723) (by decide +kernel))) rfl
theorem wd_724 : Cond.methodLink RX4 114 yX4_wooerItem ∈ gtbl := gtbl_of (List.mem_append_right _ (List.mem_of_getElem? (i := 724) (by decide +kernel))) rfl
theorem wd_728 : Cond.methodLink RX4 99 yX4_number ∈ gtbl := gtbl_of (List.mem_append_right _ (List.mem_of_getElem? (i := 728) (by decide +kernel))) rfl
theorem wd_732 : Cond.methodLink RX4 108 yX4_more ∈ gtbl := gtbl_of (List.mem_append_right _ (List.mem_of_getElem? (i := 732) (by decide +kernel))) rfl
theorem wd_744 : Cond.methodLink RX4 137 yX4_isWord ∈ gtbl := gtbl_of (List.mem_append_right _ (List.mem_of_getElem? (i := 744) (by decide +kernel))) rfl
theorem wd_752 : Cond.methodLink RX4 152 yX4_isOne ∈ gtbl := gtbl_of (List.mem_append_right _ (List.mem_of_getElem? (i := 752) (by decide +kernel))) rfl
theorem wd_756 : Cond.constantLong RX4 155 (4) ∈ gtbl := gtbl_of (List.mem_append_right _ (List.mem_of_getElem? (i := 756) (by decide +kernel))) rfl
theorem wd_757 : Cond.methodLink RX4 157 yX4_had ∈ gtbl := gtbl_of (List.mem_append_right _ (List.mem_of_getElem? (i := 757) (by decide +kernel))) rfl
theorem wd_761 : Cond.methodLink RX4 141 yX4_hasIt ∈ gtbl := gtbl_of (List.mem_append_right _ (List.mem_of_getElem? (i := 761) (by decide +kernel))) rfl
theorem wd_765 : Cond.methodLink RX4 145 yX4_right ∈ gtbl := gtbl_of (List.mem_append_right _ (List.mem_of_getElem? (i := 765) (by decide +kernel))) rfl
theorem wd_769 : Cond.methodLink RX4 160 yX4_isSpeaker ∈ gtbl := gtbl_of (List.mem_append_right _ (List.mem_of_getElem? (i := 769) (by decide +kernel))) rfl
theorem wd_773 : Cond.methodLink RX4 148 yX4_bits ∈ gtbl := gtbl_of (List.mem_append_right _ (List.mem_of_getElem? (i := 773) (by decide +kernel))) rfl
theorem wd_784 : Cond.methodLink RX4 171 yX4_known ∈ gtbl := gtbl_of (List.mem_append_right _ (List.mem_of_getElem? (i := 784) (by decide +kernel))) rfl
theorem wd_788 : Cond.methodLink RX4 174 yX4_learns ∈ gtbl := gtbl_of (List.mem_append_right _ (List.mem_of_getElem? (i := 788) (by decide +kernel))) rfl
theorem wd_792 : Cond.methodLink RX4 164 yX4_hears ∈ gtbl := gtbl_of (List.mem_append_right _ (List.mem_of_getElem? (i := 792) (by decide +kernel))) rfl
theorem wd_796 : Cond.methodLink RX4 167 yX4_gets ∈ gtbl := gtbl_of (List.mem_append_right _ (List.mem_of_getElem? (i := 796) (by decide +kernel))) rfl
theorem wd_804 : Cond.constantLong RX4 188 (24) ∈ gtbl := gtbl_of (List.mem_append_right _ (List.mem_of_getElem? (i := 804) (by decide +kernel))) rfl
theorem wd_805 : Cond.methodLink RX4 190 yX4_days ∈ gtbl := gtbl_of (List.mem_append_right _ (List.mem_of_getElem? (i := 805) (by decide +kernel))) rfl
theorem wd_809 : Cond.methodLink RX4 185 yX4_goesOn ∈ gtbl := gtbl_of (List.mem_append_right _ (List.mem_of_getElem? (i := 809) (by decide +kernel))) rfl
theorem wd_813 : Cond.methodLink RX4 178 yX4_tellings ∈ gtbl := gtbl_of (List.mem_append_right _ (List.mem_of_getElem? (i := 813) (by decide +kernel))) rfl
theorem wd_817 : Cond.methodLink RX4 182 yX4_grows ∈ gtbl := gtbl_of (List.mem_append_right _ (List.mem_of_getElem? (i := 817) (by decide +kernel))) rfl
theorem wd_821 : Cond.methodLink RX4 193 yX4_speakers ∈ gtbl := gtbl_of (List.mem_append_right _ (List.mem_of_getElem? (i := 821) (by decide +kernel))) rfl
theorem wd_829 : Cond.methodLink RX4 196 yX4_canMend ∈ gtbl := gtbl_of (List.mem_append_right _ (List.mem_of_getElem? (i := 829) (by decide +kernel))) rfl
theorem wd_837 : Cond.methodLink RX4 200 yX4_swaps ∈ gtbl := gtbl_of (List.mem_append_right _ (List.mem_of_getElem? (i := 837) (by decide +kernel))) rfl
theorem wd_849 : Cond.constantLong RX4 203 (40) ∈ gtbl := gtbl_of (List.mem_append_right _ (List.mem_of_getElem? (i := 849) (by decide +kernel))) rfl
theorem wd_850 : Cond.constantLong RX4 205 (-1) ∈ gtbl := gtbl_of (List.mem_append_right _ (List.mem_of_getElem? (i := 850) (by decide +kernel))) rfl
theorem wd_859 : Cond.constantLong RX4 207 (3) ∈ gtbl := gtbl_of (List.mem_append_right _ (List.mem_of_getElem? (i := 859) (by decide +kernel))) rfl
theorem wd_860 : Cond.constantLong RX4 209 (2) ∈ gtbl := gtbl_of (List.mem_append_right _ (List.mem_of_getElem? (i := 860) (by decide +kernel))) rfl
theorem wd_861 : Cond.methodLink RX4 211 yX4_larger ∈ gtbl := gtbl_of (List.mem_append_right _ (List.mem_of_getElem? (i := 861) (by decide +kernel))) rfl
theorem wd_868 : Cond.methodLink RX4 214 yX4_rights ∈ gtbl := gtbl_of (List.mem_append_right _ (List.mem_of_getElem? (i := 868) (by decide +kernel))) rfl
theorem wd_880 : Cond.methodLink RX4 217 yX4_isApart ∈ gtbl := gtbl_of (List.mem_append_right _ (List.mem_of_getElem? (i := 880) (by decide +kernel))) rfl
theorem wd_888 : Cond.methodLink RX4 220 yX4_manyHave ∈ gtbl := gtbl_of (List.mem_append_right _ (List.mem_of_getElem? (i := 888) (by decide +kernel))) rfl
theorem wd_896 : Cond.constantLong RX4 223 (10) ∈ gtbl := gtbl_of (List.mem_append_right _ (List.mem_of_getElem? (i := 896) (by decide +kernel))) rfl
theorem wd_897 : Cond.constantLong RX4 225 (20) ∈ gtbl := gtbl_of (List.mem_append_right _ (List.mem_of_getElem? (i := 897) (by decide +kernel))) rfl
theorem wd_906 : Cond.methodLink RX4 227 yX4_fits ∈ gtbl := gtbl_of (List.mem_append_right _ (List.mem_of_getElem? (i := 906) (by decide +kernel))) rfl
theorem wd_922 : Cond.constantLong RX4 230 (9999) ∈ gtbl := gtbl_of (List.mem_append_right _ (List.mem_of_getElem? (i := 922) (by decide +kernel))) rfl
theorem wd_923 : Cond.constantLong RX4 232 (60) ∈ gtbl := gtbl_of (List.mem_append_right _ (List.mem_of_getElem? (i := 923) (by decide +kernel))) rfl
theorem wd_924 : Cond.constantLong RX4 234 (7919) ∈ gtbl := gtbl_of (List.mem_append_right _ (List.mem_of_getElem? (i := 924) (by decide +kernel))) rfl
theorem wd_925 : Cond.constantLong RX4 236 (6151) ∈ gtbl := gtbl_of (List.mem_append_right _ (List.mem_of_getElem? (i := 925) (by decide +kernel))) rfl
theorem wd_926 : Cond.constantLong RX4 238 (65521) ∈ gtbl := gtbl_of (List.mem_append_right _ (List.mem_of_getElem? (i := 926) (by decide +kernel))) rfl
theorem wd_927 : Cond.methodLink RX4 240 yX4_does ∈ gtbl := gtbl_of (List.mem_append_right _ (List.mem_of_getElem? (i := 927) (by decide +kernel))) rfl
theorem wd_943 : Cond.methodLink RX4 243 yX4_allHad ∈ gtbl := gtbl_of (List.mem_append_right _ (List.mem_of_getElem? (i := 943) (by decide +kernel))) rfl
theorem wc_J6_bitCount_0f7a4 : WcS yJ6_bitCount_0f7a4 cJ6_bitCount_0f7a4 1 (some .int) 1 := ⟨gtbl_of (List.mem_append_right _ (List.mem_of_getElem? (i := 329) (by decide +kernel))) rfl, gtbl_of (List.mem_append_right _ (List.mem_of_getElem? (i := 12) (by decide +kernel))) rfl, gtbl_of (List.mem_append_right _ (List.mem_of_getElem? (i := 330) (by decide +kernel))) rfl, ⟨by decide +kernel, by decide +kernel, by decide +kernel⟩⟩
theorem wc_X0_add : WcV yX0_add cX0_add 4 (some .boolean) 3 := ⟨gtbl_of (List.mem_append_right _ (List.mem_of_getElem? (i := 518) (by decide +kernel))) rfl, gtbl_of (List.mem_append_right _ (List.mem_of_getElem? (i := 519) (by decide +kernel))) rfl, gtbl_of (List.mem_append_right _ (List.mem_of_getElem? (i := 9) (by decide +kernel))) rfl, gtbl_of (List.mem_append_right _ (List.mem_of_getElem? (i := 520) (by decide +kernel))) rfl, ⟨by decide +kernel, by decide +kernel, by decide +kernel⟩⟩
theorem wc_X0_fitting : WcV yX0_fitting cX0_fitting 6 (some .int) 1 := ⟨gtbl_of (List.mem_append_right _ (List.mem_of_getElem? (i := 531) (by decide +kernel))) rfl, gtbl_of (List.mem_append_right _ (List.mem_of_getElem? (i := 532) (by decide +kernel))) rfl, gtbl_of (List.mem_append_right _ (List.mem_of_getElem? (i := 9) (by decide +kernel))) rfl, gtbl_of (List.mem_append_right _ (List.mem_of_getElem? (i := 533) (by decide +kernel))) rfl, ⟨by decide +kernel, by decide +kernel, by decide +kernel⟩⟩
theorem wc_X0_lastDay : WcV yX0_lastDay cX0_lastDay 3 (some .int) 0 := ⟨gtbl_of (List.mem_append_right _ (List.mem_of_getElem? (i := 535) (by decide +kernel))) rfl, gtbl_of (List.mem_append_right _ (List.mem_of_getElem? (i := 536) (by decide +kernel))) rfl, gtbl_of (List.mem_append_right _ (List.mem_of_getElem? (i := 9) (by decide +kernel))) rfl, gtbl_of (List.mem_append_right _ (List.mem_of_getElem? (i := 537) (by decide +kernel))) rfl, ⟨by decide +kernel, by decide +kernel, by decide +kernel⟩⟩
theorem wc_X1_ageOf : WcV yX1_ageOf cX1_ageOf 3 (some .int) 2 := ⟨gtbl_of (List.mem_append_right _ (List.mem_of_getElem? (i := 347) (by decide +kernel))) rfl, gtbl_of (List.mem_append_right _ (List.mem_of_getElem? (i := 348) (by decide +kernel))) rfl, gtbl_of (List.mem_append_right _ (List.mem_of_getElem? (i := 3) (by decide +kernel))) rfl, gtbl_of (List.mem_append_right _ (List.mem_of_getElem? (i := 349) (by decide +kernel))) rfl, ⟨by decide +kernel, by decide +kernel, by decide +kernel⟩⟩
theorem wc_X1_allHad : WcV yX1_allHad cX1_allHad 3 (some .int) 0 := ⟨gtbl_of (List.mem_append_right _ (List.mem_of_getElem? (i := 589) (by decide +kernel))) rfl, gtbl_of (List.mem_append_right _ (List.mem_of_getElem? (i := 590) (by decide +kernel))) rfl, gtbl_of (List.mem_append_right _ (List.mem_of_getElem? (i := 3) (by decide +kernel))) rfl, gtbl_of (List.mem_append_right _ (List.mem_of_getElem? (i := 591) (by decide +kernel))) rfl, ⟨by decide +kernel, by decide +kernel, by decide +kernel⟩⟩
theorem wc_X1_allRight : WcV yX1_allRight cX1_allRight 3 (some .int) 0 := ⟨gtbl_of (List.mem_append_right _ (List.mem_of_getElem? (i := 476) (by decide +kernel))) rfl, gtbl_of (List.mem_append_right _ (List.mem_of_getElem? (i := 477) (by decide +kernel))) rfl, gtbl_of (List.mem_append_right _ (List.mem_of_getElem? (i := 3) (by decide +kernel))) rfl, gtbl_of (List.mem_append_right _ (List.mem_of_getElem? (i := 478) (by decide +kernel))) rfl, ⟨by decide +kernel, by decide +kernel, by decide +kernel⟩⟩
theorem wc_X1_asHeardBy : WcV yX1_asHeardBy cX1_asHeardBy 3 (some .int) 2 := ⟨gtbl_of (List.mem_append_right _ (List.mem_of_getElem? (i := 373) (by decide +kernel))) rfl, gtbl_of (List.mem_append_right _ (List.mem_of_getElem? (i := 374) (by decide +kernel))) rfl, gtbl_of (List.mem_append_right _ (List.mem_of_getElem? (i := 3) (by decide +kernel))) rfl, gtbl_of (List.mem_append_right _ (List.mem_of_getElem? (i := 375) (by decide +kernel))) rfl, ⟨by decide +kernel, by decide +kernel, by decide +kernel⟩⟩
theorem wc_X1_befall : WcV yX1_befall cX1_befall 6 none 1 := ⟨gtbl_of (List.mem_append_right _ (List.mem_of_getElem? (i := 570) (by decide +kernel))) rfl, gtbl_of (List.mem_append_right _ (List.mem_of_getElem? (i := 571) (by decide +kernel))) rfl, gtbl_of (List.mem_append_right _ (List.mem_of_getElem? (i := 3) (by decide +kernel))) rfl, gtbl_of (List.mem_append_right _ (List.mem_of_getElem? (i := 572) (by decide +kernel))) rfl, ⟨by decide +kernel, by decide +kernel, by decide +kernel⟩⟩
theorem wc_X1_canRepair : WcV yX1_canRepair cX1_canRepair 3 (some .boolean) 2 := ⟨gtbl_of (List.mem_append_right _ (List.mem_of_getElem? (i := 419) (by decide +kernel))) rfl, gtbl_of (List.mem_append_right _ (List.mem_of_getElem? (i := 420) (by decide +kernel))) rfl, gtbl_of (List.mem_append_right _ (List.mem_of_getElem? (i := 3) (by decide +kernel))) rfl, gtbl_of (List.mem_append_right _ (List.mem_of_getElem? (i := 421) (by decide +kernel))) rfl, ⟨by decide +kernel, by decide +kernel, by decide +kernel⟩⟩
theorem wc_X1_clear : WcV yX1_clear cX1_clear 1 none 0 := ⟨gtbl_of (List.mem_append_right _ (List.mem_of_getElem? (i := 164) (by decide +kernel))) rfl, gtbl_of (List.mem_append_right _ (List.mem_of_getElem? (i := 165) (by decide +kernel))) rfl, gtbl_of (List.mem_append_right _ (List.mem_of_getElem? (i := 3) (by decide +kernel))) rfl, gtbl_of (List.mem_append_right _ (List.mem_of_getElem? (i := 166) (by decide +kernel))) rfl, ⟨by decide +kernel, by decide +kernel, by decide +kernel⟩⟩
theorem wc_X1_copy : WcV yX1_copy cX1_copy 2 none 1 := ⟨gtbl_of (List.mem_append_right _ (List.mem_of_getElem? (i := 291) (by decide +kernel))) rfl, gtbl_of (List.mem_append_right _ (List.mem_of_getElem? (i := 292) (by decide +kernel))) rfl, gtbl_of (List.mem_append_right _ (List.mem_of_getElem? (i := 3) (by decide +kernel))) rfl, gtbl_of (List.mem_append_right _ (List.mem_of_getElem? (i := 293) (by decide +kernel))) rfl, ⟨by decide +kernel, by decide +kernel, by decide +kernel⟩⟩
theorem wc_X1_differing : WcV yX1_differing cX1_differing 6 (some .int) 2 := ⟨gtbl_of (List.mem_append_right _ (List.mem_of_getElem? (i := 493) (by decide +kernel))) rfl, gtbl_of (List.mem_append_right _ (List.mem_of_getElem? (i := 494) (by decide +kernel))) rfl, gtbl_of (List.mem_append_right _ (List.mem_of_getElem? (i := 3) (by decide +kernel))) rfl, gtbl_of (List.mem_append_right _ (List.mem_of_getElem? (i := 495) (by decide +kernel))) rfl, ⟨by decide +kernel, by decide +kernel, by decide +kernel⟩⟩
theorem wc_X1_drop : WcV yX1_drop cX1_drop 4 none 2 := ⟨gtbl_of (List.mem_append_right _ (List.mem_of_getElem? (i := 402) (by decide +kernel))) rfl, gtbl_of (List.mem_append_right _ (List.mem_of_getElem? (i := 403) (by decide +kernel))) rfl, gtbl_of (List.mem_append_right _ (List.mem_of_getElem? (i := 3) (by decide +kernel))) rfl, gtbl_of (List.mem_append_right _ (List.mem_of_getElem? (i := 404) (by decide +kernel))) rfl, ⟨by decide +kernel, by decide +kernel, by decide +kernel⟩⟩
theorem wc_X1_give : WcV yX1_give cX1_give 5 none 3 := ⟨gtbl_of (List.mem_append_right _ (List.mem_of_getElem? (i := 200) (by decide +kernel))) rfl, gtbl_of (List.mem_append_right _ (List.mem_of_getElem? (i := 201) (by decide +kernel))) rfl, gtbl_of (List.mem_append_right _ (List.mem_of_getElem? (i := 3) (by decide +kernel))) rfl, gtbl_of (List.mem_append_right _ (List.mem_of_getElem? (i := 202) (by decide +kernel))) rfl, ⟨by decide +kernel, by decide +kernel, by decide +kernel⟩⟩
theorem wc_X1_growOlder : WcV yX1_growOlder cX1_growOlder 6 none 2 := ⟨gtbl_of (List.mem_append_right _ (List.mem_of_getElem? (i := 397) (by decide +kernel))) rfl, gtbl_of (List.mem_append_right _ (List.mem_of_getElem? (i := 398) (by decide +kernel))) rfl, gtbl_of (List.mem_append_right _ (List.mem_of_getElem? (i := 3) (by decide +kernel))) rfl, gtbl_of (List.mem_append_right _ (List.mem_of_getElem? (i := 399) (by decide +kernel))) rfl, ⟨by decide +kernel, by decide +kernel, by decide +kernel⟩⟩
theorem wc_X1_having : WcV yX1_having cX1_having 6 (some .int) 2 := ⟨gtbl_of (List.mem_append_right _ (List.mem_of_getElem? (i := 541) (by decide +kernel))) rfl, gtbl_of (List.mem_append_right _ (List.mem_of_getElem? (i := 542) (by decide +kernel))) rfl, gtbl_of (List.mem_append_right _ (List.mem_of_getElem? (i := 3) (by decide +kernel))) rfl, gtbl_of (List.mem_append_right _ (List.mem_of_getElem? (i := 543) (by decide +kernel))) rfl, ⟨by decide +kernel, by decide +kernel, by decide +kernel⟩⟩
theorem wc_X1_holders : WcV yX1_holders cX1_holders 5 (some .int) 2 := ⟨gtbl_of (List.mem_append_right _ (List.mem_of_getElem? (i := 509) (by decide +kernel))) rfl, gtbl_of (List.mem_append_right _ (List.mem_of_getElem? (i := 510) (by decide +kernel))) rfl, gtbl_of (List.mem_append_right _ (List.mem_of_getElem? (i := 3) (by decide +kernel))) rfl, gtbl_of (List.mem_append_right _ (List.mem_of_getElem? (i := 511) (by decide +kernel))) rfl, ⟨by decide +kernel, by decide +kernel, by decide +kernel⟩⟩
theorem wc_X1_holds : WcV yX1_holds cX1_holds 3 (some .boolean) 2 := ⟨gtbl_of (List.mem_append_right _ (List.mem_of_getElem? (i := 339) (by decide +kernel))) rfl, gtbl_of (List.mem_append_right _ (List.mem_of_getElem? (i := 340) (by decide +kernel))) rfl, gtbl_of (List.mem_append_right _ (List.mem_of_getElem? (i := 3) (by decide +kernel))) rfl, gtbl_of (List.mem_append_right _ (List.mem_of_getElem? (i := 341) (by decide +kernel))) rfl, ⟨by decide +kernel, by decide +kernel, by decide +kernel⟩⟩
theorem wc_X1_isAnother : WcV yX1_isAnother cX1_isAnother 4 (some .boolean) 1 := ⟨gtbl_of (List.mem_append_right _ (List.mem_of_getElem? (i := 505) (by decide +kernel))) rfl, gtbl_of (List.mem_append_right _ (List.mem_of_getElem? (i := 506) (by decide +kernel))) rfl, gtbl_of (List.mem_append_right _ (List.mem_of_getElem? (i := 3) (by decide +kernel))) rfl, gtbl_of (List.mem_append_right _ (List.mem_of_getElem? (i := 507) (by decide +kernel))) rfl, ⟨by decide +kernel, by decide +kernel, by decide +kernel⟩⟩
theorem wc_X1_isRight : WcV yX1_isRight cX1_isRight 3 (some .boolean) 2 := ⟨gtbl_of (List.mem_append_right _ (List.mem_of_getElem? (i := 423) (by decide +kernel))) rfl, gtbl_of (List.mem_append_right _ (List.mem_of_getElem? (i := 424) (by decide +kernel))) rfl, gtbl_of (List.mem_append_right _ (List.mem_of_getElem? (i := 3) (by decide +kernel))) rfl, gtbl_of (List.mem_append_right _ (List.mem_of_getElem? (i := 425) (by decide +kernel))) rfl, ⟨by decide +kernel, by decide +kernel, by decide +kernel⟩⟩
theorem wc_X1_isSpeaker : WcV yX1_isSpeaker cX1_isSpeaker 2 (some .boolean) 1 := ⟨gtbl_of (List.mem_append_right _ (List.mem_of_getElem? (i := 321) (by decide +kernel))) rfl, gtbl_of (List.mem_append_right _ (List.mem_of_getElem? (i := 322) (by decide +kernel))) rfl, gtbl_of (List.mem_append_right _ (List.mem_of_getElem? (i := 3) (by decide +kernel))) rfl, gtbl_of (List.mem_append_right _ (List.mem_of_getElem? (i := 323) (by decide +kernel))) rfl, ⟨by decide +kernel, by decide +kernel, by decide +kernel⟩⟩
theorem wc_X1_isWooer : WcV yX1_isWooer cX1_isWooer 2 (some .boolean) 1 := ⟨gtbl_of (List.mem_append_right _ (List.mem_of_getElem? (i := 317) (by decide +kernel))) rfl, gtbl_of (List.mem_append_right _ (List.mem_of_getElem? (i := 318) (by decide +kernel))) rfl, gtbl_of (List.mem_append_right _ (List.mem_of_getElem? (i := 3) (by decide +kernel))) rfl, gtbl_of (List.mem_append_right _ (List.mem_of_getElem? (i := 319) (by decide +kernel))) rfl, ⟨by decide +kernel, by decide +kernel, by decide +kernel⟩⟩
theorem wc_X1_isWord : WcV yX1_isWord cX1_isWord 2 (some .boolean) 1 := ⟨gtbl_of (List.mem_append_right _ (List.mem_of_getElem? (i := 308) (by decide +kernel))) rfl, gtbl_of (List.mem_append_right _ (List.mem_of_getElem? (i := 309) (by decide +kernel))) rfl, gtbl_of (List.mem_append_right _ (List.mem_of_getElem? (i := 3) (by decide +kernel))) rfl, gtbl_of (List.mem_append_right _ (List.mem_of_getElem? (i := 310) (by decide +kernel))) rfl, ⟨by decide +kernel, by decide +kernel, by decide +kernel⟩⟩
theorem wc_X1_lowest : WcV yX1_lowest cX1_lowest 2 (some .int) 1 := ⟨gtbl_of (List.mem_append_right _ (List.mem_of_getElem? (i := 393) (by decide +kernel))) rfl, gtbl_of (List.mem_append_right _ (List.mem_of_getElem? (i := 394) (by decide +kernel))) rfl, gtbl_of (List.mem_append_right _ (List.mem_of_getElem? (i := 3) (by decide +kernel))) rfl, gtbl_of (List.mem_append_right _ (List.mem_of_getElem? (i := 395) (by decide +kernel))) rfl, ⟨by decide +kernel, by decide +kernel, by decide +kernel⟩⟩
theorem wc_X1_nextSeat : WcV yX1_nextSeat cX1_nextSeat 2 (some .int) 1 := ⟨gtbl_of (List.mem_append_right _ (List.mem_of_getElem? (i := 389) (by decide +kernel))) rfl, gtbl_of (List.mem_append_right _ (List.mem_of_getElem? (i := 390) (by decide +kernel))) rfl, gtbl_of (List.mem_append_right _ (List.mem_of_getElem? (i := 3) (by decide +kernel))) rfl, gtbl_of (List.mem_append_right _ (List.mem_of_getElem? (i := 391) (by decide +kernel))) rfl, ⟨by decide +kernel, by decide +kernel, by decide +kernel⟩⟩
theorem wc_X1_repair : WcV yX1_repair cX1_repair 3 none 2 := ⟨gtbl_of (List.mem_append_right _ (List.mem_of_getElem? (i := 427) (by decide +kernel))) rfl, gtbl_of (List.mem_append_right _ (List.mem_of_getElem? (i := 428) (by decide +kernel))) rfl, gtbl_of (List.mem_append_right _ (List.mem_of_getElem? (i := 3) (by decide +kernel))) rfl, gtbl_of (List.mem_append_right _ (List.mem_of_getElem? (i := 429) (by decide +kernel))) rfl, ⟨by decide +kernel, by decide +kernel, by decide +kernel⟩⟩
theorem wc_X1_rightOf : WcV yX1_rightOf cX1_rightOf 2 (some .int) 1 := ⟨gtbl_of (List.mem_append_right _ (List.mem_of_getElem? (i := 325) (by decide +kernel))) rfl, gtbl_of (List.mem_append_right _ (List.mem_of_getElem? (i := 326) (by decide +kernel))) rfl, gtbl_of (List.mem_append_right _ (List.mem_of_getElem? (i := 3) (by decide +kernel))) rfl, gtbl_of (List.mem_append_right _ (List.mem_of_getElem? (i := 327) (by decide +kernel))) rfl, ⟨by decide +kernel, by decide +kernel, by decide +kernel⟩⟩
theorem wc_X1_seat : WcV yX1_seat cX1_seat 4 (some .int) 2 := ⟨gtbl_of (List.mem_append_right _ (List.mem_of_getElem? (i := 195) (by decide +kernel))) rfl, gtbl_of (List.mem_append_right _ (List.mem_of_getElem? (i := 196) (by decide +kernel))) rfl, gtbl_of (List.mem_append_right _ (List.mem_of_getElem? (i := 3) (by decide +kernel))) rfl, gtbl_of (List.mem_append_right _ (List.mem_of_getElem? (i := 197) (by decide +kernel))) rfl, ⟨by decide +kernel, by decide +kernel, by decide +kernel⟩⟩
theorem wc_X1_speakers : WcV yX1_speakers cX1_speakers 3 (some .int) 0 := ⟨gtbl_of (List.mem_append_right _ (List.mem_of_getElem? (i := 410) (by decide +kernel))) rfl, gtbl_of (List.mem_append_right _ (List.mem_of_getElem? (i := 411) (by decide +kernel))) rfl, gtbl_of (List.mem_append_right _ (List.mem_of_getElem? (i := 3) (by decide +kernel))) rfl, gtbl_of (List.mem_append_right _ (List.mem_of_getElem? (i := 412) (by decide +kernel))) rfl, ⟨by decide +kernel, by decide +kernel, by decide +kernel⟩⟩
theorem wc_X1_spend : WcV yX1_spend cX1_spend 3 none 1 := ⟨gtbl_of (List.mem_append_right _ (List.mem_of_getElem? (i := 381) (by decide +kernel))) rfl, gtbl_of (List.mem_append_right _ (List.mem_of_getElem? (i := 382) (by decide +kernel))) rfl, gtbl_of (List.mem_append_right _ (List.mem_of_getElem? (i := 3) (by decide +kernel))) rfl, gtbl_of (List.mem_append_right _ (List.mem_of_getElem? (i := 383) (by decide +kernel))) rfl, ⟨by decide +kernel, by decide +kernel, by decide +kernel⟩⟩
theorem wc_X1_spendDay : WcV yX1_spendDay cX1_spendDay 3 none 1 := ⟨gtbl_of (List.mem_append_right _ (List.mem_of_getElem? (i := 385) (by decide +kernel))) rfl, gtbl_of (List.mem_append_right _ (List.mem_of_getElem? (i := 386) (by decide +kernel))) rfl, gtbl_of (List.mem_append_right _ (List.mem_of_getElem? (i := 3) (by decide +kernel))) rfl, gtbl_of (List.mem_append_right _ (List.mem_of_getElem? (i := 387) (by decide +kernel))) rfl, ⟨by decide +kernel, by decide +kernel, by decide +kernel⟩⟩
theorem wc_X1_swapSeats : WcV yX1_swapSeats cX1_swapSeats 4 none 2 := ⟨gtbl_of (List.mem_append_right _ (List.mem_of_getElem? (i := 435) (by decide +kernel))) rfl, gtbl_of (List.mem_append_right _ (List.mem_of_getElem? (i := 436) (by decide +kernel))) rfl, gtbl_of (List.mem_append_right _ (List.mem_of_getElem? (i := 3) (by decide +kernel))) rfl, gtbl_of (List.mem_append_right _ (List.mem_of_getElem? (i := 437) (by decide +kernel))) rfl, ⟨by decide +kernel, by decide +kernel, by decide +kernel⟩⟩
theorem wc_X1_teach : WcV yX1_teach cX1_teach 4 none 2 := ⟨gtbl_of (List.mem_append_right _ (List.mem_of_getElem? (i := 366) (by decide +kernel))) rfl, gtbl_of (List.mem_append_right _ (List.mem_of_getElem? (i := 367) (by decide +kernel))) rfl, gtbl_of (List.mem_append_right _ (List.mem_of_getElem? (i := 3) (by decide +kernel))) rfl, gtbl_of (List.mem_append_right _ (List.mem_of_getElem? (i := 368) (by decide +kernel))) rfl, ⟨by decide +kernel, by decide +kernel, by decide +kernel⟩⟩
theorem wc_X1_tellNext : WcV yX1_tellNext cX1_tellNext 4 none 2 := ⟨gtbl_of (List.mem_append_right _ (List.mem_of_getElem? (i := 406) (by decide +kernel))) rfl, gtbl_of (List.mem_append_right _ (List.mem_of_getElem? (i := 407) (by decide +kernel))) rfl, gtbl_of (List.mem_append_right _ (List.mem_of_getElem? (i := 3) (by decide +kernel))) rfl, gtbl_of (List.mem_append_right _ (List.mem_of_getElem? (i := 408) (by decide +kernel))) rfl, ⟨by decide +kernel, by decide +kernel, by decide +kernel⟩⟩
theorem wc_X1_wayOf : WcV yX1_wayOf cX1_wayOf 3 (some .int) 2 := ⟨gtbl_of (List.mem_append_right _ (List.mem_of_getElem? (i := 343) (by decide +kernel))) rfl, gtbl_of (List.mem_append_right _ (List.mem_of_getElem? (i := 344) (by decide +kernel))) rfl, gtbl_of (List.mem_append_right _ (List.mem_of_getElem? (i := 3) (by decide +kernel))) rfl, gtbl_of (List.mem_append_right _ (List.mem_of_getElem? (i := 345) (by decide +kernel))) rfl, ⟨by decide +kernel, by decide +kernel, by decide +kernel⟩⟩
theorem wc_X2_append : WcV yX2_append cX2_append 2 (some .boolean) 1 := ⟨gtbl_of (List.mem_append_right _ (List.mem_of_getElem? (i := 153) (by decide +kernel))) rfl, gtbl_of (List.mem_append_right _ (List.mem_of_getElem? (i := 154) (by decide +kernel))) rfl, gtbl_of (List.mem_append_right _ (List.mem_of_getElem? (i := 2) (by decide +kernel))) rfl, gtbl_of (List.mem_append_right _ (List.mem_of_getElem? (i := 155) (by decide +kernel))) rfl, ⟨by decide +kernel, by decide +kernel, by decide +kernel⟩⟩
theorem wc_X2_isFigure : WcV yX2_isFigure cX2_isFigure 2 (some .boolean) 1 := ⟨gtbl_of (List.mem_append_right _ (List.mem_of_getElem? (i := 183) (by decide +kernel))) rfl, gtbl_of (List.mem_append_right _ (List.mem_of_getElem? (i := 184) (by decide +kernel))) rfl, gtbl_of (List.mem_append_right _ (List.mem_of_getElem? (i := 2) (by decide +kernel))) rfl, gtbl_of (List.mem_append_right _ (List.mem_of_getElem? (i := 185) (by decide +kernel))) rfl, ⟨by decide +kernel, by decide +kernel, by decide +kernel⟩⟩
theorem wc_X2_next : WcV yX2_next cX2_next 2 (some .int) 0 := ⟨gtbl_of (List.mem_append_right _ (List.mem_of_getElem? (i := 172) (by decide +kernel))) rfl, gtbl_of (List.mem_append_right _ (List.mem_of_getElem? (i := 173) (by decide +kernel))) rfl, gtbl_of (List.mem_append_right _ (List.mem_of_getElem? (i := 2) (by decide +kernel))) rfl, gtbl_of (List.mem_append_right _ (List.mem_of_getElem? (i := 174) (by decide +kernel))) rfl, ⟨by decide +kernel, by decide +kernel, by decide +kernel⟩⟩
theorem wc_X2_number : WcV yX2_number cX2_number 4 (some .int) 1 := ⟨gtbl_of (List.mem_append_right _ (List.mem_of_getElem? (i := 191) (by decide +kernel))) rfl, gtbl_of (List.mem_append_right _ (List.mem_of_getElem? (i := 192) (by decide +kernel))) rfl, gtbl_of (List.mem_append_right _ (List.mem_of_getElem? (i := 2) (by decide +kernel))) rfl, gtbl_of (List.mem_append_right _ (List.mem_of_getElem? (i := 193) (by decide +kernel))) rfl, ⟨by decide +kernel, by decide +kernel, by decide +kernel⟩⟩
theorem wc_X2_readInto : WcV yX2_readInto cX2_readInto 4 (some .int) 1 := ⟨gtbl_of (List.mem_append_right _ (List.mem_of_getElem? (i := 160) (by decide +kernel))) rfl, gtbl_of (List.mem_append_right _ (List.mem_of_getElem? (i := 161) (by decide +kernel))) rfl, gtbl_of (List.mem_append_right _ (List.mem_of_getElem? (i := 2) (by decide +kernel))) rfl, gtbl_of (List.mem_append_right _ (List.mem_of_getElem? (i := 162) (by decide +kernel))) rfl, ⟨by decide +kernel, by decide +kernel, by decide +kernel⟩⟩
theorem wc_X2_readItem : WcV yX2_readItem cX2_readItem 2 (some .boolean) 1 := ⟨gtbl_of (List.mem_append_right _ (List.mem_of_getElem? (i := 168) (by decide +kernel))) rfl, gtbl_of (List.mem_append_right _ (List.mem_of_getElem? (i := 169) (by decide +kernel))) rfl, gtbl_of (List.mem_append_right _ (List.mem_of_getElem? (i := 2) (by decide +kernel))) rfl, gtbl_of (List.mem_append_right _ (List.mem_of_getElem? (i := 170) (by decide +kernel))) rfl, ⟨by decide +kernel, by decide +kernel, by decide +kernel⟩⟩
theorem wc_X2_readNeed : WcV yX2_readNeed cX2_readNeed 3 (some .boolean) 1 := ⟨gtbl_of (List.mem_append_right _ (List.mem_of_getElem? (i := 205) (by decide +kernel))) rfl, gtbl_of (List.mem_append_right _ (List.mem_of_getElem? (i := 206) (by decide +kernel))) rfl, gtbl_of (List.mem_append_right _ (List.mem_of_getElem? (i := 2) (by decide +kernel))) rfl, gtbl_of (List.mem_append_right _ (List.mem_of_getElem? (i := 207) (by decide +kernel))) rfl, ⟨by decide +kernel, by decide +kernel, by decide +kernel⟩⟩
theorem wc_X2_readTongue : WcV yX2_readTongue cX2_readTongue 4 (some .boolean) 1 := ⟨gtbl_of (List.mem_append_right _ (List.mem_of_getElem? (i := 179) (by decide +kernel))) rfl, gtbl_of (List.mem_append_right _ (List.mem_of_getElem? (i := 180) (by decide +kernel))) rfl, gtbl_of (List.mem_append_right _ (List.mem_of_getElem? (i := 2) (by decide +kernel))) rfl, gtbl_of (List.mem_append_right _ (List.mem_of_getElem? (i := 181) (by decide +kernel))) rfl, ⟨by decide +kernel, by decide +kernel, by decide +kernel⟩⟩
theorem wc_X2_readWooer : WcV yX2_readWooer cX2_readWooer 7 (some .boolean) 1 := ⟨gtbl_of (List.mem_append_right _ (List.mem_of_getElem? (i := 187) (by decide +kernel))) rfl, gtbl_of (List.mem_append_right _ (List.mem_of_getElem? (i := 188) (by decide +kernel))) rfl, gtbl_of (List.mem_append_right _ (List.mem_of_getElem? (i := 2) (by decide +kernel))) rfl, gtbl_of (List.mem_append_right _ (List.mem_of_getElem? (i := 189) (by decide +kernel))) rfl, ⟨by decide +kernel, by decide +kernel, by decide +kernel⟩⟩
theorem wc_X3_at : WcS yX3_at cX3_at 2 (some .int) 2 := ⟨gtbl_of (List.mem_append_right _ (List.mem_of_getElem? (i := 176) (by decide +kernel))) rfl, gtbl_of (List.mem_append_right _ (List.mem_of_getElem? (i := 1) (by decide +kernel))) rfl, gtbl_of (List.mem_append_right _ (List.mem_of_getElem? (i := 177) (by decide +kernel))) rfl, ⟨by decide +kernel, by decide +kernel, by decide +kernel⟩⟩
theorem wc_X3_bestFrom : WcS yX3_bestFrom cX3_bestFrom 9 (some .int) 5 := ⟨gtbl_of (List.mem_append_right _ (List.mem_of_getElem? (i := 465) (by decide +kernel))) rfl, gtbl_of (List.mem_append_right _ (List.mem_of_getElem? (i := 1) (by decide +kernel))) rfl, gtbl_of (List.mem_append_right _ (List.mem_of_getElem? (i := 466) (by decide +kernel))) rfl, ⟨by decide +kernel, by decide +kernel, by decide +kernel⟩⟩
theorem wc_X3_commonPart : WcS yX3_commonPart cX3_commonPart 4 (some .int) 2 := ⟨gtbl_of (List.mem_append_right _ (List.mem_of_getElem? (i := 557) (by decide +kernel))) rfl, gtbl_of (List.mem_append_right _ (List.mem_of_getElem? (i := 1) (by decide +kernel))) rfl, gtbl_of (List.mem_append_right _ (List.mem_of_getElem? (i := 558) (by decide +kernel))) rfl, ⟨by decide +kernel, by decide +kernel, by decide +kernel⟩⟩
theorem wc_X3_comparePairs : WcV yX3_comparePairs cX3_comparePairs 4 (some .int) 0 := ⟨gtbl_of (List.mem_append_right _ (List.mem_of_getElem? (i := 490) (by decide +kernel))) rfl, gtbl_of (List.mem_append_left _ (List.mem_of_getElem? (i := 4) (by decide +kernel))) rfl, gtbl_of (List.mem_append_right _ (List.mem_of_getElem? (i := 1) (by decide +kernel))) rfl, gtbl_of (List.mem_append_right _ (List.mem_of_getElem? (i := 491) (by decide +kernel))) rfl, ⟨by decide +kernel, by decide +kernel, by decide +kernel⟩⟩
theorem wc_X3_copyInto : WcV yX3_copyInto cX3_copyInto 2 none 1 := ⟨gtbl_of (List.mem_append_right _ (List.mem_of_getElem? (i := 363) (by decide +kernel))) rfl, gtbl_of (List.mem_append_left _ (List.mem_of_getElem? (i := 1) (by decide +kernel))) rfl, gtbl_of (List.mem_append_right _ (List.mem_of_getElem? (i := 1) (by decide +kernel))) rfl, gtbl_of (List.mem_append_right _ (List.mem_of_getElem? (i := 364) (by decide +kernel))) rfl, ⟨by decide +kernel, by decide +kernel, by decide +kernel⟩⟩
theorem wc_X3_copyRow : WcS yX3_copyRow cX3_copyRow 2 none 2 := ⟨gtbl_of (List.mem_append_right _ (List.mem_of_getElem? (i := 295) (by decide +kernel))) rfl, gtbl_of (List.mem_append_right _ (List.mem_of_getElem? (i := 1) (by decide +kernel))) rfl, gtbl_of (List.mem_append_right _ (List.mem_of_getElem? (i := 296) (by decide +kernel))) rfl, ⟨by decide +kernel, by decide +kernel, by decide +kernel⟩⟩
theorem wc_X3_draw : WcS yX3_draw cX3_draw 4 (some .int) 2 := ⟨gtbl_of (List.mem_append_right _ (List.mem_of_getElem? (i := 564) (by decide +kernel))) rfl, gtbl_of (List.mem_append_right _ (List.mem_of_getElem? (i := 1) (by decide +kernel))) rfl, gtbl_of (List.mem_append_right _ (List.mem_of_getElem? (i := 565) (by decide +kernel))) rfl, ⟨by decide +kernel, by decide +kernel, by decide +kernel⟩⟩
theorem wc_X3_hailFrom : WcS yX3_hailFrom cX3_hailFrom 8 (some .int) 5 := ⟨gtbl_of (List.mem_append_right _ (List.mem_of_getElem? (i := 554) (by decide +kernel))) rfl, gtbl_of (List.mem_append_right _ (List.mem_of_getElem? (i := 1) (by decide +kernel))) rfl, gtbl_of (List.mem_append_right _ (List.mem_of_getElem? (i := 555) (by decide +kernel))) rfl, ⟨by decide +kernel, by decide +kernel, by decide +kernel⟩⟩
theorem wc_X3_noteAct : WcV yX3_noteAct cX3_noteAct 1 none 0 := ⟨gtbl_of (List.mem_append_right _ (List.mem_of_getElem? (i := 356) (by decide +kernel))) rfl, gtbl_of (List.mem_append_left _ (List.mem_of_getElem? (i := 0) (by decide +kernel))) rfl, gtbl_of (List.mem_append_right _ (List.mem_of_getElem? (i := 1) (by decide +kernel))) rfl, gtbl_of (List.mem_append_right _ (List.mem_of_getElem? (i := 357) (by decide +kernel))) rfl, ⟨by decide +kernel, by decide +kernel, by decide +kernel⟩⟩
theorem wc_X3_partsAll : WcV yX3_partsAll cX3_partsAll 4 (some .boolean) 2 := ⟨gtbl_of (List.mem_append_right _ (List.mem_of_getElem? (i := 498) (by decide +kernel))) rfl, gtbl_of (List.mem_append_left _ (List.mem_of_getElem? (i := 5) (by decide +kernel))) rfl, gtbl_of (List.mem_append_right _ (List.mem_of_getElem? (i := 1) (by decide +kernel))) rfl, gtbl_of (List.mem_append_right _ (List.mem_of_getElem? (i := 499) (by decide +kernel))) rfl, ⟨by decide +kernel, by decide +kernel, by decide +kernel⟩⟩
theorem wc_X3_put : WcS yX3_put cX3_put 3 none 3 := ⟨gtbl_of (List.mem_append_right _ (List.mem_of_getElem? (i := 157) (by decide +kernel))) rfl, gtbl_of (List.mem_append_right _ (List.mem_of_getElem? (i := 1) (by decide +kernel))) rfl, gtbl_of (List.mem_append_right _ (List.mem_of_getElem? (i := 158) (by decide +kernel))) rfl, ⟨by decide +kernel, by decide +kernel, by decide +kernel⟩⟩
theorem wc_X3_rightOnceMended : WcV yX3_rightOnceMended cX3_rightOnceMended 3 (some .int) 2 := ⟨gtbl_of (List.mem_append_right _ (List.mem_of_getElem? (i := 473) (by decide +kernel))) rfl, gtbl_of (List.mem_append_left _ (List.mem_of_getElem? (i := 3) (by decide +kernel))) rfl, gtbl_of (List.mem_append_right _ (List.mem_of_getElem? (i := 1) (by decide +kernel))) rfl, gtbl_of (List.mem_append_right _ (List.mem_of_getElem? (i := 474) (by decide +kernel))) rfl, ⟨by decide +kernel, by decide +kernel, by decide +kernel⟩⟩
theorem wc_X3_startLevels : WcV yX3_startLevels cX3_startLevels 1 none 0 := ⟨gtbl_of (List.mem_append_right _ (List.mem_of_getElem? (i := 462) (by decide +kernel))) rfl, gtbl_of (List.mem_append_left _ (List.mem_of_getElem? (i := 2) (by decide +kernel))) rfl, gtbl_of (List.mem_append_right _ (List.mem_of_getElem? (i := 1) (by decide +kernel))) rfl, gtbl_of (List.mem_append_right _ (List.mem_of_getElem? (i := 463) (by decide +kernel))) rfl, ⟨by decide +kernel, by decide +kernel, by decide +kernel⟩⟩
theorem wc_X3_swap : WcS yX3_swap cX3_swap 4 none 3 := ⟨gtbl_of (List.mem_append_right _ (List.mem_of_getElem? (i := 439) (by decide +kernel))) rfl, gtbl_of (List.mem_append_right _ (List.mem_of_getElem? (i := 1) (by decide +kernel))) rfl, gtbl_of (List.mem_append_right _ (List.mem_of_getElem? (i := 440) (by decide +kernel))) rfl, ⟨by decide +kernel, by decide +kernel, by decide +kernel⟩⟩
theorem wc_X3_tableAt : WcS yX3_tableAt cX3_tableAt 2 (some (.object "LastTongue$Table")) 2 := ⟨gtbl_of (List.mem_append_right _ (List.mem_of_getElem? (i := 359) (by decide +kernel))) rfl, gtbl_of (List.mem_append_right _ (List.mem_of_getElem? (i := 1) (by decide +kernel))) rfl, gtbl_of (List.mem_append_right _ (List.mem_of_getElem? (i := 360) (by decide +kernel))) rfl, ⟨by decide +kernel, by decide +kernel, by decide +kernel⟩⟩
theorem wc_X4_allHad : WcV yX4_allHad cX4_allHad 3 (some .int) 0 := ⟨gtbl_of (List.mem_append_right _ (List.mem_of_getElem? (i := 945) (by decide +kernel))) rfl, gtbl_of (List.mem_append_left _ (List.mem_of_getElem? (i := 40) (by decide +kernel))) rfl, gtbl_of (List.mem_append_right _ (List.mem_of_getElem? (i := 10) (by decide +kernel))) rfl, gtbl_of (List.mem_append_right _ (List.mem_of_getElem? (i := 946) (by decide +kernel))) rfl, ⟨by decide +kernel, by decide +kernel, by decide +kernel⟩⟩
theorem wc_X4_bits : WcS yX4_bits cX4_bits 3 (some .int) 1 := ⟨gtbl_of (List.mem_append_right _ (List.mem_of_getElem? (i := 774) (by decide +kernel))) rfl, gtbl_of (List.mem_append_right _ (List.mem_of_getElem? (i := 10) (by decide +kernel))) rfl, gtbl_of (List.mem_append_right _ (List.mem_of_getElem? (i := 775) (by decide +kernel))) rfl, ⟨by decide +kernel, by decide +kernel, by decide +kernel⟩⟩
theorem wc_X4_canMend : WcV yX4_canMend cX4_canMend 4 (some .boolean) 3 := ⟨gtbl_of (List.mem_append_right _ (List.mem_of_getElem? (i := 831) (by decide +kernel))) rfl, gtbl_of (List.mem_append_left _ (List.mem_of_getElem? (i := 33) (by decide +kernel))) rfl, gtbl_of (List.mem_append_right _ (List.mem_of_getElem? (i := 10) (by decide +kernel))) rfl, gtbl_of (List.mem_append_right _ (List.mem_of_getElem? (i := 832) (by decide +kernel))) rfl, ⟨by decide +kernel, by decide +kernel, by decide +kernel⟩⟩
theorem wc_X4_clears : WcV yX4_clears cX4_clears 2 none 0 := ⟨gtbl_of (List.mem_append_right _ (List.mem_of_getElem? (i := 600) (by decide +kernel))) rfl, gtbl_of (List.mem_append_left _ (List.mem_of_getElem? (i := 6) (by decide +kernel))) rfl, gtbl_of (List.mem_append_right _ (List.mem_of_getElem? (i := 10) (by decide +kernel))) rfl, gtbl_of (List.mem_append_right _ (List.mem_of_getElem? (i := 601) (by decide +kernel))) rfl, ⟨by decide +kernel, by decide +kernel, by decide +kernel⟩⟩
theorem wc_X4_copies : WcV yX4_copies cX4_copies 4 none 2 := ⟨gtbl_of (List.mem_append_right _ (List.mem_of_getElem? (i := 616) (by decide +kernel))) rfl, gtbl_of (List.mem_append_left _ (List.mem_of_getElem? (i := 10) (by decide +kernel))) rfl, gtbl_of (List.mem_append_right _ (List.mem_of_getElem? (i := 10) (by decide +kernel))) rfl, gtbl_of (List.mem_append_right _ (List.mem_of_getElem? (i := 617) (by decide +kernel))) rfl, ⟨by decide +kernel, by decide +kernel, by decide +kernel⟩⟩
theorem wc_X4_days : WcV yX4_days cX4_days 4 none 2 := ⟨gtbl_of (List.mem_append_right _ (List.mem_of_getElem? (i := 807) (by decide +kernel))) rfl, gtbl_of (List.mem_append_left _ (List.mem_of_getElem? (i := 28) (by decide +kernel))) rfl, gtbl_of (List.mem_append_right _ (List.mem_of_getElem? (i := 10) (by decide +kernel))) rfl, gtbl_of (List.mem_append_right _ (List.mem_of_getElem? (i := 808) (by decide +kernel))) rfl, ⟨by decide +kernel, by decide +kernel, by decide +kernel⟩⟩
theorem wc_X4_does : WcV yX4_does cX4_does 7 none 2 := ⟨gtbl_of (List.mem_append_right _ (List.mem_of_getElem? (i := 929) (by decide +kernel))) rfl, gtbl_of (List.mem_append_left _ (List.mem_of_getElem? (i := 39) (by decide +kernel))) rfl, gtbl_of (List.mem_append_right _ (List.mem_of_getElem? (i := 10) (by decide +kernel))) rfl, gtbl_of (List.mem_append_right _ (List.mem_of_getElem? (i := 930) (by decide +kernel))) rfl, ⟨by decide +kernel, by decide +kernel, by decide +kernel⟩⟩
theorem wc_X4_fits : WcV yX4_fits cX4_fits 5 (some .int) 0 := ⟨gtbl_of (List.mem_append_right _ (List.mem_of_getElem? (i := 908) (by decide +kernel))) rfl, gtbl_of (List.mem_append_left _ (List.mem_of_getElem? (i := 38) (by decide +kernel))) rfl, gtbl_of (List.mem_append_right _ (List.mem_of_getElem? (i := 10) (by decide +kernel))) rfl, gtbl_of (List.mem_append_right _ (List.mem_of_getElem? (i := 909) (by decide +kernel))) rfl, ⟨by decide +kernel, by decide +kernel, by decide +kernel⟩⟩
theorem wc_X4_gets : WcV yX4_gets cX4_gets 5 none 4 := ⟨gtbl_of (List.mem_append_right _ (List.mem_of_getElem? (i := 798) (by decide +kernel))) rfl, gtbl_of (List.mem_append_left _ (List.mem_of_getElem? (i := 27) (by decide +kernel))) rfl, gtbl_of (List.mem_append_right _ (List.mem_of_getElem? (i := 10) (by decide +kernel))) rfl, gtbl_of (List.mem_append_right _ (List.mem_of_getElem? (i := 799) (by decide +kernel))) rfl, ⟨by decide +kernel, by decide +kernel, by decide +kernel⟩⟩
theorem wc_X4_goesOn : WcV yX4_goesOn cX4_goesOn 5 none 2 := ⟨gtbl_of (List.mem_append_right _ (List.mem_of_getElem? (i := 811) (by decide +kernel))) rfl, gtbl_of (List.mem_append_left _ (List.mem_of_getElem? (i := 29) (by decide +kernel))) rfl, gtbl_of (List.mem_append_right _ (List.mem_of_getElem? (i := 10) (by decide +kernel))) rfl, gtbl_of (List.mem_append_right _ (List.mem_of_getElem? (i := 812) (by decide +kernel))) rfl, ⟨by decide +kernel, by decide +kernel, by decide +kernel⟩⟩
theorem wc_X4_grows : WcV yX4_grows cX4_grows 5 none 2 := ⟨gtbl_of (List.mem_append_right _ (List.mem_of_getElem? (i := 819) (by decide +kernel))) rfl, gtbl_of (List.mem_append_left _ (List.mem_of_getElem? (i := 31) (by decide +kernel))) rfl, gtbl_of (List.mem_append_right _ (List.mem_of_getElem? (i := 10) (by decide +kernel))) rfl, gtbl_of (List.mem_append_right _ (List.mem_of_getElem? (i := 820) (by decide +kernel))) rfl, ⟨by decide +kernel, by decide +kernel, by decide +kernel⟩⟩
theorem wc_X4_had : WcV yX4_had cX4_had 5 (some .int) 2 := ⟨gtbl_of (List.mem_append_right _ (List.mem_of_getElem? (i := 759) (by decide +kernel))) rfl, gtbl_of (List.mem_append_left _ (List.mem_of_getElem? (i := 20) (by decide +kernel))) rfl, gtbl_of (List.mem_append_right _ (List.mem_of_getElem? (i := 10) (by decide +kernel))) rfl, gtbl_of (List.mem_append_right _ (List.mem_of_getElem? (i := 760) (by decide +kernel))) rfl, ⟨by decide +kernel, by decide +kernel, by decide +kernel⟩⟩
theorem wc_X4_has : WcV yX4_has cX4_has 3 none 2 := ⟨gtbl_of (List.mem_append_right _ (List.mem_of_getElem? (i := 608) (by decide +kernel))) rfl, gtbl_of (List.mem_append_left _ (List.mem_of_getElem? (i := 8) (by decide +kernel))) rfl, gtbl_of (List.mem_append_right _ (List.mem_of_getElem? (i := 10) (by decide +kernel))) rfl, gtbl_of (List.mem_append_right _ (List.mem_of_getElem? (i := 609) (by decide +kernel))) rfl, ⟨by decide +kernel, by decide +kernel, by decide +kernel⟩⟩
theorem wc_X4_hasIt : WcV yX4_hasIt cX4_hasIt 4 (some .int) 3 := ⟨gtbl_of (List.mem_append_right _ (List.mem_of_getElem? (i := 763) (by decide +kernel))) rfl, gtbl_of (List.mem_append_left _ (List.mem_of_getElem? (i := 21) (by decide +kernel))) rfl, gtbl_of (List.mem_append_right _ (List.mem_of_getElem? (i := 10) (by decide +kernel))) rfl, gtbl_of (List.mem_append_right _ (List.mem_of_getElem? (i := 764) (by decide +kernel))) rfl, ⟨by decide +kernel, by decide +kernel, by decide +kernel⟩⟩
theorem wc_X4_hears : WcV yX4_hears cX4_hears 4 (some .int) 3 := ⟨gtbl_of (List.mem_append_right _ (List.mem_of_getElem? (i := 794) (by decide +kernel))) rfl, gtbl_of (List.mem_append_left _ (List.mem_of_getElem? (i := 26) (by decide +kernel))) rfl, gtbl_of (List.mem_append_right _ (List.mem_of_getElem? (i := 10) (by decide +kernel))) rfl, gtbl_of (List.mem_append_right _ (List.mem_of_getElem? (i := 795) (by decide +kernel))) rfl, ⟨by decide +kernel, by decide +kernel, by decide +kernel⟩⟩
theorem wc_X4_in : WcS yX4_in cX4_in 6 (some .boolean) 3 := ⟨gtbl_of (List.mem_append_right _ (List.mem_of_getElem? (i := 692) (by decide +kernel))) rfl, gtbl_of (List.mem_append_right _ (List.mem_of_getElem? (i := 10) (by decide +kernel))) rfl, gtbl_of (List.mem_append_right _ (List.mem_of_getElem? (i := 693) (by decide +kernel))) rfl, ⟨by decide +kernel, by decide +kernel, by decide +kernel⟩⟩
theorem wc_X4_isApart : WcV yX4_isApart cX4_isApart 7 (some .boolean) 1 := ⟨gtbl_of (List.mem_append_right _ (List.mem_of_getElem? (i := 882) (by decide +kernel))) rfl, gtbl_of (List.mem_append_left _ (List.mem_of_getElem? (i := 36) (by decide +kernel))) rfl, gtbl_of (List.mem_append_right _ (List.mem_of_getElem? (i := 10) (by decide +kernel))) rfl, gtbl_of (List.mem_append_right _ (List.mem_of_getElem? (i := 883) (by decide +kernel))) rfl, ⟨by decide +kernel, by decide +kernel, by decide +kernel⟩⟩
theorem wc_X4_isOne : WcV yX4_isOne cX4_isOne 2 (some .boolean) 1 := ⟨gtbl_of (List.mem_append_right _ (List.mem_of_getElem? (i := 754) (by decide +kernel))) rfl, gtbl_of (List.mem_append_left _ (List.mem_of_getElem? (i := 19) (by decide +kernel))) rfl, gtbl_of (List.mem_append_right _ (List.mem_of_getElem? (i := 10) (by decide +kernel))) rfl, gtbl_of (List.mem_append_right _ (List.mem_of_getElem? (i := 755) (by decide +kernel))) rfl, ⟨by decide +kernel, by decide +kernel, by decide +kernel⟩⟩
theorem wc_X4_isSpeaker : WcV yX4_isSpeaker cX4_isSpeaker 3 (some .boolean) 2 := ⟨gtbl_of (List.mem_append_right _ (List.mem_of_getElem? (i := 771) (by decide +kernel))) rfl, gtbl_of (List.mem_append_left _ (List.mem_of_getElem? (i := 23) (by decide +kernel))) rfl, gtbl_of (List.mem_append_right _ (List.mem_of_getElem? (i := 10) (by decide +kernel))) rfl, gtbl_of (List.mem_append_right _ (List.mem_of_getElem? (i := 772) (by decide +kernel))) rfl, ⟨by decide +kernel, by decide +kernel, by decide +kernel⟩⟩
theorem wc_X4_isWord : WcV yX4_isWord cX4_isWord 2 (some .boolean) 1 := ⟨gtbl_of (List.mem_append_right _ (List.mem_of_getElem? (i := 746) (by decide +kernel))) rfl, gtbl_of (List.mem_append_left _ (List.mem_of_getElem? (i := 18) (by decide +kernel))) rfl, gtbl_of (List.mem_append_right _ (List.mem_of_getElem? (i := 10) (by decide +kernel))) rfl, gtbl_of (List.mem_append_right _ (List.mem_of_getElem? (i := 747) (by decide +kernel))) rfl, ⟨by decide +kernel, by decide +kernel, by decide +kernel⟩⟩
theorem wc_X4_item : WcV yX4_item cX4_item 4 (some .boolean) 2 := ⟨gtbl_of (List.mem_append_right _ (List.mem_of_getElem? (i := 712) (by decide +kernel))) rfl, gtbl_of (List.mem_append_left _ (List.mem_of_getElem? (i := 13) (by decide +kernel))) rfl, gtbl_of (List.mem_append_right _ (List.mem_of_getElem? (i := 10) (by decide +kernel))) rfl, gtbl_of (List.mem_append_right _ (List.mem_of_getElem? (i := 713) (by decide +kernel))) rfl, ⟨by decide +kernel, by decide +kernel, by decide +kernel⟩⟩
theorem wc_X4_known : WcV yX4_known cX4_known 2 none 0 := ⟨gtbl_of (List.mem_append_right _ (List.mem_of_getElem? (i := 786) (by decide +kernel))) rfl, gtbl_of (List.mem_append_left _ (List.mem_of_getElem? (i := 24) (by decide +kernel))) rfl, gtbl_of (List.mem_append_right _ (List.mem_of_getElem? (i := 10) (by decide +kernel))) rfl, gtbl_of (List.mem_append_right _ (List.mem_of_getElem? (i := 787) (by decide +kernel))) rfl, ⟨by decide +kernel, by decide +kernel, by decide +kernel⟩⟩
theorem wc_X4_larger : WcS yX4_larger cX4_larger 2 (some .int) 2 := ⟨gtbl_of (List.mem_append_right _ (List.mem_of_getElem? (i := 862) (by decide +kernel))) rfl, gtbl_of (List.mem_append_right _ (List.mem_of_getElem? (i := 10) (by decide +kernel))) rfl, gtbl_of (List.mem_append_right _ (List.mem_of_getElem? (i := 863) (by decide +kernel))) rfl, ⟨by decide +kernel, by decide +kernel, by decide +kernel⟩⟩
theorem wc_X4_learns : WcV yX4_learns cX4_learns 7 none 3 := ⟨gtbl_of (List.mem_append_right _ (List.mem_of_getElem? (i := 790) (by decide +kernel))) rfl, gtbl_of (List.mem_append_left _ (List.mem_of_getElem? (i := 25) (by decide +kernel))) rfl, gtbl_of (List.mem_append_right _ (List.mem_of_getElem? (i := 10) (by decide +kernel))) rfl, gtbl_of (List.mem_append_right _ (List.mem_of_getElem? (i := 791) (by decide +kernel))) rfl, ⟨by decide +kernel, by decide +kernel, by decide +kernel⟩⟩
theorem wc_X4_manyHave : WcV yX4_manyHave cX4_manyHave 5 (some .int) 2 := ⟨gtbl_of (List.mem_append_right _ (List.mem_of_getElem? (i := 890) (by decide +kernel))) rfl, gtbl_of (List.mem_append_left _ (List.mem_of_getElem? (i := 37) (by decide +kernel))) rfl, gtbl_of (List.mem_append_right _ (List.mem_of_getElem? (i := 10) (by decide +kernel))) rfl, gtbl_of (List.mem_append_right _ (List.mem_of_getElem? (i := 891) (by decide +kernel))) rfl, ⟨by decide +kernel, by decide +kernel, by decide +kernel⟩⟩
theorem wc_X4_more : WcV yX4_more cX4_more 3 (some .int) 2 := ⟨gtbl_of (List.mem_append_right _ (List.mem_of_getElem? (i := 734) (by decide +kernel))) rfl, gtbl_of (List.mem_append_left _ (List.mem_of_getElem? (i := 17) (by decide +kernel))) rfl, gtbl_of (List.mem_append_right _ (List.mem_of_getElem? (i := 10) (by decide +kernel))) rfl, gtbl_of (List.mem_append_right _ (List.mem_of_getElem? (i := 735) (by decide +kernel))) rfl, ⟨by decide +kernel, by decide +kernel, by decide +kernel⟩⟩
theorem wc_X4_next : WcV yX4_next cX4_next 1 (some .int) 0 := ⟨gtbl_of (List.mem_append_right _ (List.mem_of_getElem? (i := 708) (by decide +kernel))) rfl, gtbl_of (List.mem_append_left _ (List.mem_of_getElem? (i := 12) (by decide +kernel))) rfl, gtbl_of (List.mem_append_right _ (List.mem_of_getElem? (i := 10) (by decide +kernel))) rfl, gtbl_of (List.mem_append_right _ (List.mem_of_getElem? (i := 709) (by decide +kernel))) rfl, ⟨by decide +kernel, by decide +kernel, by decide +kernel⟩⟩
theorem wc_X4_number : WcV yX4_number cX4_number 5 (some .int) 2 := ⟨gtbl_of (List.mem_append_right _ (List.mem_of_getElem? (i := 730) (by decide +kernel))) rfl, gtbl_of (List.mem_append_left _ (List.mem_of_getElem? (i := 16) (by decide +kernel))) rfl, gtbl_of (List.mem_append_right _ (List.mem_of_getElem? (i := 10) (by decide +kernel))) rfl, gtbl_of (List.mem_append_right _ (List.mem_of_getElem? (i := 731) (by decide +kernel))) rfl, ⟨by decide +kernel, by decide +kernel, by decide +kernel⟩⟩
theorem wc_X4_reads : WcV yX4_reads cX4_reads 3 (some .boolean) 0 := ⟨gtbl_of (List.mem_append_right _ (List.mem_of_getElem? (i := 704) (by decide +kernel))) rfl, gtbl_of (List.mem_append_left _ (List.mem_of_getElem? (i := 11) (by decide +kernel))) rfl, gtbl_of (List.mem_append_right _ (List.mem_of_getElem? (i := 10) (by decide +kernel))) rfl, gtbl_of (List.mem_append_right _ (List.mem_of_getElem? (i := 705) (by decide +kernel))) rfl, ⟨by decide +kernel, by decide +kernel, by decide +kernel⟩⟩
theorem wc_X4_right : WcV yX4_right cX4_right 5 (some .int) 2 := ⟨gtbl_of (List.mem_append_right _ (List.mem_of_getElem? (i := 767) (by decide +kernel))) rfl, gtbl_of (List.mem_append_left _ (List.mem_of_getElem? (i := 22) (by decide +kernel))) rfl, gtbl_of (List.mem_append_right _ (List.mem_of_getElem? (i := 10) (by decide +kernel))) rfl, gtbl_of (List.mem_append_right _ (List.mem_of_getElem? (i := 768) (by decide +kernel))) rfl, ⟨by decide +kernel, by decide +kernel, by decide +kernel⟩⟩
theorem wc_X4_rights : WcV yX4_rights cX4_rights 4 (some .int) 1 := ⟨gtbl_of (List.mem_append_right _ (List.mem_of_getElem? (i := 870) (by decide +kernel))) rfl, gtbl_of (List.mem_append_left _ (List.mem_of_getElem? (i := 35) (by decide +kernel))) rfl, gtbl_of (List.mem_append_right _ (List.mem_of_getElem? (i := 10) (by decide +kernel))) rfl, gtbl_of (List.mem_append_right _ (List.mem_of_getElem? (i := 871) (by decide +kernel))) rfl, ⟨by decide +kernel, by decide +kernel, by decide +kernel⟩⟩
theorem wc_X4_settles : WcV yX4_settles cX4_settles 2 none 0 := ⟨gtbl_of (List.mem_append_right _ (List.mem_of_getElem? (i := 612) (by decide +kernel))) rfl, gtbl_of (List.mem_append_left _ (List.mem_of_getElem? (i := 9) (by decide +kernel))) rfl, gtbl_of (List.mem_append_right _ (List.mem_of_getElem? (i := 10) (by decide +kernel))) rfl, gtbl_of (List.mem_append_right _ (List.mem_of_getElem? (i := 613) (by decide +kernel))) rfl, ⟨by decide +kernel, by decide +kernel, by decide +kernel⟩⟩
theorem wc_X4_sits : WcV yX4_sits cX4_sits 3 none 2 := ⟨gtbl_of (List.mem_append_right _ (List.mem_of_getElem? (i := 604) (by decide +kernel))) rfl, gtbl_of (List.mem_append_left _ (List.mem_of_getElem? (i := 7) (by decide +kernel))) rfl, gtbl_of (List.mem_append_right _ (List.mem_of_getElem? (i := 10) (by decide +kernel))) rfl, gtbl_of (List.mem_append_right _ (List.mem_of_getElem? (i := 605) (by decide +kernel))) rfl, ⟨by decide +kernel, by decide +kernel, by decide +kernel⟩⟩
theorem wc_X4_smaller : WcS yX4_smaller cX4_smaller 2 (some .int) 2 := ⟨gtbl_of (List.mem_append_right _ (List.mem_of_getElem? (i := 721) (by decide +kernel))) rfl, gtbl_of (List.mem_append_right _ (List.mem_of_getElem? (i := 10) (by decide +kernel))) rfl, gtbl_of (List.mem_append_right _ (List.mem_of_getElem? (i := 722) (by decide +kernel))) rfl, ⟨by decide +kernel, by decide +kernel, by decide +kernel⟩⟩
theorem wc_X4_speakers : WcV yX4_speakers cX4_speakers 4 (some .int) 1 := ⟨gtbl_of (List.mem_append_right _ (List.mem_of_getElem? (i := 823) (by decide +kernel))) rfl, gtbl_of (List.mem_append_left _ (List.mem_of_getElem? (i := 32) (by decide +kernel))) rfl, gtbl_of (List.mem_append_right _ (List.mem_of_getElem? (i := 10) (by decide +kernel))) rfl, gtbl_of (List.mem_append_right _ (List.mem_of_getElem? (i := 824) (by decide +kernel))) rfl, ⟨by decide +kernel, by decide +kernel, by decide +kernel⟩⟩
theorem wc_X4_swaps : WcV yX4_swaps cX4_swaps 6 none 3 := ⟨gtbl_of (List.mem_append_right _ (List.mem_of_getElem? (i := 839) (by decide +kernel))) rfl, gtbl_of (List.mem_append_left _ (List.mem_of_getElem? (i := 34) (by decide +kernel))) rfl, gtbl_of (List.mem_append_right _ (List.mem_of_getElem? (i := 10) (by decide +kernel))) rfl, gtbl_of (List.mem_append_right _ (List.mem_of_getElem? (i := 840) (by decide +kernel))) rfl, ⟨by decide +kernel, by decide +kernel, by decide +kernel⟩⟩
theorem wc_X4_tellings : WcV yX4_tellings cX4_tellings 6 none 2 := ⟨gtbl_of (List.mem_append_right _ (List.mem_of_getElem? (i := 815) (by decide +kernel))) rfl, gtbl_of (List.mem_append_left _ (List.mem_of_getElem? (i := 30) (by decide +kernel))) rfl, gtbl_of (List.mem_append_right _ (List.mem_of_getElem? (i := 10) (by decide +kernel))) rfl, gtbl_of (List.mem_append_right _ (List.mem_of_getElem? (i := 816) (by decide +kernel))) rfl, ⟨by decide +kernel, by decide +kernel, by decide +kernel⟩⟩
theorem wc_X4_tongueItem : WcV yX4_tongueItem cX4_tongueItem 2 none 0 := ⟨gtbl_of (List.mem_append_right _ (List.mem_of_getElem? (i := 716) (by decide +kernel))) rfl, gtbl_of (List.mem_append_left _ (List.mem_of_getElem? (i := 14) (by decide +kernel))) rfl, gtbl_of (List.mem_append_right _ (List.mem_of_getElem? (i := 10) (by decide +kernel))) rfl, gtbl_of (List.mem_append_right _ (List.mem_of_getElem? (i := 717) (by decide +kernel))) rfl, ⟨by decide +kernel, by decide +kernel, by decide +kernel⟩⟩
theorem wc_X4_wooerItem : WcV yX4_wooerItem cX4_wooerItem 4 none 0 := ⟨gtbl_of (List.mem_append_right _ (List.mem_of_getElem? (i := 726) (by decide +kernel))) rfl, gtbl_of (List.mem_append_left _ (List.mem_of_getElem? (i := 15) (by decide +kernel))) rfl, gtbl_of (List.mem_append_right _ (List.mem_of_getElem? (i := 10) (by decide +kernel))) rfl, gtbl_of (List.mem_append_right _ (List.mem_of_getElem? (i := 727) (by decide +kernel))) rfl, ⟨by decide +kernel, by decide +kernel, by decide +kernel⟩⟩
theorem kb_10 : (Int8.ofInt (10)).toInt32 = (10) := by decide +kernel
theorem kb_100 : (Int8.ofInt (100)).toInt32 = (100) := by decide +kernel
theorem kb_115 : (Int8.ofInt (115)).toInt32 = (115) := by decide +kernel
theorem kb_116 : (Int8.ofInt (116)).toInt32 = (116) := by decide +kernel
theorem kb_119 : (Int8.ofInt (119)).toInt32 = (119) := by decide +kernel
theorem kb_126 : (Int8.ofInt (126)).toInt32 = (126) := by decide +kernel
theorem kb_16 : (Int8.ofInt (16)).toInt32 = (16) := by decide +kernel
theorem kb_18 : (Int8.ofInt (18)).toInt32 = (18) := by decide +kernel
theorem kb_20 : (Int8.ofInt (20)).toInt32 = (20) := by decide +kernel
theorem kb_24 : (Int8.ofInt (24)).toInt32 = (24) := by decide +kernel
theorem kb_30 : (Int8.ofInt (30)).toInt32 = (30) := by decide +kernel
theorem kb_32 : (Int8.ofInt (32)).toInt32 = (32) := by decide +kernel
theorem kb_40 : (Int8.ofInt (40)).toInt32 = (40) := by decide +kernel
theorem kb_44 : (Int8.ofInt (44)).toInt32 = (44) := by decide +kernel
theorem kb_45 : (Int8.ofInt (45)).toInt32 = (45) := by decide +kernel
theorem kb_48 : (Int8.ofInt (48)).toInt32 = (48) := by decide +kernel
theorem kb_57 : (Int8.ofInt (57)).toInt32 = (57) := by decide +kernel
theorem kb_59 : (Int8.ofInt (59)).toInt32 = (59) := by decide +kernel
theorem kb_6 : (Int8.ofInt (6)).toInt32 = (6) := by decide +kernel
theorem kb_60 : (Int8.ofInt (60)).toInt32 = (60) := by decide +kernel
theorem kb_63 : (Int8.ofInt (63)).toInt32 = (63) := by decide +kernel
theorem kb_64 : (Int8.ofInt (64)).toInt32 = (64) := by decide +kernel
theorem kb_7 : (Int8.ofInt (7)).toInt32 = (7) := by decide +kernel
theorem kb_8 : (Int8.ofInt (8)).toInt32 = (8) := by decide +kernel
theorem kb_9 : (Int8.ofInt (9)).toInt32 = (9) := by decide +kernel
theorem kb_90 : (Int8.ofInt (90)).toInt32 = (90) := by decide +kernel
theorem kb_91 : (Int8.ofInt (91)).toInt32 = (91) := by decide +kernel
theorem kb_m2 : (Int8.ofInt (-2)).toInt32 = (-2) := by decide +kernel
theorem kb_m3 : (Int8.ofInt (-3)).toInt32 = (-3) := by decide +kernel
theorem kb_m4 : (Int8.ofInt (-4)).toInt32 = (-4) := by decide +kernel
theorem ki_0 : Int32.ofInt (0) = (0) := by decide +kernel
theorem ki_1 : Int32.ofInt (1) = (1) := by decide +kernel
theorem ki_2 : Int32.ofInt (2) = (2) := by decide +kernel
theorem ki_3 : Int32.ofInt (3) = (3) := by decide +kernel
theorem ki_4 : Int32.ofInt (4) = (4) := by decide +kernel
theorem ki_5 : Int32.ofInt (5) = (5) := by decide +kernel
theorem ki_m1 : Int32.ofInt (-1) = (-1) := by decide +kernel
theorem ks_1001 : (Int16.ofInt (1001)).toInt32 = (1001) := by decide +kernel
theorem ks_200 : (Int16.ofInt (200)).toInt32 = (200) := by decide +kernel
theorem ks_511 : (Int16.ofInt (511)).toInt32 = (511) := by decide +kernel
theorem ks_512 : (Int16.ofInt (512)).toInt32 = (512) := by decide +kernel
theorem ks_728 : (Int16.ofInt (728)).toInt32 = (728) := by decide +kernel
theorem ks_999 : (Int16.ofInt (999)).toInt32 = (999) := by decide +kernel
theorem ks_9999 : (Int16.ofInt (9999)).toInt32 = (9999) := by decide +kernel
end
section
/-! the methods as functions over the memory, by program out of the bytecode -/
def FU : Nat := 10000
def FR : Nat := 12
def f_J6_bitCount_0f7a4 (a0 : Int32) (σ : St) : Option (Int32 × St) :=
  nm ((a0 - (((a0.toUInt32 >>> ((1 : Int32).toUInt32 &&& Int32.toUInt32 31)).toInt32) &&& (1431655765 : Int32)))) (fun x1 => nm (((x1 &&& (858993459 : Int32)) + (((x1.toUInt32 >>> ((2 : Int32).toUInt32 &&& Int32.toUInt32 31)).toInt32) &&& (858993459 : Int32)))) (fun x2 => nm (((x2 + ((x2.toUInt32 >>> ((4 : Int32).toUInt32 &&& Int32.toUInt32 31)).toInt32)) &&& (252645135 : Int32))) (fun x3 => nm ((x3 + ((x3.toUInt32 >>> ((8 : Int32).toUInt32 &&& Int32.toUInt32 31)).toInt32))) (fun x4 => nm ((x4 + ((x4.toUInt32 >>> ((16 : Int32).toUInt32 &&& Int32.toUInt32 31)).toInt32))) (fun x5 => some ((x5 &&& (63 : Int32)), σ))))))
def f_X3_put (a0 a0L : Nat) (a1 : Int32) (a2 : Int32) (σ : St) : Option (Unit × St) :=
  (if a1 < 0 then some ((), σ) else (if (nI a0L) ≤ a1 then some ((), σ) else (if a1 < 0 ∨ a0L ≤ a1.toNatClampNeg then none else nm (w2 σ a0 a1.toNatClampNeg a2) (fun σ4 => some ((), σ4)))))
def f_X0_add (a0 : Int32) (a1 : Int32) (a2 : Int32) (σ : St) : Option (Int32 × St) :=
  (if (σ 203 0) < (6 : Int32) then (f_X3_put 204 6 (σ 203 0) a0 σ).bind (fun q2 => (f_X3_put 205 6 (q2.2 203 0) a1 q2.2).bind (fun q3 => (f_X3_put 206 6 (q3.2 203 0) a2 q3.2).bind (fun q4 => nm (w2 q4.2 203 0 ((q4.2 203 0) + (1 : Int32))) (fun σ5 => some ((1 : Int32), σ5))))) else some ((0 : Int32), σ))
def f_X3_at (a0 a0L : Nat) (a1 : Int32) (σ : St) : Option (Int32 × St) :=
  jn (fun (q1 : St) => some ((0 : Int32), q1)) (fun k1 => (if a1 < 0 then k1 σ else (if (nI a0L) ≤ a1 then k1 σ else (if a1 < 0 ∨ a0L ≤ a1.toNatClampNeg then none else some ((σ a0 a1.toNatClampNeg), σ)))))
def f_X0_lastDay  (σ : St) : Option (Int32 × St) :=
  lp (fun (r1 : Int32 × Int32 × St → Option _) (b1 : Int32 × Int32 × St) => (if (b1.2.2 203 0) ≤ b1.2.1 then some (b1.1, b1.2.2) else (f_X3_at 206 6 b1.2.1 b1.2.2).bind (fun q3 => nm ((if b1.1 < q3.1 then q3.1 else b1.1)) (fun x4 => nm (b1.2.1 + (1 : Int32)) (fun x5 => r1 (x4, x5, q3.2)))))) FU ((0 : Int32), (0 : Int32), σ)
def f_X1_holds (t : Nat) (a0 : Int32) (a1 : Int32) (σ : St) : Option (Int32 × St) :=
  (f_X3_at (t + 4) 5 a0 σ).bind (fun q1 => (if ¬ ((q1.1 >>> (a1 &&& 31)) &&& (1 : Int32)) = (1 : Int32) then some ((0 : Int32), q1.2) else some ((1 : Int32), q1.2)))
def f_X1_wayOf (t : Nat) (a0 : Int32) (a1 : Int32) (σ : St) : Option (Int32 × St) :=
  (f_X3_at (t + 6) 40 (((8 : Int32) * a0) + a1) σ).bind (fun q1 => some (q1.1, q1.2))
def f_X1_having (t : Nat) (a0 : Int32) (a1 : Int32) (σ : St) : Option (Int32 × St) :=
  lp (fun (r1 : Int32 × Int32 × St → Option _) (b1 : Int32 × Int32 × St) => (if (b1.2.2 t 1) ≤ b1.2.1 then some (b1.1, b1.2.2) else jn (fun (q3 : Int32 × St) => jn (fun (q12 : Int32 × St) => nm (b1.2.1 + (1 : Int32)) (fun x15 => r1 (q12.1, x15, q12.2))) (fun k12 => (if q3.1 = 0 then k12 (b1.1, q3.2) else nm ((b1.1 ||| ((1 : Int32) <<< (b1.2.1 &&& 31)))) (fun x14 => k12 (x14, q3.2))))) (fun k3 => (if ¬ a1 = (10 : Int32) then (f_X1_holds t b1.2.1 a0 b1.2.2).bind (fun q5 => jn (fun (q6 : St) => k3 ((0 : Int32), q6)) (fun k6 => (if q5.1 = 0 then k6 q5.2 else (f_X1_wayOf t b1.2.1 a0 q5.2).bind (fun q8 => (if ¬ q8.1 = a1 then k6 q8.2 else k3 ((1 : Int32), q8.2)))))) else (f_X1_holds t b1.2.1 a0 b1.2.2).bind (fun q10 => (if ¬ q10.1 = 0 then k3 ((0 : Int32), q10.2) else k3 ((1 : Int32), q10.2))))))) FU ((0 : Int32), (0 : Int32), σ)
def f_X1_ageOf (t : Nat) (a0 : Int32) (a1 : Int32) (σ : St) : Option (Int32 × St) :=
  (f_X3_at (t + 7) 40 (((8 : Int32) * a0) + a1) σ).bind (fun q1 => some (q1.1, q1.2))
def f_X1_drop (t : Nat) (a0 : Int32) (a1 : Int32) (σ : St) : Option (Unit × St) :=
  nm (((1 : Int32) <<< (a1 &&& 31))) (fun x1 => (f_X3_at (t + 4) 5 a0 σ).bind (fun q2 => (f_X3_put (t + 4) 5 a0 (q2.1 &&& (x1 ^^^ (-1 : Int32))) q2.2).bind (fun q3 => (f_X3_at (t + 5) 5 a0 q3.2).bind (fun q4 => (f_X3_put (t + 5) 5 a0 (q4.1 &&& (x1 ^^^ (-1 : Int32))) q4.2).bind (fun q5 => some ((), q5.2))))))
def f_X1_growOlder (t : Nat) (a0 : Int32) (a1 : Int32) (σ : St) : Option (Unit × St) :=
  (f_X3_at (t + 3) 5 a0 σ).bind (fun q1 => lp (fun (r2 : Int32 × St → Option _) (b2 : Int32 × St) => (if (b2.2 t 0) ≤ b2.1 then some ((), b2.2) else (f_X1_holds t a0 b2.1 b2.2).bind (fun q4 => jn (fun (q5 : St) => nm (b2.1 + (1 : Int32)) (fun x13 => r2 (x13, q5))) (fun k5 => (if q4.1 = 0 then k5 q4.2 else jn (fun (q7 : Int32 × St) => (f_X3_put (t + 7) 40 (((8 : Int32) * a0) + b2.1) q7.1 q7.2).bind (fun q10 => (if q7.1 < q1.1 then k5 q10.2 else (f_X1_drop t a0 b2.1 q10.2).bind (fun q12 => k5 q12.2)))) (fun k7 => (if ¬ b2.1 = a1 then (f_X1_ageOf t a0 b2.1 q4.2).bind (fun q9 => k7 ((q9.1 + (1 : Int32)), q9.2)) else k7 ((0 : Int32), q4.2)))))))) FU ((0 : Int32), q1.2))
def f_X1_lowest (t : Nat) (a0 : Int32) (σ : St) : Option (Int32 × St) :=
  (if ¬ a0 = 0 then (f_J6_bitCount_0f7a4 ((a0 &&& (-a0)) - (1 : Int32)) σ).bind (fun q2 => some (q2.1, q2.2)) else some ((-4 : Int32), σ))
def f_X1_nextSeat (t : Nat) (a0 : Int32) (σ : St) : Option (Int32 × St) :=
  (if (σ t 1) ≤ (a0 + (1 : Int32)) then some ((0 : Int32), σ) else some ((a0 + (1 : Int32)), σ))
def f_X1_asHeardBy (t : Nat) (a0 : Int32) (a1 : Int32) (σ : St) : Option (Int32 × St) :=
  (f_X3_at (t + 2) 5 a0 σ).bind (fun q1 => jn (fun (q2 : St) => some (a1, q2)) (fun k2 => (if ¬ q1.1 = (1 : Int32) then k2 q1.2 else (if ¬ (a1 - a1 / (2 : Int32) * (2 : Int32)) = (1 : Int32) then k2 q1.2 else some (((a1 + (1 : Int32)) - (a1 + (1 : Int32)) / (10 : Int32) * (10 : Int32)), q1.2)))))
def f_X1_give (t : Nat) (a0 : Int32) (a1 : Int32) (a2 : Int32) (σ : St) : Option (Unit × St) :=
  nm (((1 : Int32) <<< (a1 &&& 31))) (fun x1 => (f_X3_at (t + 4) 5 a0 σ).bind (fun q2 => (f_X3_put (t + 4) 5 a0 (q2.1 ||| x1) q2.2).bind (fun q3 => (f_X3_at (t + 1) 8 a1 q3.2).bind (fun q4 => jn (fun (q5 : Int32 × St) => (f_X3_put (t + 5) 5 a0 q5.1 q5.2).bind (fun q9 => (f_X3_put (t + 6) 40 (((8 : Int32) * a0) + a1) a2 q9.2).bind (fun q10 => (f_X3_put (t + 7) 40 (((8 : Int32) * a0) + a1) (0 : Int32) q10.2).bind (fun q11 => some ((), q11.2))))) (fun k5 => (if ¬ a2 = q4.1 then (f_X3_at (t + 5) 5 a0 q4.2).bind (fun q7 => k5 ((q7.1 &&& (x1 ^^^ (-1 : Int32))), q7.2)) else (f_X3_at (t + 5) 5 a0 q4.2).bind (fun q8 => k5 ((q8.1 ||| x1), q8.2))))))))
def f_X1_tellNext (t : Nat) (a0 : Int32) (a1 : Int32) (σ : St) : Option (Unit × St) :=
  (if a1 < 0 then some ((), σ) else (f_X1_nextSeat t a0 σ).bind (fun q2 => (f_X1_wayOf t a0 a1 q2.2).bind (fun q3 => (f_X1_asHeardBy t q2.1 q3.1 q3.2).bind (fun q4 => (f_X1_give t q2.1 a1 q4.1 q4.2).bind (fun q5 => some ((), q5.2))))))
def f_X1_spendDay (t : Nat) (a0 : Int32) (σ : St) : Option (Unit × St) :=
  lp (fun (r1 : Int32 × St → Option _) (b1 : Int32 × St) => (if (b1.2 t 1) ≤ b1.1 then lp (fun (r3 : Int32 × St → Option _) (b3 : Int32 × St) => (if (b3.2 t 1) ≤ b3.1 then lp (fun (r5 : Int32 × St → Option _) (b5 : Int32 × St) => (if (b5.2 t 1) ≤ b5.1 then nm (w2 b5.2 t 3 ((b5.2 t 3) + (1 : Int32))) (fun σ7 => some ((), σ7)) else (f_X3_at (t + 8) 5 b5.1 b5.2).bind (fun q8 => (f_X1_tellNext t b5.1 q8.1 q8.2).bind (fun q9 => nm (b5.1 + (1 : Int32)) (fun x10 => r5 (x10, q9.2)))))) FU ((0 : Int32), b3.2) else (f_X3_at (t + 8) 5 b3.1 b3.2).bind (fun q11 => (f_X1_growOlder t b3.1 q11.1 q11.2).bind (fun q12 => nm (b3.1 + (1 : Int32)) (fun x13 => r3 (x13, q12.2)))))) FU ((0 : Int32), b1.2) else jn (fun (q14 : Int32 × St) => (f_X3_put (t + 8) 5 b1.1 q14.1 q14.2).bind (fun q20 => nm (b1.1 + (1 : Int32)) (fun x21 => r1 (x21, q20.2)))) (fun k14 => (if a0 = 0 then k14 ((-4 : Int32), b1.2) else (f_X3_at (t + 4) 5 b1.1 b1.2).bind (fun q16 => (f_X1_nextSeat t b1.1 q16.2).bind (fun q17 => (f_X3_at (t + 4) 5 q17.1 q17.2).bind (fun q18 => (f_X1_lowest t (q16.1 &&& (q18.1 ^^^ (-1 : Int32))) q18.2).bind (fun q19 => k14 (q19.1, q19.2))))))))) FU ((0 : Int32), σ)
def f_X0_fitting (a0 : Nat) (σ : St) : Option (Int32 × St) :=
  nm ((((1 : Int32) <<< ((σ a0 1) &&& 31)) - (1 : Int32))) (fun x1 => (f_X0_lastDay σ).bind (fun q2 => lp (fun (r3 : Int32 × Int32 × St → Option _) (b3 : Int32 × Int32 × St) => (if q2.1 < b3.2.1 then some (b3.1, b3.2.2) else lp (fun (r5 : Int32 × Int32 × St → Option _) (b5 : Int32 × Int32 × St) => (if (b5.2.2 203 0) ≤ b5.2.1 then (f_X1_spendDay a0 (1 : Int32) b5.2.2).bind (fun q7 => nm (b3.2.1 + (1 : Int32)) (fun x8 => r3 (b5.1, x8, q7.2))) else (f_X3_at 206 6 b5.2.1 b5.2.2).bind (fun q9 => jn (fun (q10 : Int32 × St) => nm (b5.2.1 + (1 : Int32)) (fun x16 => r5 (q10.1, x16, q10.2))) (fun k10 => (if ¬ q9.1 = b3.2.1 then k10 (b5.1, q9.2) else (f_X3_at 204 6 b5.2.1 q9.2).bind (fun q12 => (f_X3_at 205 6 b5.2.1 q12.2).bind (fun q13 => (f_X1_having a0 q12.1 q13.1 q13.2).bind (fun q14 => nm ((b5.1 &&& q14.1)) (fun x15 => k10 (x15, q14.2)))))))))) FU (b3.1, (0 : Int32), b3.2.2))) FU (x1, (0 : Int32), q2.2)))
def f_X1_clear (t : Nat) (σ : St) : Option (Unit × St) :=
  nm (w2 σ t 0 (0 : Int32)) (fun σ1 => nm (w2 σ1 t 1 (0 : Int32)) (fun σ2 => nm (w2 σ2 t 2 (3 : Int32)) (fun σ3 => nm (w2 σ3 t 3 (0 : Int32)) (fun σ4 => some ((), σ4)))))
def f_X3_copyRow (a0 a0L : Nat) (a1 a1L : Nat) (σ : St) : Option (Unit × St) :=
  (if (0 : Int32) < 0 ∨ (0 : Int32) < 0 ∨ (if (nI a1L) < (nI a0L) then (nI a1L) else (nI a0L)) < 0 ∨ a0L < (0 : Int32).toNatClampNeg + (if (nI a1L) < (nI a0L) then (nI a1L) else (nI a0L)).toNatClampNeg ∨ a1L < (0 : Int32).toNatClampNeg + (if (nI a1L) < (nI a0L) then (nI a1L) else (nI a0L)).toNatClampNeg then none else nm (va_up σ a1 (va_cpy (σ a0) (σ a1) (0 : Int32).toNatClampNeg (0 : Int32).toNatClampNeg (if (nI a1L) < (nI a0L) then (nI a1L) else (nI a0L)).toNatClampNeg)) (fun σ2 => some ((), σ2)))
def f_X1_copy (t : Nat) (a0 : Option Nat) (σ : St) : Option (Unit × St) :=
  (match a0 with | none => some ((), σ) | some y1 => (f_X3_copyRow (y1 + 1) 8 (t + 1) 8 σ).bind (fun q2 => (f_X3_copyRow (y1 + 2) 5 (t + 2) 5 q2.2).bind (fun q3 => (f_X3_copyRow (y1 + 3) 5 (t + 3) 5 q3.2).bind (fun q4 => (f_X3_copyRow (y1 + 4) 5 (t + 4) 5 q4.2).bind (fun q5 => (f_X3_copyRow (y1 + 5) 5 (t + 5) 5 q5.2).bind (fun q6 => (f_X3_copyRow (y1 + 6) 40 (t + 6) 40 q6.2).bind (fun q7 => (f_X3_copyRow (y1 + 7) 40 (t + 7) 40 q7.2).bind (fun q8 => nm (w2 q8.2 t 0 (q8.2 y1 0)) (fun σ9 => nm (w2 σ9 t 1 (σ9 y1 1)) (fun σ10 => nm (w2 σ10 t 2 (σ10 y1 2)) (fun σ11 => nm (w2 σ11 t 3 (σ11 y1 3)) (fun σ12 => some ((), σ12)))))))))))))
def f_X1_isWord (t : Nat) (a0 : Int32) (σ : St) : Option (Int32 × St) :=
  jn (fun (q1 : St) => some ((0 : Int32), q1)) (fun k1 => (if a0 < 0 then k1 σ else (if (σ t 0) ≤ a0 then k1 σ else some ((1 : Int32), σ))))
def f_X1_isWooer (t : Nat) (a0 : Int32) (σ : St) : Option (Int32 × St) :=
  jn (fun (q1 : St) => some ((0 : Int32), q1)) (fun k1 => (if a0 < 0 then k1 σ else (if (σ t 1) ≤ a0 then k1 σ else some ((1 : Int32), σ))))
def f_X1_isRight (t : Nat) (a0 : Int32) (a1 : Int32) (σ : St) : Option (Int32 × St) :=
  (f_X3_at (t + 5) 5 a0 σ).bind (fun q1 => (if ¬ ((q1.1 >>> (a1 &&& 31)) &&& (1 : Int32)) = (1 : Int32) then some ((0 : Int32), q1.2) else some ((1 : Int32), q1.2)))
def f_X1_rightOf (t : Nat) (a0 : Int32) (σ : St) : Option (Int32 × St) :=
  (f_X3_at (t + 5) 5 a0 σ).bind (fun q1 => (f_J6_bitCount_0f7a4 q1.1 q1.2).bind (fun q2 => some (q2.1, q2.2)))
def f_X1_isSpeaker (t : Nat) (a0 : Int32) (σ : St) : Option (Int32 × St) :=
  (f_X1_rightOf t a0 σ).bind (fun q1 => (if q1.1 < (q1.2 t 2) then some ((0 : Int32), q1.2) else some ((1 : Int32), q1.2)))
def f_X1_speakers (t : Nat) (σ : St) : Option (Int32 × St) :=
  lp (fun (r1 : Int32 × Int32 × St → Option _) (b1 : Int32 × Int32 × St) => (if (b1.2.2 t 1) ≤ b1.2.1 then some (b1.1, b1.2.2) else (f_X1_isSpeaker t b1.2.1 b1.2.2).bind (fun q3 => jn (fun (q4 : Int32 × St) => nm (b1.2.1 + (1 : Int32)) (fun x7 => r1 (q4.1, x7, q4.2))) (fun k4 => (if q3.1 = 0 then k4 (b1.1, q3.2) else nm (b1.1 + (1 : Int32)) (fun x6 => k4 (x6, q3.2))))))) FU ((0 : Int32), (0 : Int32), σ)
def f_X1_allRight (t : Nat) (σ : St) : Option (Int32 × St) :=
  lp (fun (r1 : Int32 × Int32 × St → Option _) (b1 : Int32 × Int32 × St) => (if (b1.2.2 t 1) ≤ b1.2.1 then some (b1.1, b1.2.2) else (f_X1_rightOf t b1.2.1 b1.2.2).bind (fun q3 => nm ((b1.1 + q3.1)) (fun x4 => nm (b1.2.1 + (1 : Int32)) (fun x5 => r1 (x4, x5, q3.2)))))) FU ((0 : Int32), (0 : Int32), σ)
def f_X1_allHad (t : Nat) (σ : St) : Option (Int32 × St) :=
  lp (fun (r1 : Int32 × Int32 × St → Option _) (b1 : Int32 × Int32 × St) => (if (b1.2.2 t 1) ≤ b1.2.1 then some (b1.1, b1.2.2) else (f_X3_at (t + 4) 5 b1.2.1 b1.2.2).bind (fun q3 => (f_J6_bitCount_0f7a4 q3.1 q3.2).bind (fun q4 => nm ((b1.1 + q4.1)) (fun x5 => nm (b1.2.1 + (1 : Int32)) (fun x6 => r1 (x5, x6, q4.2))))))) FU ((0 : Int32), (0 : Int32), σ)
def f_X1_seat (t : Nat) (a0 : Int32) (a1 : Int32) (σ : St) : Option (Int32 × St) :=
  nm ((σ t 1)) (fun x1 => (f_X3_put (t + 2) 5 x1 a0 σ).bind (fun q2 => (f_X3_put (t + 3) 5 x1 a1 q2.2).bind (fun q3 => (f_X3_put (t + 4) 5 x1 (0 : Int32) q3.2).bind (fun q4 => (f_X3_put (t + 5) 5 x1 (0 : Int32) q4.2).bind (fun q5 => nm (w2 q5.2 t 1 ((q5.2 t 1) + (1 : Int32))) (fun σ6 => some (x1, σ6)))))))
def f_X1_teach (t : Nat) (a0 : Int32) (a1 : Int32) (σ : St) : Option (Unit × St) :=
  (f_X3_at (t + 2) 5 a0 σ).bind (fun q1 => jn (fun (q2 : St) => (f_X3_at (t + 1) 8 a1 q2).bind (fun q8 => (f_X1_asHeardBy t a0 q8.1 q8.2).bind (fun q9 => (f_X1_give t a0 a1 q9.1 q9.2).bind (fun q10 => jn (fun (q11 : Int32 × St) => (f_X3_at (t + 2) 5 a0 q11.2).bind (fun q13 => (if ¬ q13.1 = (2 : Int32) then some ((), q13.2) else (f_X1_holds t a0 q11.1 q13.2).bind (fun q15 => (if ¬ q15.1 = 0 then some ((), q15.2) else (f_X3_at (t + 1) 8 q11.1 q15.2).bind (fun q17 => (f_X1_give t a0 q11.1 q17.1 q17.2).bind (fun q18 => some ((), q18.2)))))))) (fun k11 => (if (q10.2 t 0) ≤ (a1 + (1 : Int32)) then k11 ((0 : Int32), q10.2) else k11 ((a1 + (1 : Int32)), q10.2))))))) (fun k2 => (if ¬ q1.1 = (3 : Int32) then k2 q1.2 else (f_X1_holds t a0 a1 q1.2).bind (fun q4 => (if q4.1 = 0 then k2 q4.2 else (f_X1_wayOf t a0 a1 q4.2).bind (fun q6 => (f_X1_give t a0 a1 q6.1 q6.2).bind (fun q7 => some ((), q7.2))))))))
def f_X1_canRepair (t : Nat) (a0 : Int32) (a1 : Int32) (σ : St) : Option (Int32 × St) :=
  (f_X1_holds t a0 a1 σ).bind (fun q1 => jn (fun (q2 : St) => some ((0 : Int32), q2)) (fun k2 => (if q1.1 = 0 then k2 q1.2 else (f_X1_isRight t a0 a1 q1.2).bind (fun q4 => (if ¬ q4.1 = 0 then k2 q4.2 else some ((1 : Int32), q4.2))))))
def f_X1_repair (t : Nat) (a0 : Int32) (a1 : Int32) (σ : St) : Option (Unit × St) :=
  (f_X3_at (t + 1) 8 a1 σ).bind (fun q1 => (f_X1_give t a0 a1 q1.1 q1.2).bind (fun q2 => some ((), q2.2)))
def f_X3_swap (a0 a0L : Nat) (a1 : Int32) (a2 : Int32) (σ : St) : Option (Unit × St) :=
  (f_X3_at a0 a0L a1 σ).bind (fun q1 => (f_X3_at a0 a0L a2 q1.2).bind (fun q2 => (f_X3_put a0 a0L a1 q2.1 q2.2).bind (fun q3 => (f_X3_put a0 a0L a2 q1.1 q3.2).bind (fun q4 => some ((), q4.2)))))
def f_X1_swapSeats (t : Nat) (a0 : Int32) (a1 : Int32) (σ : St) : Option (Unit × St) :=
  (f_X3_swap (t + 2) 5 a0 a1 σ).bind (fun q1 => (f_X3_swap (t + 3) 5 a0 a1 q1.2).bind (fun q2 => (f_X3_swap (t + 4) 5 a0 a1 q2.2).bind (fun q3 => (f_X3_swap (t + 5) 5 a0 a1 q3.2).bind (fun q4 => lp (fun (r5 : Int32 × St → Option _) (b5 : Int32 × St) => (if (b5.2 t 0) ≤ b5.1 then some ((), b5.2) else (f_X3_swap (t + 6) 40 (((8 : Int32) * a0) + b5.1) (((8 : Int32) * a1) + b5.1) b5.2).bind (fun q7 => (f_X3_swap (t + 7) 40 (((8 : Int32) * a0) + b5.1) (((8 : Int32) * a1) + b5.1) q7.2).bind (fun q8 => nm (b5.1 + (1 : Int32)) (fun x9 => r5 (x9, q8.2)))))) FU ((0 : Int32), q4.2)))))
def f_X1_spend (t : Nat) (a0 : Int32) (σ : St) : Option (Unit × St) :=
  lp (fun (r1 : Int32 × St → Option _) (b1 : Int32 × St) => (if a0 ≤ b1.1 then some ((), b1.2) else (f_X1_spendDay t (1 : Int32) b1.2).bind (fun q3 => nm (b1.1 + (1 : Int32)) (fun x4 => r1 (x4, q3.2))))) FU ((0 : Int32), σ)
def f_X1_befall (t : Nat) (a0 : Int32) (σ : St) : Option (Unit × St) :=
  (if (σ t 1) ≤ 0 then some ((), σ) else (if 0 < (σ t 0) then (if (σ t 1) = 0 then none else nm (((a0 / (8 : Int32)) - (a0 / (8 : Int32)) / (σ t 1) * (σ t 1))) (fun x4 => (if (σ t 0) = 0 then none else nm (((a0 / (64 : Int32)) - (a0 / (64 : Int32)) / (σ t 0) * (σ t 0))) (fun x6 => (if (σ t 1) = 0 then none else nm (((a0 / (64 : Int32)) - (a0 / (64 : Int32)) / (σ t 1) * (σ t 1))) (fun x8 => nm ((a0 - a0 / (8 : Int32) * (8 : Int32))) (fun x9 => (if (3 : Int32) < x9 then jn (fun (q11 : St) => (if ¬ x9 = (5 : Int32) then some ((), q11) else (if x4 = x8 then some ((), q11) else (f_X1_swapSeats t x4 x8 q11).bind (fun q18 => some ((), q18.2))))) (fun k11 => (if ¬ x9 = (4 : Int32) then k11 σ else (f_X1_canRepair t x4 x6 σ).bind (fun q13 => (if q13.1 = 0 then k11 q13.2 else (f_X1_repair t x4 x6 q13.2).bind (fun q15 => some ((), q15.2)))))) else (f_X1_teach t x4 x6 σ).bind (fun q19 => some ((), q19.2)))))))))) else some ((), σ)))
def f_X1_differing (t : Nat) (a0 : Int32) (a1 : Int32) (σ : St) : Option (Int32 × St) :=
  (f_X3_at (t + 4) 5 a0 σ).bind (fun q1 => (f_X3_at (t + 4) 5 a1 q1.2).bind (fun q2 => nm ((q1.1 ^^^ q2.1)) (fun x3 => (f_X3_at (t + 4) 5 a0 q2.2).bind (fun q4 => (f_X3_at (t + 4) 5 a1 q4.2).bind (fun q5 => nm ((q4.1 &&& q5.1)) (fun x6 => lp (fun (r7 : Int32 × Int32 × St → Option _) (b7 : Int32 × Int32 × St) => (if (b7.2.2 t 0) ≤ b7.2.1 then some (b7.1, b7.2.2) else jn (fun (q9 : Int32 × St) => nm (b7.2.1 + (1 : Int32)) (fun x15 => r7 (q9.1, x15, q9.2))) (fun k9 => (if ¬ ((x6 >>> (b7.2.1 &&& 31)) &&& (1 : Int32)) = (1 : Int32) then k9 (b7.1, b7.2.2) else (f_X1_wayOf t a0 b7.2.1 b7.2.2).bind (fun q11 => (f_X1_wayOf t a1 b7.2.1 q11.2).bind (fun q12 => (if q11.1 = q12.1 then k9 (b7.1, q12.2) else nm ((b7.1 ||| ((1 : Int32) <<< (b7.2.1 &&& 31)))) (fun x14 => k9 (x14, q12.2))))))))) FU (x3, (0 : Int32), q5.2)))))))
def f_X1_holders (t : Nat) (a0 : Int32) (a1 : Int32) (σ : St) : Option (Int32 × St) :=
  lp (fun (r1 : Int32 × Int32 × St → Option _) (b1 : Int32 × Int32 × St) => (if (b1.2.2 t 1) ≤ b1.2.1 then some (b1.1, b1.2.2) else (f_X1_holds t b1.2.1 a0 b1.2.2).bind (fun q3 => jn (fun (q4 : Int32 × St) => nm (b1.2.1 + (1 : Int32)) (fun x9 => r1 (q4.1, x9, q4.2))) (fun k4 => (if q3.1 = 0 then k4 (b1.1, q3.2) else (f_X1_wayOf t b1.2.1 a0 q3.2).bind (fun q6 => (if ¬ q6.1 = a1 then k4 (b1.1, q6.2) else nm (b1.1 + (1 : Int32)) (fun x8 => k4 (x8, q6.2))))))))) FU ((0 : Int32), (0 : Int32), σ)
def f_X1_isAnother (t : Nat) (a0 : Int32) (σ : St) : Option (Int32 × St) :=
  (f_X3_at (t + 1) 8 a0 σ).bind (fun q1 => (f_X1_holders t a0 q1.1 q1.2).bind (fun q2 => lp (fun (r3 : Int32 × St → Option _) (b3 : Int32 × St) => (if (b3.2 t 1) ≤ b3.1 then some ((0 : Int32), b3.2) else (f_X1_canRepair t b3.1 a0 b3.2).bind (fun q5 => jn (fun (q6 : St) => nm (b3.1 + (1 : Int32)) (fun x11 => r3 (x11, q6))) (fun k6 => (if q5.1 = 0 then k6 q5.2 else (f_X1_wayOf t b3.1 a0 q5.2).bind (fun q8 => (f_X1_holders t a0 q8.1 q8.2).bind (fun q9 => (if q9.1 ≤ q2.1 then k6 q9.2 else some ((1 : Int32), q9.2))))))))) FU ((0 : Int32), q2.2)))
def f_X2_append (a0 : Int32) (σ : St) : Option (Int32 × St) :=
  (if (σ 0 0) < (200 : Int32) then (f_X3_put 1 200 (σ 0 0) a0 σ).bind (fun q2 => nm (w2 q2.2 0 0 ((q2.2 0 0) + (1 : Int32))) (fun σ3 => some ((1 : Int32), σ3))) else some ((0 : Int32), σ))
def f_X2_next  (σ : St) : Option (Int32 × St) :=
  (if (σ 0 1) < (σ 0 0) then (f_X3_at 1 200 (σ 0 1) σ).bind (fun q2 => nm (w2 q2.2 0 1 ((q2.2 0 1) + (1 : Int32))) (fun σ3 => some (q2.1, σ3))) else some ((0 : Int32), σ))
def f_X2_isFigure (a0 : Int32) (σ : St) : Option (Int32 × St) :=
  jn (fun (q1 : St) => some ((0 : Int32), q1)) (fun k1 => (if a0 < (48 : Int32) then k1 σ else (if (57 : Int32) < a0 then k1 σ else some ((1 : Int32), σ))))
def f_X2_number (a0 : Int32) (σ : St) : Option (Int32 × St) :=
  (f_X2_next σ).bind (fun q1 => (f_X2_isFigure q1.1 q1.2).bind (fun q2 => (if ¬ q2.1 = 0 then (f_X2_next q2.2).bind (fun q4 => (if ¬ q4.1 = a0 then (f_X2_isFigure q4.1 q4.2).bind (fun q6 => (if q6.1 = 0 then some ((-1 : Int32), q6.2) else (f_X2_next q6.2).bind (fun q8 => (if q8.1 = a0 then some (((((10 : Int32) * (q1.1 - (48 : Int32))) + q4.1) - (48 : Int32)), q8.2) else some ((-1 : Int32), q8.2))))) else some ((q1.1 - (48 : Int32)), q4.2))) else some ((-1 : Int32), q2.2))))
def f_X2_readNeed (a0 : Nat) (σ : St) : Option (Int32 × St) :=
  nm (w2 σ 0 2 (1 : Int32)) (fun σ1 => (f_X2_number (59 : Int32) σ1).bind (fun q2 => (if q2.1 < (1 : Int32) then some ((0 : Int32), q2.2) else (if q2.1 ≤ (8 : Int32) then nm (w2 q2.2 a0 2 q2.1) (fun σ5 => some ((1 : Int32), σ5)) else some ((0 : Int32), q2.2)))))
def f_X2_readTongue (a0 : Nat) (σ : St) : Option (Int32 × St) :=
  (if (σ 0 2) = 0 then lp (fun (r2 : Int32 × St → Option _) (b2 : Int32 × St) => (if (8 : Int32) < b2.1 then some ((0 : Int32), b2.2) else (f_X2_next b2.2).bind (fun q4 => (if ¬ q4.1 = (59 : Int32) then (f_X2_isFigure q4.1 q4.2).bind (fun q6 => (if q6.1 = 0 then some ((0 : Int32), q6.2) else (if ¬ b2.1 = (8 : Int32) then (f_X3_put (a0 + 1) 8 b2.1 (q4.1 - (48 : Int32)) q6.2).bind (fun q9 => nm (w2 q9.2 a0 0 (b2.1 + (1 : Int32))) (fun σ10 => nm (b2.1 + (1 : Int32)) (fun x11 => r2 (x11, σ10)))) else some ((0 : Int32), q6.2)))) else (if b2.1 ≤ 0 then some ((0 : Int32), q4.2) else some ((1 : Int32), q4.2)))))) FU ((0 : Int32), σ) else some ((0 : Int32), σ))
def f_X2_readWooer (a0 : Nat) (σ : St) : Option (Int32 × St) :=
  nm (w2 σ 0 2 (1 : Int32)) (fun σ1 => (if (σ1 a0 0) = 0 then some ((0 : Int32), σ1) else (if (σ1 a0 1) < (5 : Int32) then (f_X2_number (44 : Int32) σ1).bind (fun q4 => (if q4.1 < 0 then some ((0 : Int32), q4.2) else (if q4.1 ≤ (3 : Int32) then (f_X2_number (44 : Int32) q4.2).bind (fun q7 => (if q7.1 < (1 : Int32) then some ((0 : Int32), q7.2) else (if q7.1 ≤ (30 : Int32) then (f_X1_seat a0 q4.1 q7.1 q7.2).bind (fun q10 => lp (fun (r11 : Int32 × St → Option _) (b11 : Int32 × St) => (if (b11.2 a0 0) ≤ b11.1 then (f_X2_next b11.2).bind (fun q13 => (if ¬ q13.1 = (59 : Int32) then some ((0 : Int32), q13.2) else some ((1 : Int32), q13.2))) else (f_X2_next b11.2).bind (fun q15 => (f_X2_isFigure q15.1 q15.2).bind (fun q16 => jn (fun (q17 : St) => nm (b11.1 + (1 : Int32)) (fun x21 => r11 (x21, q17))) (fun k17 => (if q16.1 = 0 then (if q15.1 = (45 : Int32) then k17 q16.2 else some ((0 : Int32), q16.2)) else (f_X1_give a0 q10.1 b11.1 (q15.1 - (48 : Int32)) q16.2).bind (fun q20 => k17 q20.2))))))) FU ((0 : Int32), q10.2)) else some ((0 : Int32), q7.2)))) else some ((0 : Int32), q4.2)))) else some ((0 : Int32), σ1))))
def f_X2_readItem (a0 : Nat) (σ : St) : Option (Int32 × St) :=
  (f_X2_next σ).bind (fun q1 => (if q1.1 = 115 then (f_X2_readNeed a0 q1.2).bind (fun q3 => (if ¬ (q3.1 = 0 ∨ q3.1 = 1) then none else some (q3.1, q3.2))) else (if q1.1 = 116 then (f_X2_readTongue a0 q1.2).bind (fun q6 => (if ¬ (q6.1 = 0 ∨ q6.1 = 1) then none else some (q6.1, q6.2))) else (if q1.1 = 117 then some ((0 : Int32), q1.2) else (if q1.1 = 118 then some ((0 : Int32), q1.2) else (if q1.1 = 119 then (f_X2_readWooer a0 q1.2).bind (fun q11 => (if ¬ (q11.1 = 0 ∨ q11.1 = 1) then none else some (q11.1, q11.2))) else some ((0 : Int32), q1.2)))))))
def f_X2_readInto (a0 : Nat) (σ : St) : Option (Int32 × St) :=
  (f_X1_clear a0 σ).bind (fun q1 => nm (w2 q1.2 0 1 (0 : Int32)) (fun σ2 => nm (w2 σ2 0 2 (0 : Int32)) (fun σ3 => lp (fun (r4 : Int32 × St → Option _) (b4 : Int32 × St) => (if (200 : Int32) ≤ b4.1 then some ((-4 : Int32), b4.2) else (if (b4.2 0 0) ≤ (b4.2 0 1) then some ((-4 : Int32), b4.2) else nm ((b4.2 0 1)) (fun x7 => (f_X2_readItem a0 b4.2).bind (fun q8 => (if ¬ q8.1 = 0 then nm (b4.1 + (1 : Int32)) (fun x10 => r4 (x10, q8.2)) else some (x7, q8.2))))))) FU ((0 : Int32), σ3))))
def f_X3_write (a0 : Int32) (σ : St) : Option (Int32 × St) :=
  (if a0 < (32 : Int32) then some ((-1 : Int32), σ) else (if a0 ≤ (126 : Int32) then (f_X2_append a0 σ).bind (fun q3 => (if q3.1 = 0 then some ((-3 : Int32), q3.2) else some ((q3.2 0 0), q3.2))) else some ((-1 : Int32), σ)))
def f_X3_wipe  (σ : St) : Option (Int32 × St) :=
  nm ((σ 0 0)) (fun x1 => nm (w2 σ 0 0 (0 : Int32)) (fun σ2 => some (x1, σ2)))
def f_X3_fault  (σ : St) : Option (Int32 × St) :=
  (f_X2_readInto 11 σ).bind (fun q1 => some (q1.1, q1.2))
def f_X3_lay  (σ : St) : Option (Int32 × St) :=
  (f_X2_readInto 11 σ).bind (fun q1 => (if ¬ q1.1 = (-4 : Int32) then some ((-2 : Int32), q1.2) else (if (q1.2 11 0) = 0 then some ((-2 : Int32), q1.2) else (if ¬ (q1.2 11 1) = 0 then (f_X1_copy 2 (some 11) q1.2).bind (fun q5 => nm (w2 q5.2 203 0 (0 : Int32)) (fun σ6 => nm (w2 σ6 208 0 (0 : Int32)) (fun σ7 => nm (w2 σ7 208 2 (0 : Int32)) (fun σ8 => some ((σ8 2 1), σ8))))) else some ((-2 : Int32), q1.2)))))
def f_X3_sound (a0 : Int32) (σ : St) : Option (Int32 × St) :=
  (f_X1_isWord 2 a0 σ).bind (fun q1 => (if q1.1 = 0 then some ((-1 : Int32), q1.2) else (f_X3_at (2 + 1) 8 a0 q1.2).bind (fun q3 => some (q3.1, q3.2))))
def f_X3_wooer (a0 : Int32) (a1 : Int32) (σ : St) : Option (Int32 × St) :=
  (f_X1_isWooer 2 a0 σ).bind (fun q1 => (if ¬ q1.1 = 0 then (if a1 = 0 then (f_X3_at (2 + 2) 5 a0 q1.2).bind (fun q4 => some (q4.1, q4.2)) else (if a1 = 1 then (f_X3_at (2 + 3) 5 a0 q1.2).bind (fun q6 => some (q6.1, q6.2)) else (if a1 = 2 then (f_X3_at (2 + 4) 5 a0 q1.2).bind (fun q8 => some (q8.1, q8.2)) else (if a1 = 3 then (f_X3_at (2 + 5) 5 a0 q1.2).bind (fun q10 => some (q10.1, q10.2)) else (if a1 = 4 then (f_X1_isSpeaker 2 a0 q1.2).bind (fun q12 => (if q12.1 = 0 then some ((0 : Int32), q12.2) else some ((1 : Int32), q12.2))) else some ((-1 : Int32), q1.2)))))) else some ((-1 : Int32), q1.2)))
def f_X3_word (a0 : Int32) (a1 : Int32) (a2 : Int32) (σ : St) : Option (Int32 × St) :=
  (f_X1_isWooer 2 a0 σ).bind (fun q1 => (if q1.1 = 0 then some ((-1 : Int32), q1.2) else (f_X1_isWord 2 a1 q1.2).bind (fun q3 => (if q3.1 = 0 then some ((-1 : Int32), q3.2) else (if a2 < 0 then some ((-1 : Int32), q3.2) else (if a2 ≤ (1 : Int32) then (f_X1_holds 2 a0 a1 q3.2).bind (fun q7 => (if ¬ q7.1 = 0 then (if ¬ a2 = 0 then (f_X1_ageOf 2 a0 a1 q7.2).bind (fun q10 => some (q10.1, q10.2)) else (f_X1_wayOf 2 a0 a1 q7.2).bind (fun q11 => some (q11.1, q11.2))) else some ((-4 : Int32), q7.2))) else some ((-1 : Int32), q3.2)))))))
def f_X3_copyInto (a0 : Option Nat) (σ : St) : Option (Unit × St) :=
  (match a0 with | none => some ((), σ) | some y1 => (f_X1_copy y1 (some 2) σ).bind (fun q2 => some ((), q2.2)))
def f_X3_tableAt (a0 a0L : Nat) (a1 : Int32) (σ : St) : Option (Option Nat × St) :=
  jn (fun (q1 : St) => some (none, q1)) (fun k1 => (if a1 < 0 then k1 σ else (if (nI a0L) ≤ a1 then k1 σ else (if a1 < 0 ∨ a0L ≤ a1.toNatClampNeg then none else some (some (a0 + 1 + 9 * a1.toNatClampNeg), σ)))))
def f_X3_noteAct  (σ : St) : Option (Unit × St) :=
  (f_X3_tableAt 111 8 (σ 208 1) σ).bind (fun q1 => (f_X3_copyInto q1.1 q1.2).bind (fun q2 => nm (w2 q2.2 208 1 (((q2.2 208 1) + (1 : Int32)) - ((q2.2 208 1) + (1 : Int32)) / (8 : Int32) * (8 : Int32))) (fun σ3 => nm (w2 σ3 208 0 (if (8 : Int32) < ((σ3 208 0) + (1 : Int32)) then (8 : Int32) else ((σ3 208 0) + (1 : Int32)))) (fun σ4 => some ((), σ4)))))
def f_X3_lesson (a0 : Int32) (a1 : Int32) (σ : St) : Option (Int32 × St) :=
  (f_X1_isWooer 2 a0 σ).bind (fun q1 => (if q1.1 = 0 then some ((-1 : Int32), q1.2) else (f_X1_isWord 2 a1 q1.2).bind (fun q3 => (if ¬ q3.1 = 0 then (f_X3_noteAct q3.2).bind (fun q5 => (f_X1_teach 2 a0 a1 q5.2).bind (fun q6 => (f_X1_wayOf 2 a0 a1 q6.2).bind (fun q7 => some (q7.1, q7.2)))) else some ((-1 : Int32), q3.2)))))
def f_X3_pass (a0 : Int32) (σ : St) : Option (Int32 × St) :=
  (if a0 < (1 : Int32) then some ((-1 : Int32), σ) else (if a0 ≤ (24 : Int32) then (if ((σ 2 3) + a0) ≤ (999 : Int32) then (f_X3_noteAct σ).bind (fun q4 => (f_X1_spend 2 a0 q4.2).bind (fun q5 => (f_X1_speakers 2 q5.2).bind (fun q6 => some (q6.1, q6.2)))) else some ((-2 : Int32), σ)) else some ((-1 : Int32), σ)))
def f_X3_mend (a0 : Int32) (a1 : Int32) (σ : St) : Option (Int32 × St) :=
  (f_X1_isWooer 2 a0 σ).bind (fun q1 => (if q1.1 = 0 then some ((-1 : Int32), q1.2) else (f_X1_isWord 2 a1 q1.2).bind (fun q3 => (if ¬ q3.1 = 0 then (f_X1_canRepair 2 a0 a1 q3.2).bind (fun q5 => (if ¬ q5.1 = 0 then (f_X1_wayOf 2 a0 a1 q5.2).bind (fun q7 => (f_X3_noteAct q7.2).bind (fun q8 => (f_X1_repair 2 a0 a1 q8.2).bind (fun q9 => some (q7.1, q9.2)))) else some ((-2 : Int32), q5.2))) else some ((-1 : Int32), q3.2)))))
def f_X3_change (a0 : Int32) (a1 : Int32) (σ : St) : Option (Int32 × St) :=
  (f_X1_isWooer 2 a0 σ).bind (fun q1 => (if q1.1 = 0 then some ((-1 : Int32), q1.2) else (f_X1_isWooer 2 a1 q1.2).bind (fun q3 => (if q3.1 = 0 then some ((-1 : Int32), q3.2) else (if ¬ a0 = a1 then (f_X3_noteAct q3.2).bind (fun q6 => (f_X1_swapSeats 2 a0 a1 q6.2).bind (fun q7 => (f_X3_at (2 + 2) 5 a0 q7.2).bind (fun q8 => some (q8.1, q8.2)))) else some ((-1 : Int32), q3.2))))))
def f_X3_undo  (σ : St) : Option (Int32 × St) :=
  (if 0 < (σ 208 0) then nm (w2 σ 208 1 ((((σ 208 1) + (8 : Int32)) - (1 : Int32)) - (((σ 208 1) + (8 : Int32)) - (1 : Int32)) / (8 : Int32) * (8 : Int32))) (fun σ2 => (f_X3_tableAt 111 8 (σ2 208 1) σ2).bind (fun q3 => (f_X1_copy 2 q3.1 q3.2).bind (fun q4 => nm (w2 q4.2 208 0 ((q4.2 208 0) - (1 : Int32))) (fun σ5 => some ((σ5 208 0), σ5))))) else some ((-2 : Int32), σ))
def f_X3_behind (a0 : Int32) (a1 : Int32) (a2 : Int32) (σ : St) : Option (Int32 × St) :=
  (if a0 < 0 then some ((-1 : Int32), σ) else (if (40 : Int32) < a0 then some ((-1 : Int32), σ) else (f_X1_isWooer 2 a1 σ).bind (fun q3 => (if q3.1 = 0 then some ((-1 : Int32), q3.2) else jn (fun (q5 : St) => (f_X1_copy 20 (some 2) q5).bind (fun q9 => (f_X1_spend 20 a0 q9.2).bind (fun q10 => (if ¬ a2 = (-1 : Int32) then (f_X1_holds 20 a1 a2 q10.2).bind (fun q12 => (if q12.1 = 0 then some ((-4 : Int32), q12.2) else (f_X1_wayOf 20 a1 a2 q12.2).bind (fun q14 => some (q14.1, q14.2)))) else (f_X1_rightOf 20 a1 q10.2).bind (fun q15 => some (q15.1, q15.2)))))) (fun k5 => (if a2 = (-1 : Int32) then k5 q3.2 else (f_X1_isWord 2 a2 q3.2).bind (fun q7 => (if ¬ q7.1 = 0 then k5 q7.2 else some ((-1 : Int32), q7.2)))))))))
def f_X3_made (a0 : Int32) (σ : St) : Option (Int32 × St) :=
  (f_X1_isWooer 2 a0 σ).bind (fun q1 => (if ¬ q1.1 = 0 then (f_X1_copy 20 (some 2) q1.2).bind (fun q3 => lp (fun (r4 : Int32 × St → Option _) (b4 : Int32 × St) => (if (60 : Int32) < b4.1 then some ((-4 : Int32), b4.2) else (f_X1_isSpeaker 20 a0 b4.2).bind (fun q6 => (if q6.1 = 0 then (f_X1_spendDay 20 (1 : Int32) q6.2).bind (fun q8 => nm (b4.1 + (1 : Int32)) (fun x9 => r4 (x9, q8.2))) else some (b4.1, q6.2))))) FU ((0 : Int32), q3.2)) else some ((-1 : Int32), q1.2)))
def f_X3_bestFrom : Nat → Nat → Nat → Int32 → Int32 → Int32 → Int32 → St → Option (Int32 × St)
  | 0, _, _, _, _, _, _, _ => none
  | fu + 1, a0, a0L, a1, a2, a3, a4, σ =>
    (f_X3_tableAt a0 a0L a1 σ).bind (fun q1 => (match q1.1 with | none => some ((0 : Int32), q1.2) | some y2 => (if a1 < a2 then (f_X3_tableAt a0 a0L (a1 + (1 : Int32)) q1.2).bind (fun q4 => (match q4.1 with | none => some ((0 : Int32), q4.2) | some y5 => lp (fun (r6 : Int32 × Int32 × St → Option _) (b6 : Int32 × Int32 × St) => (if (b6.2.2 y2 0) ≤ b6.2.1 then some (b6.1, b6.2.2) else (f_X1_copy y5 (some y2) b6.2.2).bind (fun q8 => (f_X1_teach y5 a3 b6.2.1 q8.2).bind (fun q9 => (f_X1_spendDay y5 (1 : Int32) q9.2).bind (fun q10 => (f_X3_bestFrom fu a0 a0L (a1 + (1 : Int32)) a2 a3 (((8 : Int32) * a4) + b6.2.1) q10.2).bind (fun q11 => nm ((if b6.1 < q11.1 then q11.1 else b6.1)) (fun x12 => nm (b6.2.1 + (1 : Int32)) (fun x13 => r6 (x12, x13, q11.2))))))))) FU ((0 : Int32), (0 : Int32), q4.2))) else (f_X1_rightOf y2 a3 q1.2).bind (fun q14 => some ((((((512 : Int32) * q14.1) + (512 : Int32)) - (1 : Int32)) - a4), q14.2)))))
def f_X3_startLevels  (σ : St) : Option (Unit × St) :=
  (f_X3_tableAt 29 9 (0 : Int32) σ).bind (fun q1 => (f_X3_copyInto q1.1 q1.2).bind (fun q2 => some ((), q2.2)))
def f_X3_best (a0 : Int32) (a1 : Int32) (a2 : Int32) (σ : St) : Option (Int32 × St) :=
  (f_X1_isWooer 2 a0 σ).bind (fun q1 => (if q1.1 = 0 then some ((-1 : Int32), q1.2) else (if a1 < (1 : Int32) then some ((-1 : Int32), q1.2) else (if (3 : Int32) < a1 then some ((-1 : Int32), q1.2) else (if a2 < (-1 : Int32) then some ((-1 : Int32), q1.2) else (if a2 ≤ (2 : Int32) then (if a2 < a1 then (f_X3_startLevels q1.2).bind (fun q8 => (f_X3_bestFrom FR 29 9 (0 : Int32) a1 a0 (0 : Int32) q8.2).bind (fun q9 => (if ¬ a2 = (-1 : Int32) then nm (((511 : Int32) - (q9.1 - q9.1 / (512 : Int32) * (512 : Int32)))) (fun x11 => some (((x11 >>> (((3 : Int32) * ((a1 - (1 : Int32)) - a2)) &&& 31)) &&& (7 : Int32)), q9.2)) else some ((q9.1 / (512 : Int32)), q9.2)))) else some ((-4 : Int32), q1.2)) else some ((-1 : Int32), q1.2)))))))
def f_X3_rightOnceMended (a0 : Int32) (a1 : Int32) (σ : St) : Option (Int32 × St) :=
  (f_X1_copy 20 (some 2) σ).bind (fun q1 => (f_X1_repair 20 a0 a1 q1.2).bind (fun q2 => (f_X1_spend 20 (5 : Int32) q2.2).bind (fun q3 => (f_X1_allRight 20 q3.2).bind (fun q4 => some (q4.1, q4.2)))))
def f_X3_mends (a0 : Int32) (σ : St) : Option (Int32 × St) :=
  (if a0 < 0 then some ((-1 : Int32), σ) else (if a0 ≤ (1 : Int32) then lp (fun (r3 : Int32 × Int32 × Int32 × St → Option _) (b3 : Int32 × Int32 × Int32 × St) => (if (b3.2.2.2 2 1) ≤ b3.2.2.1 then (if ¬ a0 = 0 then some (b3.2.1, b3.2.2.2) else some (b3.1, b3.2.2.2)) else lp (fun (r6 : Int32 × Int32 × Int32 × St → Option _) (b6 : Int32 × Int32 × Int32 × St) => (if (b6.2.2.2 2 0) ≤ b6.2.2.1 then nm (b3.2.2.1 + (1 : Int32)) (fun x8 => r3 (b6.1, b6.2.1, x8, b6.2.2.2)) else (f_X1_canRepair 2 b3.2.2.1 b6.2.2.1 b6.2.2.2).bind (fun q9 => jn (fun (q10 : Int32 × St) => jn (fun (q13 : Int32 × Int32 × St) => nm (b6.2.2.1 + (1 : Int32)) (fun x16 => r6 (q13.1, q13.2.1, x16, q13.2.2))) (fun k13 => (if q10.1 ≤ b6.2.1 then k13 (b6.1, b6.2.1, q10.2) else nm ((((10 : Int32) * b3.2.2.1) + b6.2.2.1)) (fun x15 => k13 (x15, q10.1, q10.2))))) (fun k10 => (if q9.1 = 0 then k10 ((-4 : Int32), q9.2) else (f_X3_rightOnceMended b3.2.2.1 b6.2.2.1 q9.2).bind (fun q12 => k10 (q12.1, q12.2))))))) FU (b3.1, b3.2.1, (0 : Int32), b3.2.2.2))) FU ((-4 : Int32), (-4 : Int32), (0 : Int32), σ) else some ((-1 : Int32), σ)))
def f_X3_two (a0 : Int32) (σ : St) : Option (Int32 × St) :=
  (if a0 < 0 then some ((-1 : Int32), σ) else (if a0 ≤ (1 : Int32) then lp (fun (r3 : Int32 × Int32 × Int32 × St → Option _) (b3 : Int32 × Int32 × Int32 × St) => (if (b3.2.2.2 2 1) ≤ b3.2.2.1 then (if ¬ a0 = 0 then some (b3.2.1, b3.2.2.2) else some (b3.1, b3.2.2.2)) else nm ((b3.2.2.1 + (1 : Int32))) (fun x6 => lp (fun (r7 : Int32 × Int32 × Int32 × St → Option _) (b7 : Int32 × Int32 × Int32 × St) => (if (b7.2.2.2 2 1) ≤ b7.2.2.1 then nm (b3.2.2.1 + (1 : Int32)) (fun x9 => r3 (b7.1, b7.2.1, x9, b7.2.2.2)) else (f_X3_at (2 + 5) 5 b3.2.2.1 b7.2.2.2).bind (fun q10 => (f_X3_at (2 + 5) 5 b7.2.2.1 q10.2).bind (fun q11 => (f_J6_bitCount_0f7a4 (q10.1 ||| q11.1) q11.2).bind (fun q12 => jn (fun (q13 : Int32 × Int32 × St) => nm (b7.2.2.1 + (1 : Int32)) (fun x16 => r7 (q13.1, q13.2.1, x16, q13.2.2))) (fun k13 => (if q12.1 ≤ b7.2.1 then k13 (b7.1, b7.2.1, q12.2) else nm ((((10 : Int32) * b3.2.2.1) + b7.2.2.1)) (fun x15 => k13 (x15, q12.1, q12.2))))))))) FU (b3.1, b3.2.1, x6, b3.2.2.2)))) FU ((-4 : Int32), (-4 : Int32), (0 : Int32), σ) else some ((-1 : Int32), σ)))
def f_X3_comparePairs  (σ : St) : Option (Int32 × St) :=
  lp (fun (r1 : Int32 × Int32 × St → Option _) (b1 : Int32 × Int32 × St) => (if (b1.2.2 2 1) ≤ b1.2.1 then some (b1.1, b1.2.2) else nm ((b1.2.1 + (1 : Int32))) (fun x3 => lp (fun (r4 : Int32 × Int32 × St → Option _) (b4 : Int32 × Int32 × St) => (if (b4.2.2 2 1) ≤ b4.2.1 then nm (b1.2.1 + (1 : Int32)) (fun x6 => r1 (b4.1, x6, b4.2.2)) else (f_X1_differing 2 b1.2.1 b4.2.1 b4.2.2).bind (fun q7 => (f_X3_put 207 10 b4.1 q7.1 q7.2).bind (fun q8 => nm (b4.1 + (1 : Int32)) (fun x9 => nm (b4.2.1 + (1 : Int32)) (fun x10 => r4 (x9, x10, q8.2))))))) FU (b1.1, x3, b1.2.2)))) FU ((0 : Int32), (0 : Int32), σ)
def f_X3_partsAll (a0 : Int32) (a1 : Int32) (σ : St) : Option (Int32 × St) :=
  lp (fun (r1 : Int32 × St → Option _) (b1 : Int32 × St) => (if a1 ≤ b1.1 then some ((1 : Int32), b1.2) else (f_X3_at 207 10 b1.1 b1.2).bind (fun q3 => (if ¬ (q3.1 &&& a0) = 0 then nm (b1.1 + (1 : Int32)) (fun x5 => r1 (x5, q3.2)) else some ((0 : Int32), q3.2))))) FU ((0 : Int32), σ)
def f_X3_tests (a0 : Int32) (σ : St) : Option (Int32 × St) :=
  (if a0 < 0 then some ((-1 : Int32), σ) else (if a0 ≤ (1 : Int32) then (f_X3_comparePairs σ).bind (fun q3 => lp (fun (r4 : Int32 × Int32 × Int32 × St → Option _) (b4 : Int32 × Int32 × Int32 × St) => (if ((1 : Int32) <<< ((b4.2.2.2 2 0) &&& 31)) ≤ b4.2.2.1 then (if ¬ a0 = 0 then some (b4.2.1, b4.2.2.2) else some (b4.1, b4.2.2.2)) else (f_J6_bitCount_0f7a4 b4.2.2.1 b4.2.2.2).bind (fun q7 => jn (fun (q8 : Int32 × Int32 × St) => nm (b4.2.2.1 + (1 : Int32)) (fun x14 => r4 (q8.1, q8.2.1, x14, q8.2.2))) (fun k8 => jn (fun (q9 : Int32 × St) => (f_X3_partsAll q9.1 q3.1 q9.2).bind (fun q12 => (if q12.1 = 0 then k8 (b4.1, b4.2.1, q12.2) else k8 (q7.1, q9.1, q12.2)))) (fun k9 => (if b4.1 = (-4 : Int32) then k9 (b4.2.2.1, q7.2) else (if b4.1 ≤ q7.1 then k8 (b4.1, b4.2.1, q7.2) else k9 (b4.2.2.1, q7.2)))))))) FU ((-4 : Int32), (-4 : Int32), (0 : Int32), q3.2)) else some ((-1 : Int32), σ)))
def f_X3_other  (σ : St) : Option (Int32 × St) :=
  lp (fun (r1 : Int32 × Int32 × St → Option _) (b1 : Int32 × Int32 × St) => (if (b1.2.2 2 0) ≤ b1.2.1 then some (b1.1, b1.2.2) else (f_X1_isAnother 2 b1.2.1 b1.2.2).bind (fun q3 => jn (fun (q4 : Int32 × St) => nm (b1.2.1 + (1 : Int32)) (fun x7 => r1 (q4.1, x7, q4.2))) (fun k4 => (if q3.1 = 0 then k4 (b1.1, q3.2) else nm ((b1.1 ||| ((1 : Int32) <<< (b1.2.1 &&& 31)))) (fun x6 => k4 (x6, q3.2))))))) FU ((0 : Int32), (0 : Int32), σ)
def f_X3_hear (a0 : Int32) (a1 : Int32) (a2 : Int32) (σ : St) : Option (Int32 × St) :=
  (f_X1_isWord 2 a0 σ).bind (fun q1 => (if q1.1 = 0 then some ((-1 : Int32), q1.2) else (if a1 < 0 then some ((-1 : Int32), q1.2) else (if (10 : Int32) < a1 then some ((-1 : Int32), q1.2) else (if a2 < 0 then some ((-1 : Int32), q1.2) else (if a2 ≤ (20 : Int32) then (f_X0_add a0 a1 a2 q1.2).bind (fun q7 => (if q7.1 = 0 then some ((-3 : Int32), q7.2) else some ((q7.2 203 0), q7.2))) else some ((-1 : Int32), q1.2)))))))
def f_X3_forget  (σ : St) : Option (Int32 × St) :=
  nm ((σ 203 0)) (fun x1 => nm (w2 σ 203 0 (0 : Int32)) (fun σ2 => some (x1, σ2)))
def f_X3_which  (σ : St) : Option (Int32 × St) :=
  (f_X1_copy 20 (some 2) σ).bind (fun q1 => (f_X0_fitting 20 q1.2).bind (fun q2 => some (q2.1, q2.2)))
def f_X3_kinds (a0 : Int32) (σ : St) : Option (Int32 × St) :=
  (f_X1_isWooer 2 a0 σ).bind (fun q1 => (if ¬ q1.1 = 0 then lp (fun (r3 : Int32 × Int32 × St → Option _) (b3 : Int32 × Int32 × St) => (if (3 : Int32) < b3.2.1 then some (b3.1, b3.2.2) else (f_X1_copy 20 (some 2) b3.2.2).bind (fun q5 => (f_X3_put (20 + 2) 5 a0 b3.2.1 q5.2).bind (fun q6 => (f_X0_fitting 20 q6.2).bind (fun q7 => jn (fun (q8 : Int32 × St) => nm (b3.2.1 + (1 : Int32)) (fun x11 => r3 (q8.1, x11, q8.2))) (fun k8 => (if ¬ ((q7.1 >>> (a0 &&& 31)) &&& (1 : Int32)) = (1 : Int32) then k8 (b3.1, q7.2) else nm ((b3.1 ||| ((1 : Int32) <<< (b3.2.1 &&& 31)))) (fun x10 => k8 (x10, q7.2))))))))) FU ((0 : Int32), (0 : Int32), q1.2) else some ((-1 : Int32), q1.2)))
def f_X3_commonPart (a0 : Int32) (a1 : Int32) (σ : St) : Option (Int32 × St) :=
  lp (fun (r1 : Int32 × Int32 × Int32 × St → Option _) (b1 : Int32 × Int32 × Int32 × St) => (if (100 : Int32) ≤ b1.2.2.1 then some (b1.1, b1.2.2.2) else (if b1.2.1 = 0 then some (b1.1, b1.2.2.2) else (if b1.2.1 = 0 then none else nm ((b1.1 - b1.1 / b1.2.1 * b1.2.1)) (fun x5 => nm (b1.2.2.1 + (1 : Int32)) (fun x6 => r1 (b1.2.1, x5, x6, b1.2.2.2))))))) FU (a0, a1, (0 : Int32), σ)
def f_X3_hailFrom : Nat → Nat → Nat → Int32 → Int32 → Int32 → Int32 → St → Option (Int32 × St)
  | 0, _, _, _, _, _, _, _ => none
  | fu + 1, a0, a0L, a1, a2, a3, a4, σ =>
    (f_X3_tableAt a0 a0L a1 σ).bind (fun q1 => (match q1.1 with | none => some ((0 : Int32), q1.2) | some y2 => (if a1 < a2 then (f_X3_tableAt a0 a0L (a1 + (1 : Int32)) q1.2).bind (fun q4 => (match q4.1 with | none => some ((0 : Int32), q4.2) | some y5 => jn (fun (q6 : Int32 × St) => (if (10 : Int32) ≤ a4 then some (q6.1, q6.2) else (f_X1_copy y5 (some y2) q6.2).bind (fun q13 => (f_X1_spendDay y5 (1 : Int32) q13.2).bind (fun q14 => (f_X3_hailFrom fu a0 a0L (a1 + (1 : Int32)) a2 a3 a4 q14.2).bind (fun q15 => nm ((q6.1 + (((10 : Int32) - a4) * q15.1))) (fun x16 => some (x16, q15.2))))))) (fun k6 => (if a4 ≤ 0 then k6 ((0 : Int32), q4.2) else (f_X1_copy y5 (some y2) q4.2).bind (fun q8 => (f_X1_spendDay y5 (0 : Int32) q8.2).bind (fun q9 => (f_X3_hailFrom fu a0 a0L (a1 + (1 : Int32)) a2 a3 a4 q9.2).bind (fun q10 => nm (((0 : Int32) + (a4 * q10.1))) (fun x11 => k6 (x11, q10.2))))))))) else (f_X1_isSpeaker y2 a3 q1.2).bind (fun q17 => (if q17.1 = 0 then some ((0 : Int32), q17.2) else some ((1 : Int32), q17.2))))))
def f_X3_hail (a0 : Int32) (a1 : Int32) (a2 : Int32) (a3 : Int32) (σ : St) : Option (Int32 × St) :=
  (f_X1_isWooer 2 a0 σ).bind (fun q1 => (if q1.1 = 0 then some ((-1 : Int32), q1.2) else (if a1 < 0 then some ((-1 : Int32), q1.2) else (if (8 : Int32) < a1 then some ((-1 : Int32), q1.2) else (if a2 < 0 then some ((-1 : Int32), q1.2) else (if (10 : Int32) < a2 then some ((-1 : Int32), q1.2) else (if a3 < 0 then some ((-1 : Int32), q1.2) else (if a3 ≤ (1 : Int32) then (f_X3_startLevels q1.2).bind (fun q9 => (f_X3_hailFrom FR 29 9 (0 : Int32) a1 a0 a2 q9.2).bind (fun q10 => lp (fun (r11 : Int32 × Int32 × St → Option _) (b11 : Int32 × Int32 × St) => (if a1 ≤ b11.2.1 then (f_X3_commonPart b11.1 q10.1 b11.2.2).bind (fun q13 => (if ¬ q13.1 = 0 then (if ¬ a3 = 0 then (if q13.1 = 0 then none else some ((b11.1 / q13.1), q13.2)) else (if q13.1 = 0 then none else some ((q10.1 / q13.1), q13.2))) else some ((-1 : Int32), q13.2))) else nm ((b11.1 * (10 : Int32))) (fun x18 => nm (b11.2.1 + (1 : Int32)) (fun x19 => r11 (x18, x19, b11.2.2))))) FU ((1 : Int32), (0 : Int32), q10.2))) else some ((-1 : Int32), q1.2)))))))))
def f_X3_draw (a0 : Int32) (a1 : Int32) (σ : St) : Option (Int32 × St) :=
  nm (((((7919 : Int64) * a0.toInt64) + ((6151 : Int64) * a1.toInt64)) + (1 : Int64))) (fun x1 => some (((x1 * x1) - (x1 * x1) / (65521 : Int64) * (65521 : Int64)).toInt32, σ))
def f_X3_year (a0 : Int32) (a1 : Int32) (a2 : Int32) (σ : St) : Option (Int32 × St) :=
  (if a0 < 0 then some ((-1 : Int32), σ) else (if (9999 : Int32) < a0 then some ((-1 : Int32), σ) else (if a1 < (1 : Int32) then some ((-1 : Int32), σ) else (if (60 : Int32) < a1 then some ((-1 : Int32), σ) else (if a2 < 0 then some ((-1 : Int32), σ) else (if a2 ≤ (1 : Int32) then (f_X1_copy 20 (some 2) σ).bind (fun q7 => lp (fun (r8 : Int32 × St → Option _) (b8 : Int32 × St) => (if a1 ≤ b8.1 then (if ¬ a2 = 0 then (f_X1_allRight 20 b8.2).bind (fun q11 => some (q11.1, q11.2)) else (f_X1_speakers 20 b8.2).bind (fun q12 => some (q12.1, q12.2))) else (f_X3_draw a0 b8.1 b8.2).bind (fun q13 => (f_X1_befall 20 q13.1 q13.2).bind (fun q14 => (f_X1_spendDay 20 (1 : Int32) q14.2).bind (fun q15 => nm (b8.1 + (1 : Int32)) (fun x16 => r8 (x16, q15.2))))))) FU ((0 : Int32), q7.2)) else some ((-1 : Int32), σ)))))))
def f_X3_keep  (σ : St) : Option (Int32 × St) :=
  (if (σ 208 2) < (2 : Int32) then (f_X3_tableAt 184 2 (σ 208 2) σ).bind (fun q2 => (f_X3_copyInto q2.1 q2.2).bind (fun q3 => nm (w2 q3.2 208 2 ((q3.2 208 2) + (1 : Int32))) (fun σ4 => some ((σ4 208 2), σ4)))) else some ((-3 : Int32), σ))
def f_X3_back  (σ : St) : Option (Int32 × St) :=
  (if 0 < (σ 208 2) then nm (w2 σ 208 2 ((σ 208 2) - (1 : Int32))) (fun σ2 => (f_X3_tableAt 184 2 (σ2 208 2) σ2).bind (fun q3 => (f_X1_copy 2 q3.1 q3.2).bind (fun q4 => nm (w2 q4.2 208 0 (0 : Int32)) (fun σ5 => some ((σ5 208 2), σ5))))) else some ((-2 : Int32), σ))
def f_X3_count (a0 : Int32) (σ : St) : Option (Int32 × St) :=
  (if a0 = 0 then some ((σ 2 0), σ) else (if a0 = 1 then some ((σ 2 1), σ) else (if a0 = 2 then some ((σ 2 2), σ) else (if a0 = 3 then some ((σ 2 3), σ) else (if a0 = 4 then (f_X1_speakers 2 σ).bind (fun q6 => some (q6.1, q6.2)) else (if a0 = 5 then (f_X1_allRight 2 σ).bind (fun q8 => some (q8.1, q8.2)) else (if a0 = 6 then (f_X1_allHad 2 σ).bind (fun q10 => some (q10.1, q10.2)) else (if a0 = 7 then some ((σ 203 0), σ) else (if a0 = 8 then some ((σ 208 0), σ) else (if a0 = 9 then some ((σ 208 2), σ) else (if a0 = 10 then some ((σ 0 0), σ) else some ((-1 : Int32), σ))))))))))))
def f_X4_in (a0 : Int64) (a1 : Int64) (a2 : Int64) (σ : St) : Option (Int32 × St) :=
  jn (fun (q1 : St) => some ((0 : Int32), q1)) (fun k1 => (if (lg_cmp a0 a1) < 0 then k1 σ else (if 0 < (lg_cmp a0 a2) then k1 σ else some ((1 : Int32), σ))))
def f_X4_smaller (a0 : Int32) (a1 : Int32) (σ : St) : Option (Int32 × St) :=
  (if a1 ≤ a0 then some (a1, σ) else some (a0, σ))
def f_X4_larger (a0 : Int32) (a1 : Int32) (σ : St) : Option (Int32 × St) :=
  (if a1 ≤ a0 then some (a0, σ) else some (a1, σ))
def f_X4_bits (a0 : Int32) (σ : St) : Option (Int32 × St) :=
  lp (fun (r1 : Int32 × Int32 × St → Option _) (b1 : Int32 × Int32 × St) => (if (8 : Int32) ≤ b1.2.1 then some (b1.1, b1.2.2) else nm ((b1.1 + ((a0 >>> (b1.2.1 &&& 31)) &&& (1 : Int32)))) (fun x3 => nm (b1.2.1 + (1 : Int32)) (fun x4 => r1 (x3, x4, b1.2.2))))) FU ((0 : Int32), (0 : Int32), σ)
def f_X4_clears  (σ : St) : Option (Unit × St) :=
  nm (w2 σ 0 3 (0 : Int32)) (fun σ1 => nm (w2 σ1 0 4 (0 : Int32)) (fun σ2 => nm (w2 σ2 0 5 (3 : Int32)) (fun σ3 => lp (fun (r4 : Int32 × St → Option _) (b4 : Int32 × St) => (if (91 : Int32) ≤ b4.1 then some ((), b4.2) else jn (fun (q6 : Int32 × St) => (if ((1001 : Int32) + b4.1) < 0 ∨ 1092 ≤ ((1001 : Int32) + b4.1).toNatClampNeg then none else nm (w2 q6.2 3 ((1001 : Int32) + b4.1).toNatClampNeg q6.1) (fun σ12 => nm (b4.1 + (1 : Int32)) (fun x13 => r4 (x13, σ12))))) (fun k6 => jn (fun (q7 : Int32 × St) => k6 ((0 : Int32), q7.2)) (fun k7 => (if (90 : Int32) ≤ b4.1 then k7 (b4.1, b4.2) else (if (b4.1 - b4.1 / (18 : Int32) * (18 : Int32)) < (2 : Int32) then k7 (b4.1, b4.2) else (if (10 : Int32) ≤ (b4.1 - b4.1 / (18 : Int32) * (18 : Int32)) then k7 (b4.1, b4.2) else k6 ((-1 : Int32), b4.2)))))))) FU ((0 : Int32), σ3))))
def f_X4_sits (a0 : Int32) (a1 : Int32) (σ : St) : Option (Unit × St) :=
  (if ((1001 : Int32) + ((18 : Int32) * (σ 0 4))) < 0 ∨ 1092 ≤ ((1001 : Int32) + ((18 : Int32) * (σ 0 4))).toNatClampNeg then none else nm (w2 σ 3 ((1001 : Int32) + ((18 : Int32) * (σ 0 4))).toNatClampNeg a0) (fun σ2 => (if (((1001 : Int32) + ((18 : Int32) * (σ2 0 4))) + (1 : Int32)) < 0 ∨ 1092 ≤ (((1001 : Int32) + ((18 : Int32) * (σ2 0 4))) + (1 : Int32)).toNatClampNeg then none else nm (w2 σ2 3 (((1001 : Int32) + ((18 : Int32) * (σ2 0 4))) + (1 : Int32)).toNatClampNeg a1) (fun σ4 => nm (w2 σ4 0 4 ((σ4 0 4) + (1 : Int32))) (fun σ5 => some ((), σ5))))))
def f_X4_has (a0 : Int32) (a1 : Int32) (σ : St) : Option (Unit × St) :=
  (if ((((1001 : Int32) + ((18 : Int32) * ((σ 0 4) - (1 : Int32)))) + (2 : Int32)) + a0) < 0 ∨ 1092 ≤ ((((1001 : Int32) + ((18 : Int32) * ((σ 0 4) - (1 : Int32)))) + (2 : Int32)) + a0).toNatClampNeg then none else nm (w2 σ 3 ((((1001 : Int32) + ((18 : Int32) * ((σ 0 4) - (1 : Int32)))) + (2 : Int32)) + a0).toNatClampNeg a1) (fun σ2 => some ((), σ2)))
def f_X4_copies (a0 : Int32) (a1 : Int32) (σ : St) : Option (Unit × St) :=
  lp (fun (r1 : Int32 × St → Option _) (b1 : Int32 × St) => (if (91 : Int32) ≤ b1.1 then some ((), b1.2) else (if (a0 + b1.1) < 0 ∨ 1092 ≤ (a0 + b1.1).toNatClampNeg then none else (if (a1 + b1.1) < 0 ∨ 1092 ≤ (a1 + b1.1).toNatClampNeg then none else nm (w2 b1.2 3 (a1 + b1.1).toNatClampNeg (b1.2 3 (a0 + b1.1).toNatClampNeg)) (fun σ5 => nm (b1.1 + (1 : Int32)) (fun x6 => r1 (x6, σ5))))))) FU ((0 : Int32), σ)
def f_X4_settles  (σ : St) : Option (Unit × St) :=
  nm (w2 σ 0 0 (σ 0 3)) (fun σ1 => nm (w2 σ1 0 1 (σ1 0 4)) (fun σ2 => nm (w2 σ2 0 2 (σ2 0 5)) (fun σ3 => lp (fun (r4 : Int32 × St → Option _) (b4 : Int32 × St) => (if (8 : Int32) ≤ b4.1 then (f_X4_copies (1001 : Int32) (0 : Int32) b4.2).bind (fun q6 => some ((), q6.2)) else (if b4.1 < 0 ∨ 8 ≤ b4.1.toNatClampNeg then none else (if b4.1 < 0 ∨ 8 ≤ b4.1.toNatClampNeg then none else nm (w2 b4.2 1 b4.1.toNatClampNeg (b4.2 2 b4.1.toNatClampNeg)) (fun σ9 => nm (b4.1 + (1 : Int32)) (fun x10 => r4 (x10, σ9))))))) FU ((0 : Int32), σ3))))
def f_X4_isWord (a0 : Int32) (σ : St) : Option (Int32 × St) :=
  (f_X4_in a0.toInt64 (0 : Int64) ((σ 0 0) - (1 : Int32)).toInt64 σ).bind (fun q1 => (if ¬ (q1.1 = 0 ∨ q1.1 = 1) then none else some (q1.1, q1.2)))
def f_X4_isOne (a0 : Int32) (σ : St) : Option (Int32 × St) :=
  (f_X4_in a0.toInt64 (0 : Int64) ((σ 0 1) - (1 : Int32)).toInt64 σ).bind (fun q1 => (if ¬ (q1.1 = 0 ∨ q1.1 = 1) then none else some (q1.1, q1.2)))
def f_X4_write (a0 : Int32) (σ : St) : Option (Int32 × St) :=
  (f_X4_in a0.toInt64 (32 : Int64) (126 : Int64) σ).bind (fun q1 => (if ¬ q1.1 = 0 then (if ¬ (q1.2 0 8) = (200 : Int32) then (if (q1.2 0 8) < 0 ∨ 200 ≤ (q1.2 0 8).toNatClampNeg then none else nm (w2 q1.2 4 (q1.2 0 8).toNatClampNeg a0.toInt8.toInt32.toInt8.toInt32) (fun σ5 => nm (w2 σ5 0 8 ((σ5 0 8) + (1 : Int32))) (fun σ6 => some ((σ6 0 8), σ6)))) else some ((-3 : Int32), q1.2)) else some ((-1 : Int32), q1.2)))
def f_X4_wipe  (σ : St) : Option (Int32 × St) :=
  nm ((σ 0 8)) (fun x1 => nm (w2 σ 0 8 (0 : Int32)) (fun σ2 => some (x1, σ2)))
def f_X4_next  (σ : St) : Option (Int32 × St) :=
  (if (σ 0 8) ≤ (σ 0 9) then some ((-1 : Int32), σ) else (if (σ 0 9) < 0 ∨ 200 ≤ (σ 0 9).toNatClampNeg then none else some ((σ 4 (σ 0 9).toNatClampNeg), σ)))
def f_X4_number (a0 : Int32) (a1 : Int32) (σ : St) : Option (Int32 × St) :=
  lp (fun (r1 : Int32 × Int32 × St → Option _) (b1 : Int32 × Int32 × St) => (f_X4_next b1.2.2).bind (fun q2 => (f_X4_in q2.1.toInt64 (48 : Int64) (57 : Int64) q2.2).bind (fun q3 => jn (fun (q4 : Int32 × Int32 × St) => jn (fun (q11 : Int32 × St) => (if ¬ (q11.1 = 0 ∨ q11.1 = 1) then none else nm (w2 q11.2 0 11 q11.1) (fun σ18 => (if (σ18 0 11) = 0 then some (q4.1, σ18) else some ((0 : Int32), σ18))))) (fun k11 => jn (fun (q12 : St) => k11 ((1 : Int32), q12)) (fun k12 => (if ¬ (q4.2.2 0 11) = 0 then k12 q4.2.2 else (if q4.2.1 = 0 then k12 q4.2.2 else (if (2 : Int32) < q4.2.1 then k12 q4.2.2 else (f_X4_in q4.1.toInt64 a0.toInt64 a1.toInt64 q4.2.2).bind (fun q16 => (if ¬ q16.1 = 0 then k11 ((0 : Int32), q16.2) else k12 q16.2)))))))) (fun k4 => (if q3.1 = 0 then k4 (b1.1, b1.2.1, q3.2) else (if (3 : Int32) ≤ b1.2.1 then k4 (b1.1, b1.2.1, q3.2) else (f_X4_next q3.2).bind (fun q7 => nm (((((10 : Int32) * b1.1) + q7.1) - (48 : Int32))) (fun x8 => nm (b1.2.1 + (1 : Int32)) (fun x9 => nm (w2 q7.2 0 9 ((q7.2 0 9) + (1 : Int32))) (fun σ10 => r1 (x8, x9, σ10))))))))))) FU ((0 : Int32), (0 : Int32), σ)
def f_X4_more (a0 : Int32) (a1 : Int32) (σ : St) : Option (Int32 × St) :=
  jn (fun (q1 : Int32 × St) => (if ¬ (q1.1 = 0 ∨ q1.1 = 1) then none else nm (w2 q1.2 0 11 q1.1) (fun σ6 => nm (w2 σ6 0 9 ((σ6 0 9) + (1 : Int32))) (fun σ7 => (if (σ7 0 11) = 0 then (f_X4_number a0 a1 σ7).bind (fun q9 => some (q9.1, q9.2)) else some ((0 : Int32), σ7)))))) (fun k1 => jn (fun (q2 : St) => k1 ((1 : Int32), q2)) (fun k2 => (if ¬ (σ 0 11) = 0 then k2 σ else (f_X4_next σ).bind (fun q4 => (if q4.1 = (44 : Int32) then k1 ((0 : Int32), q4.2) else k2 q4.2)))))
def f_X4_tongueItem  (σ : St) : Option (Unit × St) :=
  lp (fun (r1 : Int32 × St → Option _) (b1 : Int32 × St) => (f_X4_next b1.2).bind (fun q2 => (f_X4_in q2.1.toInt64 (48 : Int64) (57 : Int64) q2.2).bind (fun q3 => jn (fun (q4 : Int32 × St) => (f_X4_in q4.1.toInt64 (1 : Int64) (8 : Int64) q4.2).bind (fun q13 => jn (fun (q14 : Int32 × St) => (if ¬ (q14.1 = 0 ∨ q14.1 = 1) then none else nm (w2 q14.2 0 11 q14.1) (fun σ16 => nm (w2 σ16 0 3 q4.1) (fun σ17 => some ((), σ17))))) (fun k14 => (if ¬ q13.1 = 0 then k14 ((0 : Int32), q13.2) else k14 ((1 : Int32), q13.2))))) (fun k4 => (if q3.1 = 0 then k4 (b1.1, q3.2) else (if (9 : Int32) ≤ b1.1 then k4 (b1.1, q3.2) else (f_X4_smaller (7 : Int32) b1.1 q3.2).bind (fun q7 => (f_X4_next q7.2).bind (fun q8 => (if q7.1 < 0 ∨ 8 ≤ q7.1.toNatClampNeg then none else nm (w2 q8.2 2 q7.1.toNatClampNeg (q8.1 - (48 : Int32))) (fun σ10 => nm (b1.1 + (1 : Int32)) (fun x11 => nm (w2 σ10 0 9 ((σ10 0 9) + (1 : Int32))) (fun σ12 => r1 (x11, σ12))))))))))))) FU ((0 : Int32), σ)
def f_X4_wooerItem  (σ : St) : Option (Unit × St) :=
  jn (fun (q1 : Int32 × St) => (if ¬ (q1.1 = 0 ∨ q1.1 = 1) then none else nm (w2 q1.2 0 11 q1.1) (fun σ5 => jn (fun (q6 : Int32 × St) => (f_X4_more (1 : Int32) (30 : Int32) q6.2).bind (fun q9 => jn (fun (q10 : Int32 × St) => (if ¬ (q10.1 = 0 ∨ q10.1 = 1) then none else nm (w2 q10.2 0 11 q10.1) (fun σ15 => nm (w2 σ15 0 9 ((σ15 0 9) + (1 : Int32))) (fun σ16 => (if ¬ (σ16 0 11) = 0 then some ((), σ16) else (f_X4_sits q6.1 q9.1 σ16).bind (fun q18 => lp (fun (r19 : Int32 × St → Option _) (b19 : Int32 × St) => (if (b19.2 0 3) ≤ b19.1 then some ((), b19.2) else jn (fun (q21 : Int32 × St) => (if ¬ (q21.1 = 0 ∨ q21.1 = 1) then none else nm (w2 q21.2 0 11 q21.1) (fun σ30 => jn (fun (q31 : Int32 × St) => (f_X4_has b19.1 q31.1 q31.2).bind (fun q37 => nm (w2 q37.2 0 9 ((q37.2 0 9) + (1 : Int32))) (fun σ38 => nm (b19.1 + (1 : Int32)) (fun x39 => r19 (x39, σ38))))) (fun k31 => jn (fun (q32 : Int32 × St) => k31 ((-1 : Int32), q32.2)) (fun k32 => (if ¬ (σ30 0 11) = 0 then k32 (b19.1, σ30) else (f_X4_next σ30).bind (fun q34 => (if ¬ q34.1 = (45 : Int32) then (f_X4_next q34.2).bind (fun q36 => k31 ((q36.1 - (48 : Int32)), q36.2)) else k32 (b19.1, q34.2))))))))) (fun k21 => jn (fun (q22 : Int32 × St) => k21 ((1 : Int32), q22.2)) (fun k22 => (if ¬ (b19.2 0 11) = 0 then k22 (b19.1, b19.2) else (f_X4_next b19.2).bind (fun q24 => jn (fun (q25 : St) => k21 ((0 : Int32), q25)) (fun k25 => (if q24.1 = (45 : Int32) then k25 q24.2 else (f_X4_next q24.2).bind (fun q27 => (f_X4_in q27.1.toInt64 (48 : Int64) (57 : Int64) q27.2).bind (fun q28 => (if ¬ q28.1 = 0 then k25 q28.2 else k22 (b19.1, q28.2)))))))))))) FU ((0 : Int32), q18.2))))))) (fun k10 => jn (fun (q11 : St) => k10 ((1 : Int32), q11)) (fun k11 => (if ¬ (q9.2 0 11) = 0 then k11 q9.2 else (f_X4_next q9.2).bind (fun q13 => (if q13.1 = (44 : Int32) then k10 ((0 : Int32), q13.2) else k11 q13.2))))))) (fun k6 => (if (σ5 0 11) = 0 then (f_X4_number (0 : Int32) (3 : Int32) σ5).bind (fun q8 => k6 (q8.1, q8.2)) else k6 ((0 : Int32), σ5)))))) (fun k1 => jn (fun (q2 : St) => k1 ((1 : Int32), q2)) (fun k2 => (if (σ 0 4) = (5 : Int32) then k2 σ else (if ¬ (σ 0 3) = 0 then k1 ((0 : Int32), σ) else k2 σ))))
def f_X4_item (a0 : Int32) (a1 : Int32) (σ : St) : Option (Int32 × St) :=
  (if ¬ a0 = (116 : Int32) then (if ¬ a0 = (119 : Int32) then (if ¬ a0 = (115 : Int32) then nm (w2 σ 0 11 (1 : Int32)) (fun σ4 => some ((0 : Int32), σ4)) else (f_X4_number (1 : Int32) (8 : Int32) σ).bind (fun q5 => jn (fun (q6 : Int32 × St) => nm (w2 q6.2 0 5 q6.1) (fun σ8 => some ((0 : Int32), σ8))) (fun k6 => (if (q5.2 0 11) = 0 then k6 (q5.1, q5.2) else k6 ((q5.2 0 5), q5.2))))) else (f_X4_wooerItem σ).bind (fun q9 => some ((0 : Int32), q9.2))) else jn (fun (q10 : Int32 × St) => (if ¬ (q10.1 = 0 ∨ q10.1 = 1) then none else nm (w2 q10.2 0 11 q10.1) (fun σ12 => (if ¬ (σ12 0 11) = 0 then some ((1 : Int32), σ12) else (f_X4_tongueItem σ12).bind (fun q14 => some ((1 : Int32), q14.2)))))) (fun k10 => (if ¬ a1 = 0 then k10 ((0 : Int32), σ) else k10 ((1 : Int32), σ))))
def f_X4_reads  (σ : St) : Option (Int32 × St) :=
  (f_X4_clears σ).bind (fun q1 => nm (w2 q1.2 0 9 (0 : Int32)) (fun σ2 => nm (w2 σ2 0 11 (0 : Int32)) (fun σ3 => lp (fun (r4 : Int32 × St → Option _) (b4 : Int32 × St) => jn (fun (q5 : St) => (if ¬ (q5 0 11) = 0 then some ((0 : Int32), q5) else some ((1 : Int32), q5))) (fun k5 => (if (b4.2 0 8) ≤ (b4.2 0 9) then k5 b4.2 else (if ¬ (b4.2 0 11) = 0 then k5 b4.2 else nm (w2 b4.2 0 10 (b4.2 0 9)) (fun σ8 => (f_X4_next σ8).bind (fun q9 => nm (w2 q9.2 0 9 ((q9.2 0 9) + (1 : Int32))) (fun σ10 => (f_X4_item q9.1 b4.1 σ10).bind (fun q11 => jn (fun (q12 : Int32 × St) => jn (fun (q16 : Int32 × St) => (if ¬ (q16.1 = 0 ∨ q16.1 = 1) then none else nm (w2 q16.2 0 11 q16.1) (fun σ21 => nm (w2 σ21 0 9 ((σ21 0 9) + (1 : Int32))) (fun σ22 => r4 (q12.1, σ22))))) (fun k16 => jn (fun (q17 : St) => k16 ((1 : Int32), q17)) (fun k17 => (if ¬ (q12.2 0 11) = 0 then k17 q12.2 else (f_X4_next q12.2).bind (fun q19 => (if q19.1 = (59 : Int32) then k16 ((0 : Int32), q19.2) else k17 q19.2)))))) (fun k12 => jn (fun (q13 : St) => k12 ((0 : Int32), q13)) (fun k13 => (if q11.1 = 0 then k13 q11.2 else (if b4.1 = 0 then k13 q11.2 else k12 ((1 : Int32), q11.2))))))))))))) FU ((1 : Int32), σ3))))
def f_X4_fault  (σ : St) : Option (Int32 × St) :=
  (f_X4_reads σ).bind (fun q1 => (if q1.1 = 0 then some ((q1.2 0 10), q1.2) else some ((-4 : Int32), q1.2)))
def f_X4_lay  (σ : St) : Option (Int32 × St) :=
  (f_X4_reads σ).bind (fun q1 => (if q1.1 = 0 then some ((-2 : Int32), q1.2) else (if (q1.2 0 3) = 0 then some ((-2 : Int32), q1.2) else (if ¬ (q1.2 0 4) = 0 then (f_X4_settles q1.2).bind (fun q5 => nm (w2 q5.2 0 6 (0 : Int32)) (fun σ6 => nm (w2 σ6 0 7 (0 : Int32)) (fun σ7 => nm (w2 σ7 0 12 (0 : Int32)) (fun σ8 => some ((σ8 0 1), σ8))))) else some ((-2 : Int32), q1.2)))))
def f_X4_sound (a0 : Int32) (σ : St) : Option (Int32 × St) :=
  (f_X4_isWord a0 σ).bind (fun q1 => (if q1.1 = 0 then some ((-1 : Int32), q1.2) else (if a0 < 0 ∨ 8 ≤ a0.toNatClampNeg then none else some ((q1.2 1 a0.toNatClampNeg), q1.2))))
def f_X4_hasIt (a0 : Int32) (a1 : Int32) (a2 : Int32) (σ : St) : Option (Int32 × St) :=
  (if (((a0 + ((18 : Int32) * a1)) + (2 : Int32)) + a2) < 0 ∨ 1092 ≤ (((a0 + ((18 : Int32) * a1)) + (2 : Int32)) + a2).toNatClampNeg then none else some ((σ 3 (((a0 + ((18 : Int32) * a1)) + (2 : Int32)) + a2).toNatClampNeg), σ))
def f_X4_gets (a0 : Int32) (a1 : Int32) (a2 : Int32) (a3 : Int32) (σ : St) : Option (Unit × St) :=
  (if (((a0 + ((18 : Int32) * a1)) + (2 : Int32)) + a2) < 0 ∨ 1092 ≤ (((a0 + ((18 : Int32) * a1)) + (2 : Int32)) + a2).toNatClampNeg then none else nm (w2 σ 3 (((a0 + ((18 : Int32) * a1)) + (2 : Int32)) + a2).toNatClampNeg a3) (fun σ2 => (if (((a0 + ((18 : Int32) * a1)) + (10 : Int32)) + a2) < 0 ∨ 1092 ≤ (((a0 + ((18 : Int32) * a1)) + (10 : Int32)) + a2).toNatClampNeg then none else nm (w2 σ2 3 (((a0 + ((18 : Int32) * a1)) + (10 : Int32)) + a2).toNatClampNeg (0 : Int32)) (fun σ4 => some ((), σ4)))))
def f_X4_had (a0 : Int32) (a1 : Int32) (σ : St) : Option (Int32 × St) :=
  lp (fun (r1 : Int32 × Int32 × St → Option _) (b1 : Int32 × Int32 × St) => (if (b1.2.2 0 0) ≤ b1.2.1 then some (b1.1, b1.2.2) else (f_X4_hasIt a0 a1 b1.2.1 b1.2.2).bind (fun q3 => jn (fun (q4 : Int32 × St) => nm ((b1.1 ||| q4.1)) (fun x6 => nm (b1.2.1 + (1 : Int32)) (fun x7 => r1 (x6, x7, q4.2)))) (fun k4 => (if q3.1 < 0 then k4 ((0 : Int32), q3.2) else k4 (((1 : Int32) <<< (b1.2.1 &&& 31)), q3.2)))))) FU ((0 : Int32), (0 : Int32), σ)
def f_X4_right (a0 : Int32) (a1 : Int32) (σ : St) : Option (Int32 × St) :=
  lp (fun (r1 : Int32 × Int32 × St → Option _) (b1 : Int32 × Int32 × St) => (if (b1.2.2 0 0) ≤ b1.2.1 then some (b1.1, b1.2.2) else (f_X4_hasIt a0 a1 b1.2.1 b1.2.2).bind (fun q3 => (if b1.2.1 < 0 ∨ 8 ≤ b1.2.1.toNatClampNeg then none else jn (fun (q5 : Int32 × St) => nm ((b1.1 ||| q5.1)) (fun x7 => nm (b1.2.1 + (1 : Int32)) (fun x8 => r1 (x7, x8, q5.2)))) (fun k5 => (if ¬ q3.1 = (q3.2 1 b1.2.1.toNatClampNeg) then k5 ((0 : Int32), q3.2) else k5 (((1 : Int32) <<< (b1.2.1 &&& 31)), q3.2))))))) FU ((0 : Int32), (0 : Int32), σ)
def f_X4_isSpeaker (a0 : Int32) (a1 : Int32) (σ : St) : Option (Int32 × St) :=
  (f_X4_right a0 a1 σ).bind (fun q1 => (f_X4_bits q1.1 q1.2).bind (fun q2 => (if q2.1 < (q2.2 0 2) then some ((0 : Int32), q2.2) else some ((1 : Int32), q2.2))))
def f_X4_wooer (a0 : Int32) (a1 : Int32) (σ : St) : Option (Int32 × St) :=
  (f_X4_isOne a0 σ).bind (fun q1 => (if q1.1 = 0 then some ((-1 : Int32), q1.2) else (f_X4_in a1.toInt64 (0 : Int64) (4 : Int64) q1.2).bind (fun q3 => (if ¬ q3.1 = 0 then (if (2 : Int32) ≤ a1 then (if ¬ a1 = (2 : Int32) then (if ¬ a1 = (3 : Int32) then (f_X4_isSpeaker (0 : Int32) a0 q3.2).bind (fun q8 => (if q8.1 = 0 then some ((0 : Int32), q8.2) else some ((1 : Int32), q8.2))) else (f_X4_right (0 : Int32) a0 q3.2).bind (fun q10 => some (q10.1, q10.2))) else (f_X4_had (0 : Int32) a0 q3.2).bind (fun q11 => some (q11.1, q11.2))) else (if (((18 : Int32) * a0) + a1) < 0 ∨ 1092 ≤ (((18 : Int32) * a0) + a1).toNatClampNeg then none else some ((q3.2 3 (((18 : Int32) * a0) + a1).toNatClampNeg), q3.2))) else some ((-1 : Int32), q3.2)))))
def f_X4_word (a0 : Int32) (a1 : Int32) (a2 : Int32) (σ : St) : Option (Int32 × St) :=
  (f_X4_isOne a0 σ).bind (fun q1 => (if q1.1 = 0 then some ((-1 : Int32), q1.2) else (f_X4_isWord a1 q1.2).bind (fun q3 => (if q3.1 = 0 then some ((-1 : Int32), q3.2) else (f_X4_in a2.toInt64 (0 : Int64) (1 : Int64) q3.2).bind (fun q5 => (if ¬ q5.1 = 0 then (f_X4_hasIt (0 : Int32) a0 a1 q5.2).bind (fun q7 => (if 0 ≤ q7.1 then (if ¬ a2 = 0 then (if ((((18 : Int32) * a0) + (10 : Int32)) + a1) < 0 ∨ 1092 ≤ ((((18 : Int32) * a0) + (10 : Int32)) + a1).toNatClampNeg then none else some ((q7.2 3 ((((18 : Int32) * a0) + (10 : Int32)) + a1).toNatClampNeg), q7.2)) else (f_X4_hasIt (0 : Int32) a0 a1 q7.2).bind (fun q11 => some (q11.1, q11.2))) else some ((-4 : Int32), q7.2))) else some ((-1 : Int32), q5.2)))))))
def f_X4_known  (σ : St) : Option (Unit × St) :=
  jn (fun (q1 : St) => nm (w2 q1 0 6 ((q1 0 6) + (1 : Int32))) (fun σ10 => (f_X4_copies (0 : Int32) ((σ10 0 6) * (91 : Int32)) σ10).bind (fun q11 => some ((), q11.2)))) (fun k1 => (if ¬ (σ 0 6) = (8 : Int32) then k1 σ else lp (fun (r3 : Int32 × St → Option _) (b3 : Int32 × St) => (if (728 : Int32) ≤ b3.1 then nm (w2 b3.2 0 6 (7 : Int32)) (fun σ5 => k1 σ5) else (if (b3.1 + (91 : Int32)) < 0 ∨ 1092 ≤ (b3.1 + (91 : Int32)).toNatClampNeg then none else (if b3.1 < 0 ∨ 1092 ≤ b3.1.toNatClampNeg then none else nm (w2 b3.2 3 b3.1.toNatClampNeg (b3.2 3 (b3.1 + (91 : Int32)).toNatClampNeg)) (fun σ8 => nm (b3.1 + (1 : Int32)) (fun x9 => r3 (x9, σ8))))))) FU ((91 : Int32), σ)))
def f_X4_hears (a0 : Int32) (a1 : Int32) (a2 : Int32) (σ : St) : Option (Int32 × St) :=
  (if (a0 + ((18 : Int32) * a1)) < 0 ∨ 1092 ≤ (a0 + ((18 : Int32) * a1)).toNatClampNeg then none else jn (fun (q2 : St) => some (a2, q2)) (fun k2 => (if ¬ (σ 3 (a0 + ((18 : Int32) * a1)).toNatClampNeg) = (1 : Int32) then k2 σ else (if ¬ (a2 - a2 / (2 : Int32) * (2 : Int32)) = (1 : Int32) then k2 σ else some (((a2 + (1 : Int32)) - (a2 + (1 : Int32)) / (10 : Int32) * (10 : Int32)), σ)))))
def f_X4_learns (a0 : Int32) (a1 : Int32) (a2 : Int32) (σ : St) : Option (Unit × St) :=
  (if (a0 + ((18 : Int32) * a1)) < 0 ∨ 1092 ≤ (a0 + ((18 : Int32) * a1)).toNatClampNeg then none else nm ((σ 3 (a0 + ((18 : Int32) * a1)).toNatClampNeg)) (fun x2 => (f_X4_hasIt a0 a1 a2 σ).bind (fun q3 => jn (fun (q4 : Int32 × St) => (f_X4_gets a0 a1 a2 q4.1 q4.2).bind (fun q10 => (if (q10.2 0 0) = 0 then none else nm (((a2 + (1 : Int32)) - (a2 + (1 : Int32)) / (q10.2 0 0) * (q10.2 0 0))) (fun x12 => (if ¬ x2 = (2 : Int32) then some ((), q10.2) else (f_X4_hasIt a0 a1 x12 q10.2).bind (fun q14 => (if 0 ≤ q14.1 then some ((), q14.2) else (if x12 < 0 ∨ 8 ≤ x12.toNatClampNeg then none else (f_X4_gets a0 a1 x12 (q14.2 1 x12.toNatClampNeg) q14.2).bind (fun q17 => some ((), q17.2)))))))))) (fun k4 => jn (fun (q5 : St) => (if a2 < 0 ∨ 8 ≤ a2.toNatClampNeg then none else (f_X4_hears a0 a1 (q5 1 a2.toNatClampNeg) q5).bind (fun q9 => k4 (q9.1, q9.2)))) (fun k5 => (if ¬ x2 = (3 : Int32) then k5 q3.2 else (if q3.1 < 0 then k5 q3.2 else k4 (q3.1, q3.2))))))))
def f_X4_lesson (a0 : Int32) (a1 : Int32) (σ : St) : Option (Int32 × St) :=
  (f_X4_isOne a0 σ).bind (fun q1 => (if q1.1 = 0 then some ((-1 : Int32), q1.2) else (f_X4_isWord a1 q1.2).bind (fun q3 => (if ¬ q3.1 = 0 then (f_X4_known q3.2).bind (fun q5 => (f_X4_learns (0 : Int32) a0 a1 q5.2).bind (fun q6 => (f_X4_hasIt (0 : Int32) a0 a1 q6.2).bind (fun q7 => some (q7.1, q7.2)))) else some ((-1 : Int32), q3.2)))))
def f_X4_tellings (a0 : Int32) (a1 : Int32) (σ : St) : Option (Unit × St) :=
  lp (fun (r1 : Int32 × St → Option _) (b1 : Int32 × St) => (if (b1.2 0 1) ≤ b1.1 then some ((), b1.2) else (if (b1.2 0 1) = 0 then none else nm (((b1.1 + (1 : Int32)) - (b1.1 + (1 : Int32)) / (b1.2 0 1) * (b1.2 0 1))) (fun x4 => (if b1.1 < 0 ∨ 5 ≤ b1.1.toNatClampNeg then none else nm (w2 b1.2 8 b1.1.toNatClampNeg (-4 : Int32)) (fun σ6 => nm (((σ6 0 0) - (1 : Int32))) (fun x7 => lp (fun (r8 : Int32 × St → Option _) (b8 : Int32 × St) => jn (fun (q9 : St) => (if b1.1 < 0 ∨ 5 ≤ b1.1.toNatClampNeg then none else jn (fun (q24 : Int32 × St) => (if b1.1 < 0 ∨ 5 ≤ b1.1.toNatClampNeg then none else nm (w2 q24.2 9 b1.1.toNatClampNeg q24.1) (fun σ29 => nm (b1.1 + (1 : Int32)) (fun x30 => r1 (x30, σ29))))) (fun k24 => (if 0 ≤ (q9 8 b1.1.toNatClampNeg) then (if b1.1 < 0 ∨ 5 ≤ b1.1.toNatClampNeg then none else (f_X4_hasIt a0 b1.1 (q9 8 b1.1.toNatClampNeg) q9).bind (fun q27 => k24 (q27.1, q27.2))) else k24 ((-4 : Int32), q9))))) (fun k9 => (if b8.1 < 0 then k9 b8.2 else (if x4 = b1.1 then k9 b8.2 else (if ¬ a1 = 0 then k9 b8.2 else (f_X4_hasIt a0 b1.1 b8.1 b8.2).bind (fun q13 => jn (fun (q14 : Int32 × St) => (if b1.1 < 0 ∨ 5 ≤ b1.1.toNatClampNeg then none else nm (w2 q14.2 8 b1.1.toNatClampNeg q14.1) (fun σ21 => nm (b8.1 + (-1 : Int32)) (fun x22 => r8 (x22, σ21))))) (fun k14 => jn (fun (q15 : Int32 × St) => (if b1.1 < 0 ∨ 5 ≤ b1.1.toNatClampNeg then none else k14 ((q15.2 8 b1.1.toNatClampNeg), q15.2))) (fun k15 => (if q13.1 < 0 then k15 (b8.1, q13.2) else (f_X4_hasIt a0 x4 b8.1 q13.2).bind (fun q17 => (if 0 ≤ q17.1 then k15 (b8.1, q17.2) else k14 (b8.1, q17.2)))))))))))) FU (x7, σ6)))))))) FU ((0 : Int32), σ)
def f_X4_grows (a0 : Int32) (a1 : Int32) (σ : St) : Option (Unit × St) :=
  lp (fun (r1 : Int32 × St → Option _) (b1 : Int32 × St) => (if (b1.2 0 0) ≤ b1.1 then some ((), b1.2) else (f_X4_hasIt a0 a1 b1.1 b1.2).bind (fun q3 => jn (fun (q4 : St) => nm (b1.1 + (1 : Int32)) (fun x17 => r1 (x17, q4))) (fun k4 => (if q3.1 < 0 then k4 q3.2 else (if a1 < 0 ∨ 5 ≤ a1.toNatClampNeg then none else jn (fun (q7 : Int32 × St) => (if (((a0 + ((18 : Int32) * a1)) + (10 : Int32)) + b1.1) < 0 ∨ 1092 ≤ (((a0 + ((18 : Int32) * a1)) + (10 : Int32)) + b1.1).toNatClampNeg then none else nm (w2 q7.2 3 (((a0 + ((18 : Int32) * a1)) + (10 : Int32)) + b1.1).toNatClampNeg q7.1) (fun σ11 => (if ((a0 + ((18 : Int32) * a1)) + (1 : Int32)) < 0 ∨ 1092 ≤ ((a0 + ((18 : Int32) * a1)) + (1 : Int32)).toNatClampNeg then none else (if q7.1 < (σ11 3 ((a0 + ((18 : Int32) * a1)) + (1 : Int32)).toNatClampNeg) then k4 σ11 else (if a1 < 0 ∨ 5 ≤ a1.toNatClampNeg then none else (if b1.1 = (σ11 8 a1.toNatClampNeg) then k4 σ11 else (f_X4_gets a0 a1 b1.1 (-1 : Int32) σ11).bind (fun q16 => k4 q16.2)))))))) (fun k7 => (if ¬ b1.1 = (q3.2 8 a1.toNatClampNeg) then (if (((a0 + ((18 : Int32) * a1)) + (10 : Int32)) + b1.1) < 0 ∨ 1092 ≤ (((a0 + ((18 : Int32) * a1)) + (10 : Int32)) + b1.1).toNatClampNeg then none else k7 (((q3.2 3 (((a0 + ((18 : Int32) * a1)) + (10 : Int32)) + b1.1).toNatClampNeg) + (1 : Int32)), q3.2)) else k7 ((0 : Int32), q3.2))))))))) FU ((0 : Int32), σ)
def f_X4_goesOn (a0 : Int32) (a1 : Int32) (σ : St) : Option (Unit × St) :=
  (f_X4_tellings a0 a1 σ).bind (fun q1 => lp (fun (r2 : Int32 × St → Option _) (b2 : Int32 × St) => (if (b2.2 0 1) ≤ b2.1 then lp (fun (r4 : Int32 × St → Option _) (b4 : Int32 × St) => (if (b4.2 0 1) ≤ b4.1 then (if (a0 + (90 : Int32)) < 0 ∨ 1092 ≤ (a0 + (90 : Int32)).toNatClampNeg then none else (if (a0 + (90 : Int32)) < 0 ∨ 1092 ≤ (a0 + (90 : Int32)).toNatClampNeg then none else nm (w2 b4.2 3 (a0 + (90 : Int32)).toNatClampNeg ((b4.2 3 (a0 + (90 : Int32)).toNatClampNeg) + (1 : Int32))) (fun σ8 => some ((), σ8)))) else (if b4.1 < 0 ∨ 5 ≤ b4.1.toNatClampNeg then none else jn (fun (q10 : St) => nm (b4.1 + (1 : Int32)) (fun x18 => r4 (x18, q10))) (fun k10 => (if (b4.2 8 b4.1.toNatClampNeg) < 0 then k10 b4.2 else (if (b4.2 0 1) = 0 then none else nm (((b4.1 + (1 : Int32)) - (b4.1 + (1 : Int32)) / (b4.2 0 1) * (b4.2 0 1))) (fun x13 => (if b4.1 < 0 ∨ 5 ≤ b4.1.toNatClampNeg then none else (if b4.1 < 0 ∨ 5 ≤ b4.1.toNatClampNeg then none else (f_X4_hears a0 x13 (b4.2 9 b4.1.toNatClampNeg) b4.2).bind (fun q16 => (f_X4_gets a0 x13 (b4.2 8 b4.1.toNatClampNeg) q16.1 q16.2).bind (fun q17 => k10 q17.2))))))))))) FU ((0 : Int32), b2.2) else (f_X4_grows a0 b2.1 b2.2).bind (fun q19 => nm (b2.1 + (1 : Int32)) (fun x20 => r2 (x20, q19.2))))) FU ((0 : Int32), q1.2))
def f_X4_days (a0 : Int32) (a1 : Int32) (σ : St) : Option (Unit × St) :=
  lp (fun (r1 : Int32 × St → Option _) (b1 : Int32 × St) => (if a1 ≤ b1.1 then some ((), b1.2) else (f_X4_goesOn a0 (0 : Int32) b1.2).bind (fun q3 => nm (b1.1 + (1 : Int32)) (fun x4 => r1 (x4, q3.2))))) FU ((0 : Int32), σ)
def f_X4_speakers (a0 : Int32) (σ : St) : Option (Int32 × St) :=
  lp (fun (r1 : Int32 × Int32 × St → Option _) (b1 : Int32 × Int32 × St) => (if (b1.2.2 0 1) ≤ b1.2.1 then some (b1.1, b1.2.2) else (f_X4_isSpeaker a0 b1.2.1 b1.2.2).bind (fun q3 => jn (fun (q4 : Int32 × St) => nm ((b1.1 + q4.1)) (fun x6 => nm (b1.2.1 + (1 : Int32)) (fun x7 => r1 (x6, x7, q4.2)))) (fun k4 => (if q3.1 = 0 then k4 ((0 : Int32), q3.2) else k4 ((1 : Int32), q3.2)))))) FU ((0 : Int32), (0 : Int32), σ)
def f_X4_rights (a0 : Int32) (σ : St) : Option (Int32 × St) :=
  lp (fun (r1 : Int32 × Int32 × St → Option _) (b1 : Int32 × Int32 × St) => (if (b1.2.2 0 1) ≤ b1.2.1 then some (b1.1, b1.2.2) else (f_X4_right a0 b1.2.1 b1.2.2).bind (fun q3 => (f_X4_bits q3.1 q3.2).bind (fun q4 => nm ((b1.1 + q4.1)) (fun x5 => nm (b1.2.1 + (1 : Int32)) (fun x6 => r1 (x5, x6, q4.2))))))) FU ((0 : Int32), (0 : Int32), σ)
def f_X4_pass (a0 : Int32) (σ : St) : Option (Int32 × St) :=
  (f_X4_in a0.toInt64 (1 : Int64) (24 : Int64) σ).bind (fun q1 => (if ¬ q1.1 = 0 then (if (90 : Int32) < 0 ∨ 1092 ≤ (90 : Int32).toNatClampNeg then none else (if ((q1.2 3 (90 : Int32).toNatClampNeg) + a0) ≤ (999 : Int32) then (f_X4_known q1.2).bind (fun q5 => (f_X4_days (0 : Int32) a0 q5.2).bind (fun q6 => (f_X4_speakers (0 : Int32) q6.2).bind (fun q7 => some (q7.1, q7.2)))) else some ((-2 : Int32), q1.2))) else some ((-1 : Int32), q1.2)))
def f_X4_canMend (a0 : Int32) (a1 : Int32) (a2 : Int32) (σ : St) : Option (Int32 × St) :=
  (f_X4_hasIt a0 a1 a2 σ).bind (fun q1 => jn (fun (q2 : St) => some ((0 : Int32), q2)) (fun k2 => (if q1.1 < 0 then k2 q1.2 else (f_X4_hasIt a0 a1 a2 q1.2).bind (fun q4 => (if a2 < 0 ∨ 8 ≤ a2.toNatClampNeg then none else (if q4.1 = (q4.2 1 a2.toNatClampNeg) then k2 q4.2 else some ((1 : Int32), q4.2)))))))
def f_X4_mend (a0 : Int32) (a1 : Int32) (σ : St) : Option (Int32 × St) :=
  (f_X4_isOne a0 σ).bind (fun q1 => (if q1.1 = 0 then some ((-1 : Int32), q1.2) else (f_X4_isWord a1 q1.2).bind (fun q3 => (if ¬ q3.1 = 0 then (f_X4_canMend (0 : Int32) a0 a1 q3.2).bind (fun q5 => (if ¬ q5.1 = 0 then (f_X4_known q5.2).bind (fun q7 => (f_X4_hasIt (0 : Int32) a0 a1 q7.2).bind (fun q8 => (if a1 < 0 ∨ 8 ≤ a1.toNatClampNeg then none else (f_X4_gets (0 : Int32) a0 a1 (q8.2 1 a1.toNatClampNeg) q8.2).bind (fun q10 => some (q8.1, q10.2))))) else some ((-2 : Int32), q5.2))) else some ((-1 : Int32), q3.2)))))
def f_X4_swaps (a0 : Int32) (a1 : Int32) (a2 : Int32) (σ : St) : Option (Unit × St) :=
  lp (fun (r1 : Int32 × St → Option _) (b1 : Int32 × St) => (if (18 : Int32) ≤ b1.1 then some ((), b1.2) else (if ((a0 + ((18 : Int32) * a1)) + b1.1) < 0 ∨ 1092 ≤ ((a0 + ((18 : Int32) * a1)) + b1.1).toNatClampNeg then none else nm ((b1.2 3 ((a0 + ((18 : Int32) * a1)) + b1.1).toNatClampNeg)) (fun x4 => (if ((a0 + ((18 : Int32) * a2)) + b1.1) < 0 ∨ 1092 ≤ ((a0 + ((18 : Int32) * a2)) + b1.1).toNatClampNeg then none else (if ((a0 + ((18 : Int32) * a1)) + b1.1) < 0 ∨ 1092 ≤ ((a0 + ((18 : Int32) * a1)) + b1.1).toNatClampNeg then none else nm (w2 b1.2 3 ((a0 + ((18 : Int32) * a1)) + b1.1).toNatClampNeg (b1.2 3 ((a0 + ((18 : Int32) * a2)) + b1.1).toNatClampNeg)) (fun σ7 => (if ((a0 + ((18 : Int32) * a2)) + b1.1) < 0 ∨ 1092 ≤ ((a0 + ((18 : Int32) * a2)) + b1.1).toNatClampNeg then none else nm (w2 σ7 3 ((a0 + ((18 : Int32) * a2)) + b1.1).toNatClampNeg x4) (fun σ9 => nm (b1.1 + (1 : Int32)) (fun x10 => r1 (x10, σ9))))))))))) FU ((0 : Int32), σ)
def f_X4_change (a0 : Int32) (a1 : Int32) (σ : St) : Option (Int32 × St) :=
  (f_X4_isOne a0 σ).bind (fun q1 => (if q1.1 = 0 then some ((-1 : Int32), q1.2) else (f_X4_isOne a1 q1.2).bind (fun q3 => (if q3.1 = 0 then some ((-1 : Int32), q3.2) else (if ¬ a0 = a1 then (f_X4_known q3.2).bind (fun q6 => (f_X4_swaps (0 : Int32) a0 a1 q6.2).bind (fun q7 => (if ((18 : Int32) * a0) < 0 ∨ 1092 ≤ ((18 : Int32) * a0).toNatClampNeg then none else some ((q7.2 3 ((18 : Int32) * a0).toNatClampNeg), q7.2)))) else some ((-1 : Int32), q3.2))))))
def f_X4_undo  (σ : St) : Option (Int32 × St) :=
  (if ¬ (σ 0 6) = 0 then (f_X4_copies ((σ 0 6) * (91 : Int32)) (0 : Int32) σ).bind (fun q2 => nm (w2 q2.2 0 6 ((q2.2 0 6) - (1 : Int32))) (fun σ3 => some ((σ3 0 6), σ3))) else some ((-2 : Int32), σ))
def f_X4_behind (a0 : Int32) (a1 : Int32) (a2 : Int32) (σ : St) : Option (Int32 × St) :=
  (f_X4_in a0.toInt64 (0 : Int64) (40 : Int64) σ).bind (fun q1 => (if q1.1 = 0 then some ((-1 : Int32), q1.2) else (f_X4_isOne a1 q1.2).bind (fun q3 => (if q3.1 = 0 then some ((-1 : Int32), q3.2) else (f_X4_in a2.toInt64 (-1 : Int64) ((q3.2 0 0) - (1 : Int32)).toInt64 q3.2).bind (fun q5 => (if ¬ q5.1 = 0 then (f_X4_copies (0 : Int32) (1001 : Int32) q5.2).bind (fun q7 => (f_X4_days (1001 : Int32) a0 q7.2).bind (fun q8 => (if 0 ≤ a2 then (f_X4_hasIt (1001 : Int32) a1 a2 q8.2).bind (fun q10 => (if 0 ≤ q10.1 then (f_X4_hasIt (1001 : Int32) a1 a2 q10.2).bind (fun q12 => some (q12.1, q12.2)) else some ((-4 : Int32), q10.2))) else (f_X4_right (1001 : Int32) a1 q8.2).bind (fun q13 => (f_X4_bits q13.1 q13.2).bind (fun q14 => some (q14.1, q14.2)))))) else some ((-1 : Int32), q5.2)))))))
def f_X4_made (a0 : Int32) (σ : St) : Option (Int32 × St) :=
  (f_X4_isOne a0 σ).bind (fun q1 => (if ¬ q1.1 = 0 then (f_X4_copies (0 : Int32) (1001 : Int32) q1.2).bind (fun q3 => lp (fun (r4 : Int32 × St → Option _) (b4 : Int32 × St) => (if (60 : Int32) < b4.1 then some ((-4 : Int32), b4.2) else (f_X4_isSpeaker (1001 : Int32) a0 b4.2).bind (fun q6 => (if q6.1 = 0 then (f_X4_goesOn (1001 : Int32) (0 : Int32) q6.2).bind (fun q8 => nm (b4.1 + (1 : Int32)) (fun x9 => r4 (x9, q8.2))) else some (b4.1, q6.2))))) FU ((0 : Int32), q3.2)) else some ((-1 : Int32), q1.2)))
def f_X4_best (a0 : Int32) (a1 : Int32) (a2 : Int32) (σ : St) : Option (Int32 × St) :=
  (f_X4_isOne a0 σ).bind (fun q1 => (if q1.1 = 0 then some ((-1 : Int32), q1.2) else (f_X4_in a1.toInt64 (1 : Int64) (3 : Int64) q1.2).bind (fun q3 => (if q3.1 = 0 then some ((-1 : Int32), q3.2) else (f_X4_in a2.toInt64 (-1 : Int64) (2 : Int64) q3.2).bind (fun q5 => (if ¬ q5.1 = 0 then jn (fun (q7 : Int32 × St) => lp (fun (r10 : Int32 × Int32 × Int32 × St → Option _) (b10 : Int32 × Int32 × Int32 × St) => (if q7.1 ≤ b10.2.2.1 then lp (fun (r12 : Int32 × Int32 × Int32 × Int32 × St → Option _) (b12 : Int32 × Int32 × Int32 × Int32 × St) => jn (fun (q13 : Int32 × St) => (if 0 ≤ a2 then (if a2 < a1 then some (q13.1, q13.2) else some ((-4 : Int32), q13.2)) else some (b10.2.1, q13.2))) (fun k13 => (if a2 < b12.2.2.2.1 then k13 (b12.2.2.1, b12.2.2.2.2) else (if a1 ≤ b12.2.2.2.1 then k13 (b12.2.2.1, b12.2.2.2.2) else (if (b12.2.2.2.2 0 0) = 0 then none else nm ((b12.1 / (b12.2.2.2.2 0 0))) (fun x17 => (if x17 = 0 then none else nm ((b12.2.1 / x17)) (fun x19 => (if x17 = 0 then none else nm ((b12.2.1 - b12.2.1 / x17 * x17)) (fun x21 => nm (b12.2.2.2.1 + (1 : Int32)) (fun x22 => r12 (x17, x21, x19, x22, b12.2.2.2.2)))))))))))) FU (q7.1, b10.1, (-4 : Int32), (0 : Int32), b10.2.2.2) else (f_X4_copies (0 : Int32) (1001 : Int32) b10.2.2.2).bind (fun q25 => lp (fun (r26 : Int32 × Int32 × Int32 × St → Option _) (b26 : Int32 × Int32 × Int32 × St) => (if a1 ≤ b26.2.2.1 then (f_X4_right (1001 : Int32) a0 b26.2.2.2).bind (fun q28 => (f_X4_bits q28.1 q28.2).bind (fun q29 => jn (fun (q30 : Int32 × St) => (f_X4_larger b10.2.1 q29.1 q30.2).bind (fun q32 => nm (b10.2.2.1 + (1 : Int32)) (fun x33 => r10 (q30.1, q32.1, x33, q32.2)))) (fun k30 => (if q29.1 ≤ b10.2.1 then k30 (b10.1, q29.2) else k30 (b10.2.2.1, q29.2))))) else (if (b26.2.2.2 0 0) = 0 then none else nm ((b26.1 / (b26.2.2.2 0 0))) (fun x35 => (if x35 = 0 then none else (f_X4_learns (1001 : Int32) a0 (b26.2.1 / x35) b26.2.2.2).bind (fun q37 => (if x35 = 0 then none else nm ((b26.2.1 - b26.2.1 / x35 * x35)) (fun x39 => (f_X4_goesOn (1001 : Int32) (0 : Int32) q37.2).bind (fun q40 => nm (b26.2.2.1 + (1 : Int32)) (fun x41 => r26 (x35, x39, x41, q40.2))))))))))) FU (q7.1, b10.2.2.1, (0 : Int32), q25.2)))) FU ((0 : Int32), (-1 : Int32), (0 : Int32), q7.2)) (fun k7 => (if ¬ a1 = (1 : Int32) then (if ¬ a1 = (2 : Int32) then k7 ((((q5.2 0 0) * (q5.2 0 0)) * (q5.2 0 0)), q5.2) else k7 (((q5.2 0 0) * (q5.2 0 0)), q5.2)) else k7 ((q5.2 0 0), q5.2))) else some ((-1 : Int32), q5.2)))))))
def f_X4_mends (a0 : Int32) (σ : St) : Option (Int32 × St) :=
  (f_X4_in a0.toInt64 (0 : Int64) (1 : Int64) σ).bind (fun q1 => (if ¬ q1.1 = 0 then lp (fun (r3 : Int32 × Int32 × Int32 × St → Option _) (b3 : Int32 × Int32 × Int32 × St) => (if ((b3.2.2.2 0 1) * (b3.2.2.2 0 0)) ≤ b3.2.2.1 then jn (fun (q5 : St) => some (b3.1, q5)) (fun k5 => (if b3.1 < 0 then k5 b3.2.2.2 else (if ¬ a0 = 0 then some (b3.2.1, b3.2.2.2) else k5 b3.2.2.2))) else (if (b3.2.2.2 0 0) = 0 then none else nm ((b3.2.2.1 / (b3.2.2.2 0 0))) (fun x9 => (if (b3.2.2.2 0 0) = 0 then none else nm ((b3.2.2.1 - b3.2.2.1 / (b3.2.2.2 0 0) * (b3.2.2.2 0 0))) (fun x11 => (f_X4_canMend (0 : Int32) x9 x11 b3.2.2.2).bind (fun q12 => jn (fun (q13 : Int32 × Int32 × St) => nm (b3.2.2.1 + (1 : Int32)) (fun x23 => r3 (q13.1, q13.2.1, x23, q13.2.2))) (fun k13 => (if q12.1 = 0 then k13 (b3.1, b3.2.1, q12.2) else (f_X4_copies (0 : Int32) (1001 : Int32) q12.2).bind (fun q15 => (if x11 < 0 ∨ 8 ≤ x11.toNatClampNeg then none else (f_X4_gets (1001 : Int32) x9 x11 (q15.2 1 x11.toNatClampNeg) q15.2).bind (fun q17 => (f_X4_days (1001 : Int32) (5 : Int32) q17.2).bind (fun q18 => (f_X4_rights (1001 : Int32) q18.2).bind (fun q19 => jn (fun (q20 : Int32 × St) => (f_X4_larger b3.2.1 q19.1 q20.2).bind (fun q22 => k13 (q20.1, q22.1, q22.2))) (fun k20 => (if q19.1 ≤ b3.2.1 then k20 (b3.1, q19.2) else k20 ((((10 : Int32) * x9) + x11), q19.2))))))))))))))))) FU ((-4 : Int32), (-1 : Int32), (0 : Int32), q1.2) else some ((-1 : Int32), q1.2)))
def f_X4_two (a0 : Int32) (σ : St) : Option (Int32 × St) :=
  (f_X4_in a0.toInt64 (0 : Int64) (1 : Int64) σ).bind (fun q1 => (if ¬ q1.1 = 0 then lp (fun (r3 : Int32 × Int32 × Int32 × St → Option _) (b3 : Int32 × Int32 × Int32 × St) => (if (b3.2.2.2 0 1) ≤ b3.2.2.1 then jn (fun (q5 : St) => some (b3.1, q5)) (fun k5 => (if b3.1 < 0 then k5 b3.2.2.2 else (if ¬ a0 = 0 then some (b3.2.1, b3.2.2.2) else k5 b3.2.2.2))) else nm ((b3.2.2.1 + (1 : Int32))) (fun x8 => lp (fun (r9 : Int32 × Int32 × Int32 × St → Option _) (b9 : Int32 × Int32 × Int32 × St) => (if (b9.2.2.2 0 1) ≤ b9.2.2.1 then nm (b3.2.2.1 + (1 : Int32)) (fun x11 => r3 (b9.1, b9.2.1, x11, b9.2.2.2)) else (f_X4_right (0 : Int32) b3.2.2.1 b9.2.2.2).bind (fun q12 => (f_X4_right (0 : Int32) b9.2.2.1 q12.2).bind (fun q13 => (f_X4_bits (q12.1 ||| q13.1) q13.2).bind (fun q14 => jn (fun (q15 : Int32 × St) => (f_X4_larger b9.2.1 q14.1 q15.2).bind (fun q17 => nm (b9.2.2.1 + (1 : Int32)) (fun x18 => r9 (q15.1, q17.1, x18, q17.2)))) (fun k15 => (if q14.1 ≤ b9.2.1 then k15 (b9.1, q14.2) else k15 ((((10 : Int32) * b3.2.2.1) + b9.2.2.1), q14.2)))))))) FU (b3.1, b3.2.1, x8, b3.2.2.2)))) FU ((-4 : Int32), (-1 : Int32), (0 : Int32), q1.2) else some ((-1 : Int32), q1.2)))
def f_X4_isApart (a0 : Int32) (σ : St) : Option (Int32 × St) :=
  lp (fun (r1 : Int32 × Int32 × St → Option _) (b1 : Int32 × Int32 × St) => (if (b1.2.2 0 1) ≤ b1.2.1 then (if ¬ (b1.1 = 0 ∨ b1.1 = 1) then none else some (b1.1, b1.2.2)) else lp (fun (r4 : Int32 × Int32 × St → Option _) (b4 : Int32 × Int32 × St) => (if b1.2.1 ≤ b4.2.1 then nm (b1.2.1 + (1 : Int32)) (fun x6 => r1 (b4.1, x6, b4.2.2)) else lp (fun (r7 : Int32 × Int32 × St → Option _) (b7 : Int32 × Int32 × St) => (if (b7.2.2 0 0) ≤ b7.2.1 then jn (fun (q9 : Int32 × St) => nm (b4.2.1 + (1 : Int32)) (fun x13 => r4 (q9.1, x13, q9.2))) (fun k9 => jn (fun (q10 : Int32 × St) => k9 ((0 : Int32), q10.2)) (fun k10 => (if b4.1 = 0 then k10 (b4.2.1, b7.2.2) else (if b7.1 = 0 then k10 (b4.2.1, b7.2.2) else k9 ((1 : Int32), b7.2.2))))) else jn (fun (q14 : Int32 × St) => nm (b7.2.1 + (1 : Int32)) (fun x22 => r7 (q14.1, x22, q14.2))) (fun k14 => jn (fun (q15 : Int32 × St) => k14 ((1 : Int32), q15.2)) (fun k15 => (if ¬ b7.1 = 0 then k15 (b7.2.1, b7.2.2) else jn (fun (q17 : St) => k14 ((0 : Int32), q17)) (fun k17 => (if ¬ ((a0 >>> (b7.2.1 &&& 31)) &&& (1 : Int32)) = (1 : Int32) then k17 b7.2.2 else (f_X4_hasIt (0 : Int32) b1.2.1 b7.2.1 b7.2.2).bind (fun q19 => (f_X4_hasIt (0 : Int32) b4.2.1 b7.2.1 q19.2).bind (fun q20 => (if q19.1 = q20.1 then k17 q20.2 else k15 (b7.2.1, q20.2))))))))))) FU ((0 : Int32), (0 : Int32), b4.2.2))) FU (b1.1, (0 : Int32), b1.2.2))) FU ((1 : Int32), (0 : Int32), σ)
def f_X4_tests (a0 : Int32) (σ : St) : Option (Int32 × St) :=
  (f_X4_in a0.toInt64 (0 : Int64) (1 : Int64) σ).bind (fun q1 => (if ¬ q1.1 = 0 then lp (fun (r3 : Int32 × Int32 × St → Option _) (b3 : Int32 × Int32 × St) => (if ((1 : Int32) <<< ((b3.2.2 0 0) &&& 31)) ≤ b3.2.1 then jn (fun (q5 : St) => some (b3.1, q5)) (fun k5 => (if b3.1 < 0 then k5 b3.2.2 else (if ¬ a0 = (1 : Int32) then (f_X4_bits b3.1 b3.2.2).bind (fun q8 => some (q8.1, q8.2)) else k5 b3.2.2))) else jn (fun (q9 : Int32 × St) => nm (b3.2.1 + (1 : Int32)) (fun x17 => r3 (q9.1, x17, q9.2))) (fun k9 => jn (fun (q10 : Int32 × St) => (f_X4_isApart q10.1 q10.2).bind (fun q15 => (if q15.1 = 0 then k9 (b3.1, q15.2) else k9 (q10.1, q15.2)))) (fun k10 => (if b3.1 < 0 then k10 (b3.2.1, b3.2.2) else (f_X4_bits b3.2.1 b3.2.2).bind (fun q12 => (f_X4_bits b3.1 q12.2).bind (fun q13 => (if q13.1 ≤ q12.1 then k9 (b3.1, q13.2) else k10 (b3.2.1, q13.2))))))))) FU ((-4 : Int32), (0 : Int32), q1.2) else some ((-1 : Int32), q1.2)))
def f_X4_manyHave (a0 : Int32) (a1 : Int32) (σ : St) : Option (Int32 × St) :=
  lp (fun (r1 : Int32 × Int32 × St → Option _) (b1 : Int32 × Int32 × St) => (if (b1.2.2 0 1) ≤ b1.2.1 then some (b1.1, b1.2.2) else (f_X4_hasIt (0 : Int32) b1.2.1 a0 b1.2.2).bind (fun q3 => jn (fun (q4 : Int32 × St) => nm ((b1.1 + q4.1)) (fun x6 => nm (b1.2.1 + (1 : Int32)) (fun x7 => r1 (x6, x7, q4.2)))) (fun k4 => (if ¬ q3.1 = a1 then k4 ((0 : Int32), q3.2) else k4 ((1 : Int32), q3.2)))))) FU ((0 : Int32), (0 : Int32), σ)
def f_X4_other  (σ : St) : Option (Int32 × St) :=
  lp (fun (r1 : Int32 × Int32 × St → Option _) (b1 : Int32 × Int32 × St) => (if (b1.2.2 0 0) ≤ b1.2.1 then some (b1.1, b1.2.2) else lp (fun (r3 : Int32 × Int32 × St → Option _) (b3 : Int32 × Int32 × St) => (if (10 : Int32) ≤ b3.2.1 then nm (b1.2.1 + (1 : Int32)) (fun x5 => r1 (b3.1, x5, b3.2.2)) else (if b1.2.1 < 0 ∨ 8 ≤ b1.2.1.toNatClampNeg then none else jn (fun (q7 : Int32 × St) => nm ((b3.1 ||| q7.1)) (fun x14 => nm (b3.2.1 + (1 : Int32)) (fun x15 => r3 (x14, x15, q7.2)))) (fun k7 => jn (fun (q8 : Int32 × St) => k7 ((0 : Int32), q8.2)) (fun k8 => (if b3.2.1 = (b3.2.2 1 b1.2.1.toNatClampNeg) then k8 (b3.2.1, b3.2.2) else (f_X4_manyHave b1.2.1 b3.2.1 b3.2.2).bind (fun q10 => (if b1.2.1 < 0 ∨ 8 ≤ b1.2.1.toNatClampNeg then none else (f_X4_manyHave b1.2.1 (q10.2 1 b1.2.1.toNatClampNeg) q10.2).bind (fun q12 => (if q10.1 ≤ q12.1 then k8 (b3.2.1, q12.2) else k7 (((1 : Int32) <<< (b1.2.1 &&& 31)), q12.2))))))))))) FU (b1.1, (0 : Int32), b1.2.2))) FU ((0 : Int32), (0 : Int32), σ)
def f_X4_hear (a0 : Int32) (a1 : Int32) (a2 : Int32) (σ : St) : Option (Int32 × St) :=
  (f_X4_isWord a0 σ).bind (fun q1 => (if q1.1 = 0 then some ((-1 : Int32), q1.2) else (f_X4_in a1.toInt64 (0 : Int64) (10 : Int64) q1.2).bind (fun q3 => (if q3.1 = 0 then some ((-1 : Int32), q3.2) else (f_X4_in a2.toInt64 (0 : Int64) (20 : Int64) q3.2).bind (fun q5 => (if ¬ q5.1 = 0 then (if ¬ (q5.2 0 12) = (6 : Int32) then (if (q5.2 0 12) < 0 ∨ 6 ≤ (q5.2 0 12).toNatClampNeg then none else nm (w2 q5.2 5 (q5.2 0 12).toNatClampNeg a0) (fun σ9 => jn (fun (q10 : Int32 × St) => (if (σ9 0 12) < 0 ∨ 6 ≤ (σ9 0 12).toNatClampNeg then none else nm (w2 q10.2 6 (σ9 0 12).toNatClampNeg q10.1) (fun σ13 => (if (σ13 0 12) < 0 ∨ 6 ≤ (σ13 0 12).toNatClampNeg then none else nm (w2 σ13 7 (σ13 0 12).toNatClampNeg a2) (fun σ15 => nm (w2 σ15 0 12 ((σ15 0 12) + (1 : Int32))) (fun σ16 => some ((σ16 0 12), σ16))))))) (fun k10 => (if ¬ a1 = (10 : Int32) then k10 (a1, σ9) else k10 ((-1 : Int32), σ9))))) else some ((-3 : Int32), q5.2)) else some ((-1 : Int32), q5.2)))))))
def f_X4_forget  (σ : St) : Option (Int32 × St) :=
  nm ((σ 0 12)) (fun x1 => nm (w2 σ 0 12 (0 : Int32)) (fun σ2 => some (x1, σ2)))
def f_X4_fits  (σ : St) : Option (Int32 × St) :=
  nm ((((1 : Int32) <<< ((σ 0 1) &&& 31)) - (1 : Int32))) (fun x1 => lp (fun (r2 : Int32 × Int32 × St → Option _) (b2 : Int32 × Int32 × St) => (if (20 : Int32) < b2.2.1 then some (b2.1, b2.2.2) else lp (fun (r4 : Int32 × Int32 × St → Option _) (b4 : Int32 × Int32 × St) => (if (b4.2.2 0 12) ≤ b4.2.1 then (f_X4_goesOn (1001 : Int32) (0 : Int32) b4.2.2).bind (fun q6 => nm (b2.2.1 + (1 : Int32)) (fun x7 => r2 (b4.1, x7, q6.2))) else lp (fun (r8 : Int32 × Int32 × St → Option _) (b8 : Int32 × Int32 × St) => jn (fun (q9 : Int32 × St) => nm (b4.2.1 + (1 : Int32)) (fun x20 => r4 (q9.1, x20, q9.2))) (fun k9 => (if (b8.2.2 0 1) ≤ b8.2.1 then k9 (b8.1, b8.2.2) else (if b4.2.1 < 0 ∨ 6 ≤ b4.2.1.toNatClampNeg then none else (if ¬ (b8.2.2 7 b4.2.1.toNatClampNeg) = b2.2.1 then k9 (b8.1, b8.2.2) else (if b4.2.1 < 0 ∨ 6 ≤ b4.2.1.toNatClampNeg then none else (f_X4_hasIt (1001 : Int32) b8.2.1 (b8.2.2 5 b4.2.1.toNatClampNeg) b8.2.2).bind (fun q14 => (if b4.2.1 < 0 ∨ 6 ≤ b4.2.1.toNatClampNeg then none else jn (fun (q16 : Int32 × St) => nm ((b8.1 &&& q16.1)) (fun x18 => nm (b8.2.1 + (1 : Int32)) (fun x19 => r8 (x18, x19, q16.2)))) (fun k16 => (if ¬ q14.1 = (q14.2 6 b4.2.1.toNatClampNeg) then k16 ((((1 : Int32) <<< (b8.2.1 &&& 31)) ^^^ (-1 : Int32)), q14.2) else k16 ((-1 : Int32), q14.2))))))))))) FU (b4.1, (0 : Int32), b4.2.2))) FU (b2.1, (0 : Int32), b2.2.2))) FU (x1, (0 : Int32), σ))
def f_X4_which  (σ : St) : Option (Int32 × St) :=
  (f_X4_copies (0 : Int32) (1001 : Int32) σ).bind (fun q1 => (f_X4_fits q1.2).bind (fun q2 => some (q2.1, q2.2)))
def f_X4_kinds (a0 : Int32) (σ : St) : Option (Int32 × St) :=
  (f_X4_isOne a0 σ).bind (fun q1 => (if ¬ q1.1 = 0 then lp (fun (r3 : Int32 × Int32 × St → Option _) (b3 : Int32 × Int32 × St) => (if (4 : Int32) ≤ b3.2.1 then some (b3.1, b3.2.2) else (f_X4_copies (0 : Int32) (1001 : Int32) b3.2.2).bind (fun q5 => (if ((1001 : Int32) + ((18 : Int32) * a0)) < 0 ∨ 1092 ≤ ((1001 : Int32) + ((18 : Int32) * a0)).toNatClampNeg then none else nm (w2 q5.2 3 ((1001 : Int32) + ((18 : Int32) * a0)).toNatClampNeg b3.2.1) (fun σ7 => (f_X4_fits σ7).bind (fun q8 => jn (fun (q9 : Int32 × St) => nm ((b3.1 ||| q9.1)) (fun x11 => nm (b3.2.1 + (1 : Int32)) (fun x12 => r3 (x11, x12, q9.2)))) (fun k9 => (if ¬ ((q8.1 >>> (a0 &&& 31)) &&& (1 : Int32)) = (1 : Int32) then k9 ((0 : Int32), q8.2) else k9 (((1 : Int32) <<< (b3.2.1 &&& 31)), q8.2))))))))) FU ((0 : Int32), (0 : Int32), q1.2) else some ((-1 : Int32), q1.2)))
def f_X4_hail (a0 : Int32) (a1 : Int32) (a2 : Int32) (a3 : Int32) (σ : St) : Option (Int32 × St) :=
  (f_X4_isOne a0 σ).bind (fun q1 => (if q1.1 = 0 then some ((-1 : Int32), q1.2) else (f_X4_in a1.toInt64 (0 : Int64) (8 : Int64) q1.2).bind (fun q3 => (if q3.1 = 0 then some ((-1 : Int32), q3.2) else (f_X4_in a2.toInt64 (0 : Int64) (10 : Int64) q3.2).bind (fun q5 => (if q5.1 = 0 then some ((-1 : Int32), q5.2) else (f_X4_in a3.toInt64 (0 : Int64) (1 : Int64) q5.2).bind (fun q7 => (if ¬ q7.1 = 0 then lp (fun (r9 : Int32 × Int32 × Int32 × St → Option _) (b9 : Int32 × Int32 × Int32 × St) => (if ((1 : Int32) <<< (a1 &&& 31)) ≤ b9.2.2.1 then lp (fun (r11 : Int32 × Int32 × St → Option _) (b11 : Int32 × Int32 × St) => (if b11.2.1 = 0 then (if ¬ a3 = 0 then (if b11.1 = 0 then none else some ((b9.2.1 / b11.1), b11.2.2)) else (if b11.1 = 0 then none else some ((b9.1 / b11.1), b11.2.2))) else (if b11.2.1 = 0 then none else nm ((b11.1 - b11.1 / b11.2.1 * b11.2.1)) (fun x17 => r11 (b11.2.1, x17, b11.2.2))))) FU (b9.1, b9.2.1, b9.2.2.2) else (f_X4_copies (0 : Int32) (1001 : Int32) b9.2.2.2).bind (fun q18 => lp (fun (r19 : Int32 × Int32 × St → Option _) (b19 : Int32 × Int32 × St) => (if a1 ≤ b19.2.1 then nm ((b9.2.1 + b19.1)) (fun x21 => (f_X4_isSpeaker (1001 : Int32) a0 b19.2.2).bind (fun q22 => jn (fun (q23 : Int32 × St) => nm ((b9.1 + q23.1)) (fun x25 => nm (b9.2.2.1 + (1 : Int32)) (fun x26 => r9 (x25, x21, x26, q23.2)))) (fun k23 => (if q22.1 = 0 then k23 ((0 : Int32), q22.2) else k23 (b19.1, q22.2))))) else jn (fun (q27 : Int32 × St) => jn (fun (q29 : Int32 × St) => nm ((b19.1 * q29.1)) (fun x31 => (f_X4_goesOn (1001 : Int32) q27.1 q29.2).bind (fun q32 => nm (b19.2.1 + (1 : Int32)) (fun x33 => r19 (x31, x33, q32.2))))) (fun k29 => (if q27.1 = 0 then k29 (((10 : Int32) - a2), q27.2) else k29 (a2, q27.2)))) (fun k27 => (if ¬ ((b9.2.2.1 >>> (b19.2.1 &&& 31)) &&& (1 : Int32)) = (1 : Int32) then k27 ((0 : Int32), b19.2.2) else k27 ((1 : Int32), b19.2.2))))) FU ((1 : Int32), (0 : Int32), q18.2)))) FU ((0 : Int32), (0 : Int32), (0 : Int32), q7.2) else some ((-1 : Int32), q7.2)))))))))
def f_X4_does (a0 : Int32) (a1 : Int32) (σ : St) : Option (Unit × St) :=
  nm ((a1 - a1 / (8 : Int32) * (8 : Int32))) (fun x1 => (if (σ 0 1) = 0 then none else nm (((a1 / (8 : Int32)) - (a1 / (8 : Int32)) / (σ 0 1) * (σ 0 1))) (fun x3 => (if (σ 0 0) = 0 then none else nm (((a1 / (64 : Int32)) - (a1 / (64 : Int32)) / (σ 0 0) * (σ 0 0))) (fun x5 => (if (σ 0 1) = 0 then none else nm (((a1 / (64 : Int32)) - (a1 / (64 : Int32)) / (σ 0 1) * (σ 0 1))) (fun x7 => (if (4 : Int32) ≤ x1 then jn (fun (q9 : St) => (if ¬ x1 = (5 : Int32) then some ((), q9) else (if x3 = x7 then some ((), q9) else (f_X4_swaps a0 x3 x7 q9).bind (fun q17 => some ((), q17.2))))) (fun k9 => (if ¬ x1 = (4 : Int32) then k9 σ else (f_X4_canMend a0 x3 x5 σ).bind (fun q11 => (if q11.1 = 0 then k9 q11.2 else (if x5 < 0 ∨ 8 ≤ x5.toNatClampNeg then none else (f_X4_gets a0 x3 x5 (q11.2 1 x5.toNatClampNeg) q11.2).bind (fun q14 => some ((), q14.2))))))) else (f_X4_learns a0 x3 x5 σ).bind (fun q18 => some ((), q18.2))))))))))
def f_X4_year (a0 : Int32) (a1 : Int32) (a2 : Int32) (σ : St) : Option (Int32 × St) :=
  (f_X4_in a0.toInt64 (0 : Int64) (9999 : Int64) σ).bind (fun q1 => (if q1.1 = 0 then some ((-1 : Int32), q1.2) else (f_X4_in a1.toInt64 (1 : Int64) (60 : Int64) q1.2).bind (fun q3 => (if q3.1 = 0 then some ((-1 : Int32), q3.2) else (f_X4_in a2.toInt64 (0 : Int64) (1 : Int64) q3.2).bind (fun q5 => (if ¬ q5.1 = 0 then (f_X4_copies (0 : Int32) (1001 : Int32) q5.2).bind (fun q7 => lp (fun (r8 : Int32 × St → Option _) (b8 : Int32 × St) => (if a1 ≤ b8.1 then (if ¬ a2 = 0 then (f_X4_rights (1001 : Int32) b8.2).bind (fun q11 => some (q11.1, q11.2)) else (f_X4_speakers (1001 : Int32) b8.2).bind (fun q12 => some (q12.1, q12.2))) else nm (((((7919 : Int64) * a0.toInt64) + ((6151 : Int64) * b8.1.toInt64)) + (1 : Int64))) (fun x13 => (f_X4_does (1001 : Int32) ((x13 * x13) - (x13 * x13) / (65521 : Int64) * (65521 : Int64)).toInt32 b8.2).bind (fun q14 => (f_X4_goesOn (1001 : Int32) (0 : Int32) q14.2).bind (fun q15 => nm (b8.1 + (1 : Int32)) (fun x16 => r8 (x16, q15.2))))))) FU ((0 : Int32), q7.2)) else some ((-1 : Int32), q5.2)))))))
def f_X4_keep  (σ : St) : Option (Int32 × St) :=
  (if ¬ (σ 0 7) = (2 : Int32) then (f_X4_copies (0 : Int32) (((9 : Int32) + (σ 0 7)) * (91 : Int32)) σ).bind (fun q2 => nm (w2 q2.2 0 7 ((q2.2 0 7) + (1 : Int32))) (fun σ3 => some ((σ3 0 7), σ3))) else some ((-3 : Int32), σ))
def f_X4_back  (σ : St) : Option (Int32 × St) :=
  (if ¬ (σ 0 7) = 0 then nm (w2 σ 0 7 ((σ 0 7) - (1 : Int32))) (fun σ2 => (f_X4_copies (((9 : Int32) + (σ2 0 7)) * (91 : Int32)) (0 : Int32) σ2).bind (fun q3 => nm (w2 q3.2 0 6 (0 : Int32)) (fun σ4 => some ((σ4 0 7), σ4)))) else some ((-2 : Int32), σ))
def f_X4_allHad  (σ : St) : Option (Int32 × St) :=
  lp (fun (r1 : Int32 × Int32 × St → Option _) (b1 : Int32 × Int32 × St) => (if (b1.2.2 0 1) ≤ b1.2.1 then some (b1.1, b1.2.2) else (f_X4_had (0 : Int32) b1.2.1 b1.2.2).bind (fun q3 => (f_X4_bits q3.1 q3.2).bind (fun q4 => nm ((b1.1 + q4.1)) (fun x5 => nm (b1.2.1 + (1 : Int32)) (fun x6 => r1 (x5, x6, q4.2))))))) FU ((0 : Int32), (0 : Int32), σ)
def f_X4_count (a0 : Int32) (σ : St) : Option (Int32 × St) :=
  (if ¬ a0 = 0 then (if ¬ a0 = (1 : Int32) then (if ¬ a0 = (2 : Int32) then (if ¬ a0 = (3 : Int32) then (if ¬ a0 = (4 : Int32) then (if ¬ a0 = (5 : Int32) then (if ¬ a0 = (6 : Int32) then (if ¬ a0 = (7 : Int32) then (if ¬ a0 = (8 : Int32) then (if ¬ a0 = (9 : Int32) then (if ¬ a0 = (10 : Int32) then some ((-1 : Int32), σ) else some ((σ 0 8), σ)) else some ((σ 0 7), σ)) else some ((σ 0 6), σ)) else some ((σ 0 12), σ)) else (f_X4_allHad σ).bind (fun q12 => some (q12.1, q12.2))) else (f_X4_rights (0 : Int32) σ).bind (fun q13 => some (q13.1, q13.2))) else (f_X4_speakers (0 : Int32) σ).bind (fun q14 => some (q14.1, q14.2))) else (if (90 : Int32) < 0 ∨ 1092 ≤ (90 : Int32).toNatClampNeg then none else some ((σ 3 (90 : Int32).toNatClampNeg), σ))) else some ((σ 0 2), σ)) else some ((σ 0 1), σ)) else some ((σ 0 0), σ))
end
section
theorem tableAt_tab {E : En} {ad : Nat → Nat} {G : Lay} {n r L : Nat} {i : Int32} {σ : St} {q : Option Nat × St} (hr : RowA E ad G n r L) (h : f_X3_tableAt r L i σ = some q) : ∀ y, q.1 = some y → TabAt E ad G n y := by
  intro y hy
  unfold f_X3_tableAt at h
  simp only [jn] at h
  repeat' split at h
  all_goals first | (cases h; done) | (cases h; cases hy; done) | (cases h; cases hy; exact hr.2 _ (rowIn (by assumption)))

set_option maxHeartbeats 4000000 in
set_option maxRecDepth 100000 in
theorem c_X3_put {l : Launch} {E : En} {ad : Nat → Nat} {G : Lay} {n : Nat} (hI : adI ad n) {a0 a0L : Nat} (ha0 : ArrI E G n a0 a0L) {a1 : Int32} {a2 : Int32} {σ : St} {res : Unit × St} (hf : f_X3_put a0 a0L a1 a2 σ = some res) : Ct l yX3_put cX3_put 3 none 0 E ad G n [.ref (ad a0), .int a1, .int a2] σ none res.2 := by
  unfold f_X3_put at hf
  refine J_start (own := RX3) (lv := [(0, .ref (ad a0)), (1, .int a1), (2, .int a2)]) pnX3 rfl hI (Nat.le_of_ble_eq_true rfl) rfl (fun p e s m args below meth c F => ?_)
  refine J_aload_n (pc := 0) F dX3_put_0 rfl 0 rfl ?_
  refine J_ifnull (pc := 1) F dX3_put_1 ?_
  refine J_iload_n (pc := 4) F dX3_put_4 rfl 1 rfl ?_
  rcases ite_elim hf with ⟨c1, hf⟩ | ⟨c1, hf⟩
  · refine J_if_ltT (pc := 5) F (tgt := 18) dX3_put_5 (by decide) c1 ?_
    exact J_vret (pc := 18) F dX3_put_18 hf
  · refine J_if_ltF (pc := 5) F (tgt := 18) dX3_put_5 (by decide) c1 ?_
    refine J_iload_n (pc := 8) F dX3_put_8 rfl 1 rfl ?_
    refine J_aload_n (pc := 9) F dX3_put_9 rfl 0 rfl ?_
    refine J_alenI (pc := 10) F ha0 dX3_put_10 ?_
    rcases ite_elim hf with ⟨c2, hf⟩ | ⟨c2, hf⟩
    · refine J_icmp_geT (pc := 11) F (tgt := 18) dX3_put_11 (by decide) c2 ?_
      exact J_vret (pc := 18) F dX3_put_18 hf
    · refine J_icmp_geF (pc := 11) F (tgt := 18) dX3_put_11 (by decide) c2 ?_
      refine J_aload_n (pc := 14) F dX3_put_14 rfl 0 rfl ?_
      refine J_iload_n (pc := 15) F dX3_put_15 rfl 1 rfl ?_
      refine J_iload_n (pc := 16) F dX3_put_16 rfl 2 rfl ?_
      obtain ⟨g3, hf⟩ := grd_elim hf
      obtain ⟨σ4, eσ4, hf⟩ := nm_elim hf
      refine J_iast (pc := 17) F ha0 g3 dX3_put_17 eσ4 ?_
      exact J_vret (pc := 18) F dX3_put_18 hf
set_option maxHeartbeats 4000000 in
set_option maxRecDepth 100000 in
theorem c_X3_at {l : Launch} {E : En} {ad : Nat → Nat} {G : Lay} {n : Nat} (hI : adI ad n) {a0 a0L : Nat} (ha0 : ArrI E G n a0 a0L) {a1 : Int32} {σ : St} {res : Int32 × St} (hf : f_X3_at a0 a0L a1 σ = some res) : Ct l yX3_at cX3_at 2 (some .int) 0 E ad G n [.ref (ad a0), .int a1] σ (some (.int res.1)) res.2 := by
  unfold f_X3_at at hf
  refine J_start (own := RX3) (lv := [(0, .ref (ad a0)), (1, .int a1)]) pnX3 rfl hI (Nat.le_of_ble_eq_true rfl) rfl (fun p e s m args below meth c F => ?_)
  refine J_aload_n (pc := 0) F dX3_at_0 rfl 0 rfl ?_
  obtain ⟨k1, hk1, hf⟩ := jn_elim hf
  have hJk1 : ∀ (q1 : St), k1 q1 = some res → J p l e 0 s m args below meth c E ad G n (QI below E ad G n args s res) 2 q1 20 [] [] := by
    intro q1 hf
    replace hf := hk1 q1 hf
    refine J_iconst (pc := 20) F dX3_at_20 ki_0 ?_
    exact J_iret (pc := 21) F rfl dX3_at_21 hf
  clear hk1
  refine J_ifnull (pc := 1) F dX3_at_1 ?_
  refine J_iload_n (pc := 4) F dX3_at_4 rfl 1 rfl ?_
  rcases ite_elim hf with ⟨c2, hf⟩ | ⟨c2, hf⟩
  · refine J_if_ltT (pc := 5) F (tgt := 20) dX3_at_5 (by decide) c2 ?_
    refine J_sub [] rfl ?_
    exact hJk1 σ hf
  · refine J_if_ltF (pc := 5) F (tgt := 20) dX3_at_5 (by decide) c2 ?_
    refine J_iload_n (pc := 8) F dX3_at_8 rfl 1 rfl ?_
    refine J_aload_n (pc := 9) F dX3_at_9 rfl 0 rfl ?_
    refine J_alenI (pc := 10) F ha0 dX3_at_10 ?_
    rcases ite_elim hf with ⟨c3, hf⟩ | ⟨c3, hf⟩
    · refine J_icmp_geT (pc := 11) F (tgt := 20) dX3_at_11 (by decide) c3 ?_
      refine J_sub [] rfl ?_
      exact hJk1 σ hf
    · refine J_icmp_geF (pc := 11) F (tgt := 20) dX3_at_11 (by decide) c3 ?_
      refine J_aload_n (pc := 14) F dX3_at_14 rfl 0 rfl ?_
      refine J_iload_n (pc := 15) F dX3_at_15 rfl 1 rfl ?_
      obtain ⟨g4, hf⟩ := grd_elim hf
      refine J_iald (pc := 16) F ha0 g4 dX3_at_16 ?_
      refine J_goto (pc := 17) F (tgt := 21) dX3_at_17 (by decide) ?_
      exact J_iret (pc := 21) F rfl dX3_at_21 hf
set_option maxHeartbeats 4000000 in
set_option maxRecDepth 100000 in
theorem c_X1_holds {l : Launch} {E : En} {ad : Nat → Nat} {G : Lay} {n : Nat} (hI : adI ad n) {t : Nat} (ht : TabAt E ad G n t) {a0 : Int32} {a1 : Int32} {σ : St} {res : Int32 × St} (hf : f_X1_holds t a0 a1 σ = some res) : Ct l yX1_holds cX1_holds 3 (some .boolean) 1 E ad G n [.ref (ad t), .int a0, .int a1] σ (some (.int res.1)) res.2 := by
  unfold f_X1_holds at hf
  refine J_start (own := RX1) (lv := [(0, .ref (ad t)), (1, .int a0), (2, .int a1)]) pnX1 rfl hI (Nat.le_of_ble_eq_true rfl) rfl (fun p e s m args below meth c F => ?_)
  refine J_aload_n (pc := 0) F dX1_holds_0 rfl 0 rfl ?_
  refine gfX1_has (pc := 1) F ht wd_55 dX1_holds_1 ?_
  refine J_iload_n (pc := 4) F dX1_holds_4 rfl 1 rfl ?_
  obtain ⟨q1, h1, hf⟩ := bind_elim hf
  refine J_callNI (pc := 5) F (host := RX3) (c_X3_at hI (tabA4 ht) h1) (by omega) (by decide) wc_X3_at (by simp [nestL]) rfl rfl (Nat.le_of_ble_eq_true rfl) dX1_holds_5 ?_
  refine J_iload_n (pc := 8) F dX1_holds_8 rfl 2 rfl ?_
  refine J_ishr (pc := 9) F dX1_holds_9 ?_
  refine J_iconst (pc := 10) F dX1_holds_10 ki_1 ?_
  refine J_iand (pc := 11) F dX1_holds_11 ?_
  refine J_iconst (pc := 12) F dX1_holds_12 ki_1 ?_
  rcases ite_elim hf with ⟨c2, hf⟩ | ⟨c2, hf⟩
  · refine J_icmp_neT (pc := 13) F (tgt := 20) dX1_holds_13 (by decide) c2 ?_
    refine J_iconst (pc := 20) F dX1_holds_20 ki_0 ?_
    exact J_iret (pc := 21) F rfl dX1_holds_21 hf
  · refine J_icmp_neF (pc := 13) F (tgt := 20) dX1_holds_13 (by decide) c2 ?_
    refine J_iconst (pc := 16) F dX1_holds_16 ki_1 ?_
    refine J_goto (pc := 17) F (tgt := 21) dX1_holds_17 (by decide) ?_
    exact J_iret (pc := 21) F rfl dX1_holds_21 hf
set_option maxHeartbeats 4000000 in
set_option maxRecDepth 100000 in
theorem c_X1_wayOf {l : Launch} {E : En} {ad : Nat → Nat} {G : Lay} {n : Nat} (hI : adI ad n) {t : Nat} (ht : TabAt E ad G n t) {a0 : Int32} {a1 : Int32} {σ : St} {res : Int32 × St} (hf : f_X1_wayOf t a0 a1 σ = some res) : Ct l yX1_wayOf cX1_wayOf 3 (some .int) 1 E ad G n [.ref (ad t), .int a0, .int a1] σ (some (.int res.1)) res.2 := by
  unfold f_X1_wayOf at hf
  refine J_start (own := RX1) (lv := [(0, .ref (ad t)), (1, .int a0), (2, .int a1)]) pnX1 rfl hI (Nat.le_of_ble_eq_true rfl) rfl (fun p e s m args below meth c F => ?_)
  refine J_aload_n (pc := 0) F dX1_wayOf_0 rfl 0 rfl ?_
  refine gfX1_way (pc := 1) F ht wd_59 dX1_wayOf_1 ?_
  refine J_bipush (pc := 4) F dX1_wayOf_4 kb_8 ?_
  refine J_iload_n (pc := 6) F dX1_wayOf_6 rfl 1 rfl ?_
  refine J_imul (pc := 7) F dX1_wayOf_7 ?_
  refine J_iload_n (pc := 8) F dX1_wayOf_8 rfl 2 rfl ?_
  refine J_iadd (pc := 9) F dX1_wayOf_9 ?_
  obtain ⟨q1, h1, hf⟩ := bind_elim hf
  refine J_callNI (pc := 10) F (host := RX3) (c_X3_at hI (tabA6 ht) h1) (by omega) (by decide) wc_X3_at (by simp [nestL]) rfl rfl (Nat.le_of_ble_eq_true rfl) dX1_wayOf_10 ?_
  exact J_iret (pc := 13) F rfl dX1_wayOf_13 hf
set_option maxHeartbeats 4000000 in
set_option maxRecDepth 100000 in
theorem c_X1_isRight {l : Launch} {E : En} {ad : Nat → Nat} {G : Lay} {n : Nat} (hI : adI ad n) {t : Nat} (ht : TabAt E ad G n t) {a0 : Int32} {a1 : Int32} {σ : St} {res : Int32 × St} (hf : f_X1_isRight t a0 a1 σ = some res) : Ct l yX1_isRight cX1_isRight 3 (some .boolean) 1 E ad G n [.ref (ad t), .int a0, .int a1] σ (some (.int res.1)) res.2 := by
  unfold f_X1_isRight at hf
  refine J_start (own := RX1) (lv := [(0, .ref (ad t)), (1, .int a0), (2, .int a1)]) pnX1 rfl hI (Nat.le_of_ble_eq_true rfl) rfl (fun p e s m args below meth c F => ?_)
  refine J_aload_n (pc := 0) F dX1_isRight_0 rfl 0 rfl ?_
  refine gfX1_right (pc := 1) F ht wd_57 dX1_isRight_1 ?_
  refine J_iload_n (pc := 4) F dX1_isRight_4 rfl 1 rfl ?_
  obtain ⟨q1, h1, hf⟩ := bind_elim hf
  refine J_callNI (pc := 5) F (host := RX3) (c_X3_at hI (tabA5 ht) h1) (by omega) (by decide) wc_X3_at (by simp [nestL]) rfl rfl (Nat.le_of_ble_eq_true rfl) dX1_isRight_5 ?_
  refine J_iload_n (pc := 8) F dX1_isRight_8 rfl 2 rfl ?_
  refine J_ishr (pc := 9) F dX1_isRight_9 ?_
  refine J_iconst (pc := 10) F dX1_isRight_10 ki_1 ?_
  refine J_iand (pc := 11) F dX1_isRight_11 ?_
  refine J_iconst (pc := 12) F dX1_isRight_12 ki_1 ?_
  rcases ite_elim hf with ⟨c2, hf⟩ | ⟨c2, hf⟩
  · refine J_icmp_neT (pc := 13) F (tgt := 20) dX1_isRight_13 (by decide) c2 ?_
    refine J_iconst (pc := 20) F dX1_isRight_20 ki_0 ?_
    exact J_iret (pc := 21) F rfl dX1_isRight_21 hf
  · refine J_icmp_neF (pc := 13) F (tgt := 20) dX1_isRight_13 (by decide) c2 ?_
    refine J_iconst (pc := 16) F dX1_isRight_16 ki_1 ?_
    refine J_goto (pc := 17) F (tgt := 21) dX1_isRight_17 (by decide) ?_
    exact J_iret (pc := 21) F rfl dX1_isRight_21 hf
set_option maxHeartbeats 4000000 in
set_option maxRecDepth 100000 in
theorem c_X3_tableAt {l : Launch} {E : En} {ad : Nat → Nat} {G : Lay} {n : Nat} (hI : adI ad n) {a0 a0L : Nat} (ha0 : RowA E ad G n a0 a0L) {a1 : Int32} {σ : St} {res : Option Nat × St} (hf : f_X3_tableAt a0 a0L a1 σ = some res) : Ct l yX3_tableAt cX3_tableAt 2 (some (.object "LastTongue$Table")) 0 E ad G n [.ref (ad a0), .int a1] σ (some (va_re ad res.1)) res.2 := by
  unfold f_X3_tableAt at hf
  refine J_start (own := RX3) (lv := [(0, .ref (ad a0)), (1, .int a1)]) pnX3 rfl hI (Nat.le_of_ble_eq_true rfl) rfl (fun p e s m args below meth c F => ?_)
  refine J_aload_n (pc := 0) F dX3_tableAt_0 rfl 0 rfl ?_
  obtain ⟨k1, hk1, hf⟩ := jn_elim hf
  have hJk1 : ∀ (q1 : St), k1 q1 = some res → J p l e 0 s m args below meth c E ad G n (QR below E ad G n args s res) 2 q1 20 [] [] := by
    intro q1 hf
    replace hf := hk1 q1 hf
    refine J_null (pc := 20) F dX3_tableAt_20 ?_
    exact J_aretN (pc := 21) F dX3_tableAt_21 hf
  clear hk1
  refine J_ifnull (pc := 1) F dX3_tableAt_1 ?_
  refine J_iload_n (pc := 4) F dX3_tableAt_4 rfl 1 rfl ?_
  rcases ite_elim hf with ⟨c2, hf⟩ | ⟨c2, hf⟩
  · refine J_if_ltT (pc := 5) F (tgt := 20) dX3_tableAt_5 (by decide) c2 ?_
    refine J_sub [] rfl ?_
    exact hJk1 σ hf
  · refine J_if_ltF (pc := 5) F (tgt := 20) dX3_tableAt_5 (by decide) c2 ?_
    refine J_iload_n (pc := 8) F dX3_tableAt_8 rfl 1 rfl ?_
    refine J_aload_n (pc := 9) F dX3_tableAt_9 rfl 0 rfl ?_
    refine J_alenT (pc := 10) F ha0.1 dX3_tableAt_10 ?_
    rcases ite_elim hf with ⟨c3, hf⟩ | ⟨c3, hf⟩
    · refine J_icmp_geT (pc := 11) F (tgt := 20) dX3_tableAt_11 (by decide) c3 ?_
      refine J_sub [] rfl ?_
      exact hJk1 σ hf
    · refine J_icmp_geF (pc := 11) F (tgt := 20) dX3_tableAt_11 (by decide) c3 ?_
      refine J_aload_n (pc := 14) F dX3_tableAt_14 rfl 0 rfl ?_
      refine J_iload_n (pc := 15) F dX3_tableAt_15 rfl 1 rfl ?_
      obtain ⟨g4, hf⟩ := grd_elim hf
      refine J_aald (pc := 16) F ha0.1 g4 dX3_tableAt_16 ?_
      refine J_goto (pc := 17) F (tgt := 21) dX3_tableAt_17 (by decide) ?_
      exact J_aret (pc := 21) F dX3_tableAt_21 hf
end

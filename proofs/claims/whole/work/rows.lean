section
-- ===== PART A: goes FIRST, ahead of the names: the tables' words, and 'selects' of the private methods out of them =====
/-- a private method of a class that the tables say can be made, by its rows of tables_1 -/
def lw_okq (q : MethodName × Nat) : Prop := (q.1.cls ≠ "java/lang/invoke/MethodHandle" ∧ q.1.cls ≠ "java/lang/invoke/VarHandle") ∧ Cond.instantiable q.1.cls q.2 ∈ tables_1 ∧ Cond.privateMethod q.1 ∈ tables_1 ∧ Cond.instanceMethod q.1 ∈ tables_1
theorem lw_p0 : lw_okq (⟨"StringPuppets", "refuseBad", "(I)I"⟩, 16) := ⟨⟨by decide +kernel, by decide +kernel⟩, List.mem_of_getElem? (i := 16) (by decide +kernel), List.mem_of_getElem? (i := 282) (by decide +kernel), List.mem_of_getElem? (i := 283) (by decide +kernel)⟩
theorem lw_p1 : lw_okq (⟨"StringPuppets$Puppet", "begin", "(I)V"⟩, 15) := ⟨⟨by decide +kernel, by decide +kernel⟩, List.mem_of_getElem? (i := 24) (by decide +kernel), List.mem_of_getElem? (i := 286) (by decide +kernel), List.mem_of_getElem? (i := 287) (by decide +kernel)⟩
theorem lw_p2 : lw_okq (⟨"StringPuppets$Pose", "begin", "(I)V"⟩, 5) := ⟨⟨by decide +kernel, by decide +kernel⟩, List.mem_of_getElem? (i := 30) (by decide +kernel), List.mem_of_getElem? (i := 290) (by decide +kernel), List.mem_of_getElem? (i := 291) (by decide +kernel)⟩
theorem lw_p3 : lw_okq (⟨"StringPuppets$Table", "drain", "()I"⟩, 4) := ⟨⟨by decide +kernel, by decide +kernel⟩, List.mem_of_getElem? (i := 69) (by decide +kernel), List.mem_of_getElem? (i := 297) (by decide +kernel), List.mem_of_getElem? (i := 298) (by decide +kernel)⟩
theorem lw_p4 : lw_okq (⟨"StringPuppets", "refuseFull", "()I"⟩, 16) := ⟨⟨by decide +kernel, by decide +kernel⟩, List.mem_of_getElem? (i := 16) (by decide +kernel), List.mem_of_getElem? (i := 305) (by decide +kernel), List.mem_of_getElem? (i := 306) (by decide +kernel)⟩
theorem lw_p5 : lw_okq (⟨"StringPuppets$Puppet", "add", "(IIIII)I"⟩, 15) := ⟨⟨by decide +kernel, by decide +kernel⟩, List.mem_of_getElem? (i := 24) (by decide +kernel), List.mem_of_getElem? (i := 309) (by decide +kernel), List.mem_of_getElem? (i := 310) (by decide +kernel)⟩
theorem lw_p6 : lw_okq (⟨"StringPuppets$Reader", "append", "(I)I"⟩, 6) := ⟨⟨by decide +kernel, by decide +kernel⟩, List.mem_of_getElem? (i := 153) (by decide +kernel), List.mem_of_getElem? (i := 317) (by decide +kernel), List.mem_of_getElem? (i := 318) (by decide +kernel)⟩
theorem lw_p7 : lw_okq (⟨"StringPuppets$Reader", "readInto", "(LStringPuppets$Puppet;)I"⟩, 6) := ⟨⟨by decide +kernel, by decide +kernel⟩, List.mem_of_getElem? (i := 153) (by decide +kernel), List.mem_of_getElem? (i := 330) (by decide +kernel), List.mem_of_getElem? (i := 331) (by decide +kernel)⟩
theorem lw_p8 : lw_okq (⟨"StringPuppets$Reader", "takeOpening", "(LStringPuppets$Puppet;)Z"⟩, 6) := ⟨⟨by decide +kernel, by decide +kernel⟩, List.mem_of_getElem? (i := 153) (by decide +kernel), List.mem_of_getElem? (i := 334) (by decide +kernel), List.mem_of_getElem? (i := 335) (by decide +kernel)⟩
theorem lw_p9 : lw_okq (⟨"StringPuppets$Reader", "advance", "()V"⟩, 6) := ⟨⟨by decide +kernel, by decide +kernel⟩, List.mem_of_getElem? (i := 153) (by decide +kernel), List.mem_of_getElem? (i := 338) (by decide +kernel), List.mem_of_getElem? (i := 339) (by decide +kernel)⟩
theorem lw_p10 : lw_okq (⟨"StringPuppets$Reader", "runEnd", "(III)I"⟩, 6) := ⟨⟨by decide +kernel, by decide +kernel⟩, List.mem_of_getElem? (i := 153) (by decide +kernel), List.mem_of_getElem? (i := 342) (by decide +kernel), List.mem_of_getElem? (i := 343) (by decide +kernel)⟩
theorem lw_p11 : lw_okq (⟨"StringPuppets$Reader", "isWord", "(Ljava/lang/String;)Z"⟩, 6) := ⟨⟨by decide +kernel, by decide +kernel⟩, List.mem_of_getElem? (i := 153) (by decide +kernel), List.mem_of_getElem? (i := 351) (by decide +kernel), List.mem_of_getElem? (i := 352) (by decide +kernel)⟩
theorem lw_p12 : lw_okq (⟨"StringPuppets$Reader", "takeNumber", "(II)Z"⟩, 6) := ⟨⟨by decide +kernel, by decide +kernel⟩, List.mem_of_getElem? (i := 153) (by decide +kernel), List.mem_of_getElem? (i := 403) (by decide +kernel), List.mem_of_getElem? (i := 404) (by decide +kernel)⟩
theorem lw_p13 : lw_okq (⟨"StringPuppets$Reader", "isNumber", "(II)Z"⟩, 6) := ⟨⟨by decide +kernel, by decide +kernel⟩, List.mem_of_getElem? (i := 153) (by decide +kernel), List.mem_of_getElem? (i := 407) (by decide +kernel), List.mem_of_getElem? (i := 408) (by decide +kernel)⟩
theorem lw_p14 : lw_okq (⟨"StringPuppets$Reader", "takeSemicolon", "()Z"⟩, 6) := ⟨⟨by decide +kernel, by decide +kernel⟩, List.mem_of_getElem? (i := 153) (by decide +kernel), List.mem_of_getElem? (i := 412) (by decide +kernel), List.mem_of_getElem? (i := 413) (by decide +kernel)⟩
theorem lw_p15 : lw_okq (⟨"StringPuppets$Reader", "takeItem", "(LStringPuppets$Puppet;)Z"⟩, 6) := ⟨⟨by decide +kernel, by decide +kernel⟩, List.mem_of_getElem? (i := 153) (by decide +kernel), List.mem_of_getElem? (i := 416) (by decide +kernel), List.mem_of_getElem? (i := 417) (by decide +kernel)⟩
def lw_privs_1 : List (MethodName × Nat) := [(⟨"StringPuppets", "refuseBad", "(I)I"⟩, 16), (⟨"StringPuppets$Puppet", "begin", "(I)V"⟩, 15), (⟨"StringPuppets$Pose", "begin", "(I)V"⟩, 5), (⟨"StringPuppets$Table", "drain", "()I"⟩, 4), (⟨"StringPuppets", "refuseFull", "()I"⟩, 16), (⟨"StringPuppets$Puppet", "add", "(IIIII)I"⟩, 15), (⟨"StringPuppets$Reader", "append", "(I)I"⟩, 6), (⟨"StringPuppets$Reader", "readInto", "(LStringPuppets$Puppet;)I"⟩, 6), (⟨"StringPuppets$Reader", "takeOpening", "(LStringPuppets$Puppet;)Z"⟩, 6), (⟨"StringPuppets$Reader", "advance", "()V"⟩, 6), (⟨"StringPuppets$Reader", "runEnd", "(III)I"⟩, 6), (⟨"StringPuppets$Reader", "isWord", "(Ljava/lang/String;)Z"⟩, 6), (⟨"StringPuppets$Reader", "takeNumber", "(II)Z"⟩, 6), (⟨"StringPuppets$Reader", "isNumber", "(II)Z"⟩, 6), (⟨"StringPuppets$Reader", "takeSemicolon", "()Z"⟩, 6), (⟨"StringPuppets$Reader", "takeItem", "(LStringPuppets$Puppet;)Z"⟩, 6)]
theorem lw_r1 : ∀ q ∈ lw_privs_1, lw_okq q := List.forall_mem_cons.mpr ⟨lw_p0, List.forall_mem_cons.mpr ⟨lw_p1, List.forall_mem_cons.mpr ⟨lw_p2, List.forall_mem_cons.mpr ⟨lw_p3, List.forall_mem_cons.mpr ⟨lw_p4, List.forall_mem_cons.mpr ⟨lw_p5, List.forall_mem_cons.mpr ⟨lw_p6, List.forall_mem_cons.mpr ⟨lw_p7, List.forall_mem_cons.mpr ⟨lw_p8, List.forall_mem_cons.mpr ⟨lw_p9, List.forall_mem_cons.mpr ⟨lw_p10, List.forall_mem_cons.mpr ⟨lw_p11, List.forall_mem_cons.mpr ⟨lw_p12, List.forall_mem_cons.mpr ⟨lw_p13, List.forall_mem_cons.mpr ⟨lw_p14, List.forall_mem_cons.mpr ⟨lw_p15, fun _ h => absurd h List.not_mem_nil⟩⟩⟩⟩⟩⟩⟩⟩⟩⟩⟩⟩⟩⟩⟩⟩
theorem lw_p16 : lw_okq (⟨"StringPuppets$Reader", "takeLimb", "(LStringPuppets$Puppet;)Z"⟩, 6) := ⟨⟨by decide +kernel, by decide +kernel⟩, List.mem_of_getElem? (i := 153) (by decide +kernel), List.mem_of_getElem? (i := 421) (by decide +kernel), List.mem_of_getElem? (i := 422) (by decide +kernel)⟩
theorem lw_p17 : lw_okq (⟨"StringPuppets$Reader", "takeMoves", "(LStringPuppets$Puppet;)Z"⟩, 6) := ⟨⟨by decide +kernel, by decide +kernel⟩, List.mem_of_getElem? (i := 153) (by decide +kernel), List.mem_of_getElem? (i := 427) (by decide +kernel), List.mem_of_getElem? (i := 428) (by decide +kernel)⟩
theorem lw_p18 : lw_okq (⟨"StringPuppets$Puppet", "step", "(LStringPuppets$Pose;I)V"⟩, 15) := ⟨⟨by decide +kernel, by decide +kernel⟩, List.mem_of_getElem? (i := 24) (by decide +kernel), List.mem_of_getElem? (i := 431) (by decide +kernel), List.mem_of_getElem? (i := 432) (by decide +kernel)⟩
theorem lw_p19 : lw_okq (⟨"StringPuppets$Puppet", "weightOf", "(I)I"⟩, 15) := ⟨⟨by decide +kernel, by decide +kernel⟩, List.mem_of_getElem? (i := 24) (by decide +kernel), List.mem_of_getElem? (i := 446) (by decide +kernel), List.mem_of_getElem? (i := 447) (by decide +kernel)⟩
theorem lw_p20 : lw_okq (⟨"StringPuppets$Reader", "takeTie", "(LStringPuppets$Puppet;)Z"⟩, 6) := ⟨⟨by decide +kernel, by decide +kernel⟩, List.mem_of_getElem? (i := 153) (by decide +kernel), List.mem_of_getElem? (i := 454) (by decide +kernel), List.mem_of_getElem? (i := 455) (by decide +kernel)⟩
theorem lw_p21 : lw_okq (⟨"StringPuppets$Puppet", "wornOf", "(I)I"⟩, 15) := ⟨⟨by decide +kernel, by decide +kernel⟩, List.mem_of_getElem? (i := 24) (by decide +kernel), List.mem_of_getElem? (i := 458) (by decide +kernel), List.mem_of_getElem? (i := 459) (by decide +kernel)⟩
theorem lw_p22 : lw_okq (⟨"StringPuppets$Reader", "takeHang", "(LStringPuppets$Puppet;)Z"⟩, 6) := ⟨⟨by decide +kernel, by decide +kernel⟩, List.mem_of_getElem? (i := 153) (by decide +kernel), List.mem_of_getElem? (i := 466) (by decide +kernel), List.mem_of_getElem? (i := 467) (by decide +kernel)⟩
theorem lw_p23 : lw_okq (⟨"StringPuppets$Puppet", "become", "(LStringPuppets$Puppet;)V"⟩, 15) := ⟨⟨by decide +kernel, by decide +kernel⟩, List.mem_of_getElem? (i := 24) (by decide +kernel), List.mem_of_getElem? (i := 470) (by decide +kernel), List.mem_of_getElem? (i := 471) (by decide +kernel)⟩
theorem lw_p24 : lw_okq (⟨"StringPuppets$Pose", "become", "(LStringPuppets$Pose;)V"⟩, 5) := ⟨⟨by decide +kernel, by decide +kernel⟩, List.mem_of_getElem? (i := 30) (by decide +kernel), List.mem_of_getElem? (i := 477) (by decide +kernel), List.mem_of_getElem? (i := 478) (by decide +kernel)⟩
theorem lw_p25 : lw_okq (⟨"StringPuppets$Puppet", "pastAt", "(I)LStringPuppets$Pose;"⟩, 15) := ⟨⟨by decide +kernel, by decide +kernel⟩, List.mem_of_getElem? (i := 24) (by decide +kernel), List.mem_of_getElem? (i := 482) (by decide +kernel), List.mem_of_getElem? (i := 483) (by decide +kernel)⟩
theorem lw_p26 : lw_okq (⟨"StringPuppets$Table", "become", "(LStringPuppets$Table;)V"⟩, 4) := ⟨⟨by decide +kernel, by decide +kernel⟩, List.mem_of_getElem? (i := 69) (by decide +kernel), List.mem_of_getElem? (i := 486) (by decide +kernel), List.mem_of_getElem? (i := 487) (by decide +kernel)⟩
theorem lw_p27 : lw_okq (⟨"StringPuppets", "refuseNo", "()I"⟩, 16) := ⟨⟨by decide +kernel, by decide +kernel⟩, List.mem_of_getElem? (i := 16) (by decide +kernel), List.mem_of_getElem? (i := 496) (by decide +kernel), List.mem_of_getElem? (i := 497) (by decide +kernel)⟩
theorem lw_p28 : lw_okq (⟨"StringPuppets$Puppet", "remember", "()V"⟩, 15) := ⟨⟨by decide +kernel, by decide +kernel⟩, List.mem_of_getElem? (i := 24) (by decide +kernel), List.mem_of_getElem? (i := 500) (by decide +kernel), List.mem_of_getElem? (i := 501) (by decide +kernel)⟩
theorem lw_p29 : lw_okq (⟨"StringPuppets$Puppet", "snappedIn", "(LStringPuppets$Pose;)I"⟩, 15) := ⟨⟨by decide +kernel, by decide +kernel⟩, List.mem_of_getElem? (i := 24) (by decide +kernel), List.mem_of_getElem? (i := 506) (by decide +kernel), List.mem_of_getElem? (i := 507) (by decide +kernel)⟩
theorem lw_p30 : lw_okq (⟨"StringPuppets", "noLimb", "(I)Z"⟩, 16) := ⟨⟨by decide +kernel, by decide +kernel⟩, List.mem_of_getElem? (i := 16) (by decide +kernel), List.mem_of_getElem? (i := 515) (by decide +kernel), List.mem_of_getElem? (i := 516) (by decide +kernel)⟩
theorem lw_p31 : lw_okq (⟨"StringPuppets$Puppet", "holeOf", "(I)I"⟩, 15) := ⟨⟨by decide +kernel, by decide +kernel⟩, List.mem_of_getElem? (i := 24) (by decide +kernel), List.mem_of_getElem? (i := 526) (by decide +kernel), List.mem_of_getElem? (i := 527) (by decide +kernel)⟩
def lw_privs_2 : List (MethodName × Nat) := [(⟨"StringPuppets$Reader", "takeLimb", "(LStringPuppets$Puppet;)Z"⟩, 6), (⟨"StringPuppets$Reader", "takeMoves", "(LStringPuppets$Puppet;)Z"⟩, 6), (⟨"StringPuppets$Puppet", "step", "(LStringPuppets$Pose;I)V"⟩, 15), (⟨"StringPuppets$Puppet", "weightOf", "(I)I"⟩, 15), (⟨"StringPuppets$Reader", "takeTie", "(LStringPuppets$Puppet;)Z"⟩, 6), (⟨"StringPuppets$Puppet", "wornOf", "(I)I"⟩, 15), (⟨"StringPuppets$Reader", "takeHang", "(LStringPuppets$Puppet;)Z"⟩, 6), (⟨"StringPuppets$Puppet", "become", "(LStringPuppets$Puppet;)V"⟩, 15), (⟨"StringPuppets$Pose", "become", "(LStringPuppets$Pose;)V"⟩, 5), (⟨"StringPuppets$Puppet", "pastAt", "(I)LStringPuppets$Pose;"⟩, 15), (⟨"StringPuppets$Table", "become", "(LStringPuppets$Table;)V"⟩, 4), (⟨"StringPuppets", "refuseNo", "()I"⟩, 16), (⟨"StringPuppets$Puppet", "remember", "()V"⟩, 15), (⟨"StringPuppets$Puppet", "snappedIn", "(LStringPuppets$Pose;)I"⟩, 15), (⟨"StringPuppets", "noLimb", "(I)Z"⟩, 16), (⟨"StringPuppets$Puppet", "holeOf", "(I)I"⟩, 15)]
theorem lw_r2 : ∀ q ∈ lw_privs_2, lw_okq q := List.forall_mem_cons.mpr ⟨lw_p16, List.forall_mem_cons.mpr ⟨lw_p17, List.forall_mem_cons.mpr ⟨lw_p18, List.forall_mem_cons.mpr ⟨lw_p19, List.forall_mem_cons.mpr ⟨lw_p20, List.forall_mem_cons.mpr ⟨lw_p21, List.forall_mem_cons.mpr ⟨lw_p22, List.forall_mem_cons.mpr ⟨lw_p23, List.forall_mem_cons.mpr ⟨lw_p24, List.forall_mem_cons.mpr ⟨lw_p25, List.forall_mem_cons.mpr ⟨lw_p26, List.forall_mem_cons.mpr ⟨lw_p27, List.forall_mem_cons.mpr ⟨lw_p28, List.forall_mem_cons.mpr ⟨lw_p29, List.forall_mem_cons.mpr ⟨lw_p30, List.forall_mem_cons.mpr ⟨lw_p31, fun _ h => absurd h List.not_mem_nil⟩⟩⟩⟩⟩⟩⟩⟩⟩⟩⟩⟩⟩⟩⟩⟩
theorem lw_p32 : lw_okq (⟨"StringPuppets$Puppet", "goBack", "()V"⟩, 15) := ⟨⟨by decide +kernel, by decide +kernel⟩, List.mem_of_getElem? (i := 24) (by decide +kernel), List.mem_of_getElem? (i := 534) (by decide +kernel), List.mem_of_getElem? (i := 535) (by decide +kernel)⟩
theorem lw_p33 : lw_okq (⟨"StringPuppets$Puppet", "tellOf", "(II)I"⟩, 15) := ⟨⟨by decide +kernel, by decide +kernel⟩, List.mem_of_getElem? (i := 24) (by decide +kernel), List.mem_of_getElem? (i := 542) (by decide +kernel), List.mem_of_getElem? (i := 543) (by decide +kernel)⟩
theorem lw_p34 : lw_okq (⟨"StringPuppets$Puppet", "highIn", "(LStringPuppets$Pose;I)I"⟩, 15) := ⟨⟨by decide +kernel, by decide +kernel⟩, List.mem_of_getElem? (i := 24) (by decide +kernel), List.mem_of_getElem? (i := 548) (by decide +kernel), List.mem_of_getElem? (i := 549) (by decide +kernel)⟩
theorem lw_p35 : lw_okq (⟨"StringPuppets$Puppet", "highFrom", "(IIII)I"⟩, 15) := ⟨⟨by decide +kernel, by decide +kernel⟩, List.mem_of_getElem? (i := 24) (by decide +kernel), List.mem_of_getElem? (i := 555) (by decide +kernel), List.mem_of_getElem? (i := 556) (by decide +kernel)⟩
theorem lw_p36 : lw_okq (⟨"StringPuppets", "touching", "(II)Z"⟩, 16) := ⟨⟨by decide +kernel, by decide +kernel⟩, List.mem_of_getElem? (i := 16) (by decide +kernel), List.mem_of_getElem? (i := 569) (by decide +kernel), List.mem_of_getElem? (i := 570) (by decide +kernel)⟩
theorem lw_p37 : lw_okq (⟨"StringPuppets$Search", "fewest", "(LStringPuppets$Puppet;IIII)I"⟩, 8) := ⟨⟨by decide +kernel, by decide +kernel⟩, List.mem_of_getElem? (i := 179) (by decide +kernel), List.mem_of_getElem? (i := 587) (by decide +kernel), List.mem_of_getElem? (i := 588) (by decide +kernel)⟩
theorem lw_p38 : lw_okq (⟨"StringPuppets$Search", "reaches", "(LStringPuppets$Puppet;IIIII)Z"⟩, 8) := ⟨⟨by decide +kernel, by decide +kernel⟩, List.mem_of_getElem? (i := 179) (by decide +kernel), List.mem_of_getElem? (i := 593) (by decide +kernel), List.mem_of_getElem? (i := 594) (by decide +kernel)⟩
theorem lw_p39 : lw_okq (⟨"StringPuppets$Search", "isHigh", "(LStringPuppets$Puppet;IIIII)Z"⟩, 8) := ⟨⟨by decide +kernel, by decide +kernel⟩, List.mem_of_getElem? (i := 179) (by decide +kernel), List.mem_of_getElem? (i := 597) (by decide +kernel), List.mem_of_getElem? (i := 598) (by decide +kernel)⟩
theorem lw_p40 : lw_okq (⟨"StringPuppets", "farFrom", "(III)I"⟩, 16) := ⟨⟨by decide +kernel, by decide +kernel⟩, List.mem_of_getElem? (i := 16) (by decide +kernel), List.mem_of_getElem? (i := 617) (by decide +kernel), List.mem_of_getElem? (i := 618) (by decide +kernel)⟩
theorem lw_p41 : lw_okq (⟨"StringPuppets$Table", "isFull", "()Z"⟩, 4) := ⟨⟨by decide +kernel, by decide +kernel⟩, List.mem_of_getElem? (i := 69) (by decide +kernel), List.mem_of_getElem? (i := 647) (by decide +kernel), List.mem_of_getElem? (i := 648) (by decide +kernel)⟩
theorem lw_p42 : lw_okq (⟨"StringPuppets$Table", "append", "(IIIII)I"⟩, 4) := ⟨⟨by decide +kernel, by decide +kernel⟩, List.mem_of_getElem? (i := 69) (by decide +kernel), List.mem_of_getElem? (i := 651) (by decide +kernel), List.mem_of_getElem? (i := 652) (by decide +kernel)⟩
theorem lw_p43 : lw_okq (⟨"StringPuppets", "fittingWeights", "(I)I"⟩, 16) := ⟨⟨by decide +kernel, by decide +kernel⟩, List.mem_of_getElem? (i := 16) (by decide +kernel), List.mem_of_getElem? (i := 660) (by decide +kernel), List.mem_of_getElem? (i := 661) (by decide +kernel)⟩
theorem lw_p44 : lw_okq (⟨"StringPuppets", "fitsSights", "(II)Z"⟩, 16) := ⟨⟨by decide +kernel, by decide +kernel⟩, List.mem_of_getElem? (i := 16) (by decide +kernel), List.mem_of_getElem? (i := 664) (by decide +kernel), List.mem_of_getElem? (i := 665) (by decide +kernel)⟩
theorem lw_p45 : lw_okq (⟨"StringPuppets$Table", "value", "(II)I"⟩, 4) := ⟨⟨by decide +kernel, by decide +kernel⟩, List.mem_of_getElem? (i := 69) (by decide +kernel), List.mem_of_getElem? (i := 668) (by decide +kernel), List.mem_of_getElem? (i := 669) (by decide +kernel)⟩
theorem lw_p46 : lw_okq (⟨"StringPuppets", "freshHigh", "(IIII)I"⟩, 16) := ⟨⟨by decide +kernel, by decide +kernel⟩, List.mem_of_getElem? (i := 16) (by decide +kernel), List.mem_of_getElem? (i := 673) (by decide +kernel), List.mem_of_getElem? (i := 674) (by decide +kernel)⟩
theorem lw_p47 : lw_okq (⟨"StringPuppets", "alikeByLength", "(III)I"⟩, 16) := ⟨⟨by decide +kernel, by decide +kernel⟩, List.mem_of_getElem? (i := 16) (by decide +kernel), List.mem_of_getElem? (i := 698) (by decide +kernel), List.mem_of_getElem? (i := 699) (by decide +kernel)⟩
def lw_privs_3 : List (MethodName × Nat) := [(⟨"StringPuppets$Puppet", "goBack", "()V"⟩, 15), (⟨"StringPuppets$Puppet", "tellOf", "(II)I"⟩, 15), (⟨"StringPuppets$Puppet", "highIn", "(LStringPuppets$Pose;I)I"⟩, 15), (⟨"StringPuppets$Puppet", "highFrom", "(IIII)I"⟩, 15), (⟨"StringPuppets", "touching", "(II)Z"⟩, 16), (⟨"StringPuppets$Search", "fewest", "(LStringPuppets$Puppet;IIII)I"⟩, 8), (⟨"StringPuppets$Search", "reaches", "(LStringPuppets$Puppet;IIIII)Z"⟩, 8), (⟨"StringPuppets$Search", "isHigh", "(LStringPuppets$Puppet;IIIII)Z"⟩, 8), (⟨"StringPuppets", "farFrom", "(III)I"⟩, 16), (⟨"StringPuppets$Table", "isFull", "()Z"⟩, 4), (⟨"StringPuppets$Table", "append", "(IIIII)I"⟩, 4), (⟨"StringPuppets", "fittingWeights", "(I)I"⟩, 16), (⟨"StringPuppets", "fitsSights", "(II)Z"⟩, 16), (⟨"StringPuppets$Table", "value", "(II)I"⟩, 4), (⟨"StringPuppets", "freshHigh", "(IIII)I"⟩, 16), (⟨"StringPuppets", "alikeByLength", "(III)I"⟩, 16)]
theorem lw_r3 : ∀ q ∈ lw_privs_3, lw_okq q := List.forall_mem_cons.mpr ⟨lw_p32, List.forall_mem_cons.mpr ⟨lw_p33, List.forall_mem_cons.mpr ⟨lw_p34, List.forall_mem_cons.mpr ⟨lw_p35, List.forall_mem_cons.mpr ⟨lw_p36, List.forall_mem_cons.mpr ⟨lw_p37, List.forall_mem_cons.mpr ⟨lw_p38, List.forall_mem_cons.mpr ⟨lw_p39, List.forall_mem_cons.mpr ⟨lw_p40, List.forall_mem_cons.mpr ⟨lw_p41, List.forall_mem_cons.mpr ⟨lw_p42, List.forall_mem_cons.mpr ⟨lw_p43, List.forall_mem_cons.mpr ⟨lw_p44, List.forall_mem_cons.mpr ⟨lw_p45, List.forall_mem_cons.mpr ⟨lw_p46, List.forall_mem_cons.mpr ⟨lw_p47, fun _ h => absurd h List.not_mem_nil⟩⟩⟩⟩⟩⟩⟩⟩⟩⟩⟩⟩⟩⟩⟩⟩
theorem lw_p48 : lw_okq (⟨"StringPuppets", "fittingStrings", "(I)I"⟩, 16) := ⟨⟨by decide +kernel, by decide +kernel⟩, List.mem_of_getElem? (i := 16) (by decide +kernel), List.mem_of_getElem? (i := 722) (by decide +kernel), List.mem_of_getElem? (i := 723) (by decide +kernel)⟩
theorem lw_p49 : lw_okq (⟨"StringPuppets", "fitsNotes", "(II)Z"⟩, 16) := ⟨⟨by decide +kernel, by decide +kernel⟩, List.mem_of_getElem? (i := 16) (by decide +kernel), List.mem_of_getElem? (i := 726) (by decide +kernel), List.mem_of_getElem? (i := 727) (by decide +kernel)⟩
theorem lw_p50 : lw_okq (⟨"StringPuppets", "alikeByDrop", "(IIII)I"⟩, 16) := ⟨⟨by decide +kernel, by decide +kernel⟩, List.mem_of_getElem? (i := 16) (by decide +kernel), List.mem_of_getElem? (i := 734) (by decide +kernel), List.mem_of_getElem? (i := 735) (by decide +kernel)⟩
theorem lw_p51 : lw_okq (⟨"StringPuppets", "fittingKinds", "(I)I"⟩, 16) := ⟨⟨by decide +kernel, by decide +kernel⟩, List.mem_of_getElem? (i := 16) (by decide +kernel), List.mem_of_getElem? (i := 742) (by decide +kernel), List.mem_of_getElem? (i := 743) (by decide +kernel)⟩
theorem lw_p52 : lw_okq (⟨"StringPuppets", "fitsMarks", "(II)Z"⟩, 16) := ⟨⟨by decide +kernel, by decide +kernel⟩, List.mem_of_getElem? (i := 16) (by decide +kernel), List.mem_of_getElem? (i := 746) (by decide +kernel), List.mem_of_getElem? (i := 747) (by decide +kernel)⟩
theorem lw_p53 : lw_okq (⟨"StringPuppets", "alikeByHigh", "(III)I"⟩, 16) := ⟨⟨by decide +kernel, by decide +kernel⟩, List.mem_of_getElem? (i := 16) (by decide +kernel), List.mem_of_getElem? (i := 754) (by decide +kernel), List.mem_of_getElem? (i := 755) (by decide +kernel)⟩
theorem lw_p54 : lw_okq (⟨"StringPuppets$Bargain", "weigh", "(LStringPuppets$Puppet;LStringPuppets$Pose;II)V"⟩, 2) := ⟨⟨by decide +kernel, by decide +kernel⟩, List.mem_of_getElem? (i := 211) (by decide +kernel), List.mem_of_getElem? (i := 762) (by decide +kernel), List.mem_of_getElem? (i := 763) (by decide +kernel)⟩
theorem lw_p55 : lw_okq (⟨"StringPuppets$Bargain", "rests", "(II)Z"⟩, 2) := ⟨⟨by decide +kernel, by decide +kernel⟩, List.mem_of_getElem? (i := 211) (by decide +kernel), List.mem_of_getElem? (i := 776) (by decide +kernel), List.mem_of_getElem? (i := 777) (by decide +kernel)⟩
theorem lw_p56 : lw_okq (⟨"StringPuppets", "chanceOfSlack", "(II)J"⟩, 16) := ⟨⟨by decide +kernel, by decide +kernel⟩, List.mem_of_getElem? (i := 16) (by decide +kernel), List.mem_of_getElem? (i := 786) (by decide +kernel), List.mem_of_getElem? (i := 787) (by decide +kernel)⟩
theorem lw_p57 : lw_okq (⟨"StringPuppets", "setFraction", "(JJ)V"⟩, 16) := ⟨⟨by decide +kernel, by decide +kernel⟩, List.mem_of_getElem? (i := 16) (by decide +kernel), List.mem_of_getElem? (i := 790) (by decide +kernel), List.mem_of_getElem? (i := 791) (by decide +kernel)⟩
theorem lw_p58 : lw_okq (⟨"StringPuppets", "counted", "(I)I"⟩, 16) := ⟨⟨by decide +kernel, by decide +kernel⟩, List.mem_of_getElem? (i := 16) (by decide +kernel), List.mem_of_getElem? (i := 824) (by decide +kernel), List.mem_of_getElem? (i := 825) (by decide +kernel)⟩
theorem lw_p59 : lw_okq (⟨"StringPuppets$Puppet", "wornTogether", "()I"⟩, 15) := ⟨⟨by decide +kernel, by decide +kernel⟩, List.mem_of_getElem? (i := 24) (by decide +kernel), List.mem_of_getElem? (i := 828) (by decide +kernel), List.mem_of_getElem? (i := 829) (by decide +kernel)⟩
theorem lw_p60 : lw_okq (⟨"StringPuppets$Table", "digestOn", "(J)J"⟩, 4) := ⟨⟨by decide +kernel, by decide +kernel⟩, List.mem_of_getElem? (i := 69) (by decide +kernel), List.mem_of_getElem? (i := 838) (by decide +kernel), List.mem_of_getElem? (i := 839) (by decide +kernel)⟩
theorem lw_p61 : lw_okq (⟨"StringPuppetsModel", "begins", "(I)V"⟩, 21) := ⟨⟨by decide +kernel, by decide +kernel⟩, List.mem_of_getElem? (i := 843) (by decide +kernel), List.mem_of_getElem? (i := 849) (by decide +kernel), List.mem_of_getElem? (i := 850) (by decide +kernel)⟩
theorem lw_p62 : lw_okq (⟨"StringPuppetsModel", "bad", "()I"⟩, 21) := ⟨⟨by decide +kernel, by decide +kernel⟩, List.mem_of_getElem? (i := 843) (by decide +kernel), List.mem_of_getElem? (i := 925) (by decide +kernel), List.mem_of_getElem? (i := 926) (by decide +kernel)⟩
theorem lw_p63 : lw_okq (⟨"StringPuppetsModel", "full", "()I"⟩, 21) := ⟨⟨by decide +kernel, by decide +kernel⟩, List.mem_of_getElem? (i := 843) (by decide +kernel), List.mem_of_getElem? (i := 940) (by decide +kernel), List.mem_of_getElem? (i := 941) (by decide +kernel)⟩
def lw_privs_4 : List (MethodName × Nat) := [(⟨"StringPuppets", "fittingStrings", "(I)I"⟩, 16), (⟨"StringPuppets", "fitsNotes", "(II)Z"⟩, 16), (⟨"StringPuppets", "alikeByDrop", "(IIII)I"⟩, 16), (⟨"StringPuppets", "fittingKinds", "(I)I"⟩, 16), (⟨"StringPuppets", "fitsMarks", "(II)Z"⟩, 16), (⟨"StringPuppets", "alikeByHigh", "(III)I"⟩, 16), (⟨"StringPuppets$Bargain", "weigh", "(LStringPuppets$Puppet;LStringPuppets$Pose;II)V"⟩, 2), (⟨"StringPuppets$Bargain", "rests", "(II)Z"⟩, 2), (⟨"StringPuppets", "chanceOfSlack", "(II)J"⟩, 16), (⟨"StringPuppets", "setFraction", "(JJ)V"⟩, 16), (⟨"StringPuppets", "counted", "(I)I"⟩, 16), (⟨"StringPuppets$Puppet", "wornTogether", "()I"⟩, 15), (⟨"StringPuppets$Table", "digestOn", "(J)J"⟩, 4), (⟨"StringPuppetsModel", "begins", "(I)V"⟩, 21), (⟨"StringPuppetsModel", "bad", "()I"⟩, 21), (⟨"StringPuppetsModel", "full", "()I"⟩, 21)]
theorem lw_r4 : ∀ q ∈ lw_privs_4, lw_okq q := List.forall_mem_cons.mpr ⟨lw_p48, List.forall_mem_cons.mpr ⟨lw_p49, List.forall_mem_cons.mpr ⟨lw_p50, List.forall_mem_cons.mpr ⟨lw_p51, List.forall_mem_cons.mpr ⟨lw_p52, List.forall_mem_cons.mpr ⟨lw_p53, List.forall_mem_cons.mpr ⟨lw_p54, List.forall_mem_cons.mpr ⟨lw_p55, List.forall_mem_cons.mpr ⟨lw_p56, List.forall_mem_cons.mpr ⟨lw_p57, List.forall_mem_cons.mpr ⟨lw_p58, List.forall_mem_cons.mpr ⟨lw_p59, List.forall_mem_cons.mpr ⟨lw_p60, List.forall_mem_cons.mpr ⟨lw_p61, List.forall_mem_cons.mpr ⟨lw_p62, List.forall_mem_cons.mpr ⟨lw_p63, fun _ h => absurd h List.not_mem_nil⟩⟩⟩⟩⟩⟩⟩⟩⟩⟩⟩⟩⟩⟩⟩⟩
theorem lw_p64 : lw_okq (⟨"StringPuppetsModel", "limbComes", "(IIIII)V"⟩, 21) := ⟨⟨by decide +kernel, by decide +kernel⟩, List.mem_of_getElem? (i := 843) (by decide +kernel), List.mem_of_getElem? (i := 944) (by decide +kernel), List.mem_of_getElem? (i := 945) (by decide +kernel)⟩
theorem lw_p65 : lw_okq (⟨"StringPuppetsModel", "sets", "(III)V"⟩, 21) := ⟨⟨by decide +kernel, by decide +kernel⟩, List.mem_of_getElem? (i := 843) (by decide +kernel), List.mem_of_getElem? (i := 948) (by decide +kernel), List.mem_of_getElem? (i := 949) (by decide +kernel)⟩
theorem lw_p66 : lw_okq (⟨"StringPuppetsModel", "looksOn", "()V"⟩, 21) := ⟨⟨by decide +kernel, by decide +kernel⟩, List.mem_of_getElem? (i := 843) (by decide +kernel), List.mem_of_getElem? (i := 965) (by decide +kernel), List.mem_of_getElem? (i := 966) (by decide +kernel)⟩
theorem lw_p67 : lw_okq (⟨"StringPuppetsModel", "byteAt", "(I)I"⟩, 21) := ⟨⟨by decide +kernel, by decide +kernel⟩, List.mem_of_getElem? (i := 843) (by decide +kernel), List.mem_of_getElem? (i := 969) (by decide +kernel), List.mem_of_getElem? (i := 970) (by decide +kernel)⟩
theorem lw_p68 : lw_okq (⟨"StringPuppetsModel", "wordAt", "(II)I"⟩, 21) := ⟨⟨by decide +kernel, by decide +kernel⟩, List.mem_of_getElem? (i := 843) (by decide +kernel), List.mem_of_getElem? (i := 975) (by decide +kernel), List.mem_of_getElem? (i := 976) (by decide +kernel)⟩
theorem lw_p69 : lw_okq (⟨"StringPuppetsModel", "must", "(Z)V"⟩, 21) := ⟨⟨by decide +kernel, by decide +kernel⟩, List.mem_of_getElem? (i := 843) (by decide +kernel), List.mem_of_getElem? (i := 997) (by decide +kernel), List.mem_of_getElem? (i := 998) (by decide +kernel)⟩
theorem lw_p70 : lw_okq (⟨"StringPuppetsModel", "number", "(II)I"⟩, 21) := ⟨⟨by decide +kernel, by decide +kernel⟩, List.mem_of_getElem? (i := 843) (by decide +kernel), List.mem_of_getElem? (i := 1001) (by decide +kernel), List.mem_of_getElem? (i := 1002) (by decide +kernel)⟩
theorem lw_p71 : lw_okq (⟨"StringPuppetsModel", "readsItem", "()V"⟩, 21) := ⟨⟨by decide +kernel, by decide +kernel⟩, List.mem_of_getElem? (i := 843) (by decide +kernel), List.mem_of_getElem? (i := 1005) (by decide +kernel), List.mem_of_getElem? (i := 1006) (by decide +kernel)⟩
theorem lw_p72 : lw_okq (⟨"StringPuppetsModel", "readsLimb", "()V"⟩, 21) := ⟨⟨by decide +kernel, by decide +kernel⟩, List.mem_of_getElem? (i := 843) (by decide +kernel), List.mem_of_getElem? (i := 1009) (by decide +kernel), List.mem_of_getElem? (i := 1010) (by decide +kernel)⟩
theorem lw_p73 : lw_okq (⟨"StringPuppetsModel", "readsMoves", "()V"⟩, 21) := ⟨⟨by decide +kernel, by decide +kernel⟩, List.mem_of_getElem? (i := 843) (by decide +kernel), List.mem_of_getElem? (i := 1013) (by decide +kernel), List.mem_of_getElem? (i := 1014) (by decide +kernel)⟩
theorem lw_p74 : lw_okq (⟨"StringPuppetsModel", "goes", "(I)V"⟩, 21) := ⟨⟨by decide +kernel, by decide +kernel⟩, List.mem_of_getElem? (i := 843) (by decide +kernel), List.mem_of_getElem? (i := 1018) (by decide +kernel), List.mem_of_getElem? (i := 1019) (by decide +kernel)⟩
theorem lw_p75 : lw_okq (⟨"StringPuppetsModel", "wears", "()V"⟩, 21) := ⟨⟨by decide +kernel, by decide +kernel⟩, List.mem_of_getElem? (i := 843) (by decide +kernel), List.mem_of_getElem? (i := 1022) (by decide +kernel), List.mem_of_getElem? (i := 1023) (by decide +kernel)⟩
theorem lw_p76 : lw_okq (⟨"StringPuppetsModel", "isSnapped", "(I)Z"⟩, 21) := ⟨⟨by decide +kernel, by decide +kernel⟩, List.mem_of_getElem? (i := 843) (by decide +kernel), List.mem_of_getElem? (i := 1026) (by decide +kernel), List.mem_of_getElem? (i := 1027) (by decide +kernel)⟩
theorem lw_p77 : lw_okq (⟨"StringPuppetsModel", "limbOf", "(II)I"⟩, 21) := ⟨⟨by decide +kernel, by decide +kernel⟩, List.mem_of_getElem? (i := 843) (by decide +kernel), List.mem_of_getElem? (i := 1030) (by decide +kernel), List.mem_of_getElem? (i := 1031) (by decide +kernel)⟩
theorem lw_p78 : lw_okq (⟨"StringPuppetsModel", "isLimb", "(I)Z"⟩, 21) := ⟨⟨by decide +kernel, by decide +kernel⟩, List.mem_of_getElem? (i := 843) (by decide +kernel), List.mem_of_getElem? (i := 1034) (by decide +kernel), List.mem_of_getElem? (i := 1035) (by decide +kernel)⟩
theorem lw_p79 : lw_okq (⟨"StringPuppetsModel", "unsnaps", "(I)V"⟩, 21) := ⟨⟨by decide +kernel, by decide +kernel⟩, List.mem_of_getElem? (i := 843) (by decide +kernel), List.mem_of_getElem? (i := 1038) (by decide +kernel), List.mem_of_getElem? (i := 1039) (by decide +kernel)⟩
def lw_privs_5 : List (MethodName × Nat) := [(⟨"StringPuppetsModel", "limbComes", "(IIIII)V"⟩, 21), (⟨"StringPuppetsModel", "sets", "(III)V"⟩, 21), (⟨"StringPuppetsModel", "looksOn", "()V"⟩, 21), (⟨"StringPuppetsModel", "byteAt", "(I)I"⟩, 21), (⟨"StringPuppetsModel", "wordAt", "(II)I"⟩, 21), (⟨"StringPuppetsModel", "must", "(Z)V"⟩, 21), (⟨"StringPuppetsModel", "number", "(II)I"⟩, 21), (⟨"StringPuppetsModel", "readsItem", "()V"⟩, 21), (⟨"StringPuppetsModel", "readsLimb", "()V"⟩, 21), (⟨"StringPuppetsModel", "readsMoves", "()V"⟩, 21), (⟨"StringPuppetsModel", "goes", "(I)V"⟩, 21), (⟨"StringPuppetsModel", "wears", "()V"⟩, 21), (⟨"StringPuppetsModel", "isSnapped", "(I)Z"⟩, 21), (⟨"StringPuppetsModel", "limbOf", "(II)I"⟩, 21), (⟨"StringPuppetsModel", "isLimb", "(I)Z"⟩, 21), (⟨"StringPuppetsModel", "unsnaps", "(I)V"⟩, 21)]
theorem lw_r5 : ∀ q ∈ lw_privs_5, lw_okq q := List.forall_mem_cons.mpr ⟨lw_p64, List.forall_mem_cons.mpr ⟨lw_p65, List.forall_mem_cons.mpr ⟨lw_p66, List.forall_mem_cons.mpr ⟨lw_p67, List.forall_mem_cons.mpr ⟨lw_p68, List.forall_mem_cons.mpr ⟨lw_p69, List.forall_mem_cons.mpr ⟨lw_p70, List.forall_mem_cons.mpr ⟨lw_p71, List.forall_mem_cons.mpr ⟨lw_p72, List.forall_mem_cons.mpr ⟨lw_p73, List.forall_mem_cons.mpr ⟨lw_p74, List.forall_mem_cons.mpr ⟨lw_p75, List.forall_mem_cons.mpr ⟨lw_p76, List.forall_mem_cons.mpr ⟨lw_p77, List.forall_mem_cons.mpr ⟨lw_p78, List.forall_mem_cons.mpr ⟨lw_p79, fun _ h => absurd h List.not_mem_nil⟩⟩⟩⟩⟩⟩⟩⟩⟩⟩⟩⟩⟩⟩⟩⟩
theorem lw_p80 : lw_okq (⟨"StringPuppetsModel", "no", "()I"⟩, 21) := ⟨⟨by decide +kernel, by decide +kernel⟩, List.mem_of_getElem? (i := 843) (by decide +kernel), List.mem_of_getElem? (i := 1046) (by decide +kernel), List.mem_of_getElem? (i := 1047) (by decide +kernel)⟩
theorem lw_p81 : lw_okq (⟨"StringPuppetsModel", "notes", "()V"⟩, 21) := ⟨⟨by decide +kernel, by decide +kernel⟩, List.mem_of_getElem? (i := 843) (by decide +kernel), List.mem_of_getElem? (i := 1050) (by decide +kernel), List.mem_of_getElem? (i := 1051) (by decide +kernel)⟩
theorem lw_p82 : lw_okq (⟨"StringPuppetsModel", "snapped", "()I"⟩, 21) := ⟨⟨by decide +kernel, by decide +kernel⟩, List.mem_of_getElem? (i := 843) (by decide +kernel), List.mem_of_getElem? (i := 1054) (by decide +kernel), List.mem_of_getElem? (i := 1055) (by decide +kernel)⟩
theorem lw_p83 : lw_okq (⟨"StringPuppetsModel", "high", "(I)I"⟩, 21) := ⟨⟨by decide +kernel, by decide +kernel⟩, List.mem_of_getElem? (i := 843) (by decide +kernel), List.mem_of_getElem? (i := 1075) (by decide +kernel), List.mem_of_getElem? (i := 1076) (by decide +kernel)⟩
theorem lw_p84 : lw_okq (⟨"StringPuppetsModel", "highIn", "(II)I"⟩, 21) := ⟨⟨by decide +kernel, by decide +kernel⟩, List.mem_of_getElem? (i := 843) (by decide +kernel), List.mem_of_getElem? (i := 1079) (by decide +kernel), List.mem_of_getElem? (i := 1080) (by decide +kernel)⟩
theorem lw_p85 : lw_okq (⟨"StringPuppetsModel", "badTen", "()I"⟩, 21) := ⟨⟨by decide +kernel, by decide +kernel⟩, List.mem_of_getElem? (i := 843) (by decide +kernel), List.mem_of_getElem? (i := 1093) (by decide +kernel), List.mem_of_getElem? (i := 1094) (by decide +kernel)⟩
theorem lw_p86 : lw_okq (⟨"StringPuppetsModel", "found", "(III)I"⟩, 21) := ⟨⟨by decide +kernel, by decide +kernel⟩, List.mem_of_getElem? (i := 843) (by decide +kernel), List.mem_of_getElem? (i := 1097) (by decide +kernel), List.mem_of_getElem? (i := 1098) (by decide +kernel)⟩
theorem lw_p87 : lw_okq (⟨"StringPuppetsModel", "asides", "()V"⟩, 21) := ⟨⟨by decide +kernel, by decide +kernel⟩, List.mem_of_getElem? (i := 843) (by decide +kernel), List.mem_of_getElem? (i := 1105) (by decide +kernel), List.mem_of_getElem? (i := 1106) (by decide +kernel)⟩
theorem lw_p88 : lw_okq (⟨"StringPuppetsModel", "backs", "()V"⟩, 21) := ⟨⟨by decide +kernel, by decide +kernel⟩, List.mem_of_getElem? (i := 843) (by decide +kernel), List.mem_of_getElem? (i := 1109) (by decide +kernel), List.mem_of_getElem? (i := 1110) (by decide +kernel)⟩
theorem lw_p89 : lw_okq (⟨"StringPuppetsModel", "fewest", "(IIII)I"⟩, 21) := ⟨⟨by decide +kernel, by decide +kernel⟩, List.mem_of_getElem? (i := 843) (by decide +kernel), List.mem_of_getElem? (i := 1119) (by decide +kernel), List.mem_of_getElem? (i := 1120) (by decide +kernel)⟩
theorem lw_p90 : lw_okq (⟨"StringPuppetsModel", "goesBy", "(II)V"⟩, 21) := ⟨⟨by decide +kernel, by decide +kernel⟩, List.mem_of_getElem? (i := 843) (by decide +kernel), List.mem_of_getElem? (i := 1123) (by decide +kernel), List.mem_of_getElem? (i := 1124) (by decide +kernel)⟩
theorem lw_p91 : lw_okq (⟨"StringPuppetsModel", "tells", "(IIIIIIII)I"⟩, 21) := ⟨⟨by decide +kernel, by decide +kernel⟩, List.mem_of_getElem? (i := 843) (by decide +kernel), List.mem_of_getElem? (i := 1159) (by decide +kernel), List.mem_of_getElem? (i := 1160) (by decide +kernel)⟩
theorem lw_p92 : lw_okq (⟨"StringPuppetsModel", "weights", "(I)I"⟩, 21) := ⟨⟨by decide +kernel, by decide +kernel⟩, List.mem_of_getElem? (i := 843) (by decide +kernel), List.mem_of_getElem? (i := 1181) (by decide +kernel), List.mem_of_getElem? (i := 1182) (by decide +kernel)⟩
theorem lw_p93 : lw_okq (⟨"StringPuppetsModel", "heavyHigh", "(IIII)I"⟩, 21) := ⟨⟨by decide +kernel, by decide +kernel⟩, List.mem_of_getElem? (i := 843) (by decide +kernel), List.mem_of_getElem? (i := 1185) (by decide +kernel), List.mem_of_getElem? (i := 1186) (by decide +kernel)⟩
theorem lw_p94 : lw_okq (⟨"StringPuppetsModel", "parted", "(II)I"⟩, 21) := ⟨⟨by decide +kernel, by decide +kernel⟩, List.mem_of_getElem? (i := 843) (by decide +kernel), List.mem_of_getElem? (i := 1193) (by decide +kernel), List.mem_of_getElem? (i := 1194) (by decide +kernel)⟩
theorem lw_p95 : lw_okq (⟨"StringPuppetsModel", "stringsOf", "(I)I"⟩, 21) := ⟨⟨by decide +kernel, by decide +kernel⟩, List.mem_of_getElem? (i := 843) (by decide +kernel), List.mem_of_getElem? (i := 1201) (by decide +kernel), List.mem_of_getElem? (i := 1202) (by decide +kernel)⟩
def lw_privs_6 : List (MethodName × Nat) := [(⟨"StringPuppetsModel", "no", "()I"⟩, 21), (⟨"StringPuppetsModel", "notes", "()V"⟩, 21), (⟨"StringPuppetsModel", "snapped", "()I"⟩, 21), (⟨"StringPuppetsModel", "high", "(I)I"⟩, 21), (⟨"StringPuppetsModel", "highIn", "(II)I"⟩, 21), (⟨"StringPuppetsModel", "badTen", "()I"⟩, 21), (⟨"StringPuppetsModel", "found", "(III)I"⟩, 21), (⟨"StringPuppetsModel", "asides", "()V"⟩, 21), (⟨"StringPuppetsModel", "backs", "()V"⟩, 21), (⟨"StringPuppetsModel", "fewest", "(IIII)I"⟩, 21), (⟨"StringPuppetsModel", "goesBy", "(II)V"⟩, 21), (⟨"StringPuppetsModel", "tells", "(IIIIIIII)I"⟩, 21), (⟨"StringPuppetsModel", "weights", "(I)I"⟩, 21), (⟨"StringPuppetsModel", "heavyHigh", "(IIII)I"⟩, 21), (⟨"StringPuppetsModel", "parted", "(II)I"⟩, 21), (⟨"StringPuppetsModel", "stringsOf", "(I)I"⟩, 21)]
theorem lw_r6 : ∀ q ∈ lw_privs_6, lw_okq q := List.forall_mem_cons.mpr ⟨lw_p80, List.forall_mem_cons.mpr ⟨lw_p81, List.forall_mem_cons.mpr ⟨lw_p82, List.forall_mem_cons.mpr ⟨lw_p83, List.forall_mem_cons.mpr ⟨lw_p84, List.forall_mem_cons.mpr ⟨lw_p85, List.forall_mem_cons.mpr ⟨lw_p86, List.forall_mem_cons.mpr ⟨lw_p87, List.forall_mem_cons.mpr ⟨lw_p88, List.forall_mem_cons.mpr ⟨lw_p89, List.forall_mem_cons.mpr ⟨lw_p90, List.forall_mem_cons.mpr ⟨lw_p91, List.forall_mem_cons.mpr ⟨lw_p92, List.forall_mem_cons.mpr ⟨lw_p93, List.forall_mem_cons.mpr ⟨lw_p94, List.forall_mem_cons.mpr ⟨lw_p95, fun _ h => absurd h List.not_mem_nil⟩⟩⟩⟩⟩⟩⟩⟩⟩⟩⟩⟩⟩⟩⟩⟩
theorem lw_p96 : lw_okq (⟨"StringPuppetsModel", "kindsOf", "(I)I"⟩, 21) := ⟨⟨by decide +kernel, by decide +kernel⟩, List.mem_of_getElem? (i := 843) (by decide +kernel), List.mem_of_getElem? (i := 1213) (by decide +kernel), List.mem_of_getElem? (i := 1214) (by decide +kernel)⟩
theorem lw_p97 : lw_okq (⟨"StringPuppetsModel", "rests", "(II)Z"⟩, 21) := ⟨⟨by decide +kernel, by decide +kernel⟩, List.mem_of_getElem? (i := 843) (by decide +kernel), List.mem_of_getElem? (i := 1225) (by decide +kernel), List.mem_of_getElem? (i := 1226) (by decide +kernel)⟩
theorem lw_p98 : lw_okq (⟨"StringPuppetsModel", "fraction", "(JJ)I"⟩, 21) := ⟨⟨by decide +kernel, by decide +kernel⟩, List.mem_of_getElem? (i := 843) (by decide +kernel), List.mem_of_getElem? (i := 1234) (by decide +kernel), List.mem_of_getElem? (i := 1235) (by decide +kernel)⟩
theorem lw_p99 : lw_okq (⟨"StringPuppetsModel", "counted", "(I)I"⟩, 21) := ⟨⟨by decide +kernel, by decide +kernel⟩, List.mem_of_getElem? (i := 843) (by decide +kernel), List.mem_of_getElem? (i := 1267) (by decide +kernel), List.mem_of_getElem? (i := 1268) (by decide +kernel)⟩
theorem lw_p100 : lw_okq (⟨"StringPuppetsModel", "over", "(JII)J"⟩, 21) := ⟨⟨by decide +kernel, by decide +kernel⟩, List.mem_of_getElem? (i := 843) (by decide +kernel), List.mem_of_getElem? (i := 1277) (by decide +kernel), List.mem_of_getElem? (i := 1278) (by decide +kernel)⟩
def lw_privs_7 : List (MethodName × Nat) := [(⟨"StringPuppetsModel", "kindsOf", "(I)I"⟩, 21), (⟨"StringPuppetsModel", "rests", "(II)Z"⟩, 21), (⟨"StringPuppetsModel", "fraction", "(JJ)I"⟩, 21), (⟨"StringPuppetsModel", "counted", "(I)I"⟩, 21), (⟨"StringPuppetsModel", "over", "(JII)J"⟩, 21)]
theorem lw_r7 : ∀ q ∈ lw_privs_7, lw_okq q := List.forall_mem_cons.mpr ⟨lw_p96, List.forall_mem_cons.mpr ⟨lw_p97, List.forall_mem_cons.mpr ⟨lw_p98, List.forall_mem_cons.mpr ⟨lw_p99, List.forall_mem_cons.mpr ⟨lw_p100, fun _ h => absurd h List.not_mem_nil⟩⟩⟩⟩⟩
def lw_privs : List (MethodName × Nat) := lw_privs_1 ++ (lw_privs_2 ++ (lw_privs_3 ++ (lw_privs_4 ++ (lw_privs_5 ++ (lw_privs_6 ++ (lw_privs_7))))))
def lw_tbl : List Cond := k2_sels lw_privs ++ tables_1
theorem lw_privs_ok : ∀ q ∈ lw_privs, lw_okq q := by
  show ∀ q ∈ lw_privs_1 ++ (lw_privs_2 ++ (lw_privs_3 ++ (lw_privs_4 ++ (lw_privs_5 ++ (lw_privs_6 ++ (lw_privs_7)))))), lw_okq q
  exact List.forall_mem_append.mpr ⟨lw_r1, List.forall_mem_append.mpr ⟨lw_r2, List.forall_mem_append.mpr ⟨lw_r3, List.forall_mem_append.mpr ⟨lw_r4, List.forall_mem_append.mpr ⟨lw_r5, List.forall_mem_append.mpr ⟨lw_r6, lw_r7⟩⟩⟩⟩⟩⟩
end
section
/-! ===== BEGIN words of one list among another's, by their places ===== -/
theorem goodIn_r {big : List Cond} (ws : List Cond) (ps : List Nat) (hp : ws = ps.filterMap (fun i => big[i]?)) (h : ws.all goodWord = true) : GoodIn big ws := by
  intro w hw
  have h1 := List.all_eq_true.mp h w hw
  rw [hp] at hw
  obtain ⟨i, -, hi⟩ := List.mem_filterMap.mp hw
  have hm : w ∈ big := by first | exact List.mem_of_getElem? hi | exact List.getElem?_mem hi
  exact ⟨hm, good_of_word h1⟩
theorem goodIn_app {big a b : List Cond} (ha : GoodIn big a) (hb : GoodIn big b) : GoodIn big (a ++ b) := fun w h => (List.mem_append.mp h).elim (ha w) (hb w)
theorem goodIn_ca {big a b : List Cond} {c : Cond} (ha : GoodIn big (c :: a)) (hb : GoodIn big b) : GoodIn big (c :: (a ++ b)) := fun w h => (List.mem_cons.mp h).elim (fun e => ha w (List.mem_cons.mpr (Or.inl e))) (fun h => (List.mem_append.mp h).elim (fun h => ha w (List.mem_cons.mpr (Or.inr h))) (hb w))
theorem goodIn_sub {big ws : List Cond} (hm : ∀ w ∈ ws, w ∈ big) (h : ws.all goodWord = true) : GoodIn big ws := fun w hw => ⟨hm w hw, good_of_word (List.all_eq_true.mp h w hw)⟩
/-! ===== END ===== -/

/-! ===== BEGIN printed: names, fields, word lists, decode rows ===== -/
def RX0 : String := "StringPuppets$Bargain"
def TX0 : u_T := fun k => match k with
  | 0 => ("StringPuppets$Bargain", "firstGains", "[I", true)
  | _ => ("StringPuppets$Bargain", "secondGains", "[I", true)
def tyX0 : Nat → FieldType := fun k => match k with
  | 0 => .array .int
  | _ => .array .int
abbrev wsX00 : List Cond := u_ws RX0 TX0 2
theorem nmX0 : ∀ a, a < 2 → ∀ b, b < 2 → a ≠ b → (TX0 a).2.1 ≠ (TX0 b).2.1 := by decide +kernel
theorem tyX0_ok : ∀ k, k < 2 → parseFieldDescriptor (TX0 k).2.2.1 = some (tyX0 k) := by decide +kernel
abbrev cX0_init : ByteArray := prog_2_method_1_code
def yX0_init : MethodName := ⟨RX0, "<init>", "()V"⟩
abbrev cX0_weigh : ByteArray := prog_2_method_2_code
def yX0_weigh : MethodName := ⟨RX0, "weigh", "(LStringPuppets$Puppet;LStringPuppets$Pose;II)V"⟩
abbrev cX0_rests : ByteArray := prog_2_method_3_code
def yX0_rests : MethodName := ⟨RX0, "rests", "(II)Z"⟩
abbrev cX0_place : ByteArray := prog_2_method_4_code
def yX0_place : MethodName := ⟨RX0, "place", "(II)I"⟩
abbrev cX0_toll : ByteArray := prog_2_method_5_code
def yX0_toll : MethodName := ⟨RX0, "toll", "(I)I"⟩
def RX1 : String := "StringPuppets$Pose"
def TX1 : u_T := fun k => match k with
  | 0 => ("StringPuppets$Pose", "lift", "I", false)
  | 1 => ("StringPuppets$Pose", "tilt", "I", false)
  | 2 => ("StringPuppets$Pose", "move", "I", false)
  | 3 => ("StringPuppets$Pose", "holes", "[I", true)
  | _ => ("StringPuppets$Pose", "worn", "[I", true)
def tyX1 : Nat → FieldType := fun k => match k with
  | 0 => .int
  | 1 => .int
  | 2 => .int
  | 3 => .array .int
  | _ => .array .int
abbrev wsX10 : List Cond := u_ws RX1 TX1 5
theorem nmX1 : ∀ a, a < 5 → ∀ b, b < 5 → a ≠ b → (TX1 a).2.1 ≠ (TX1 b).2.1 := by decide +kernel
theorem tyX1_ok : ∀ k, k < 5 → parseFieldDescriptor (TX1 k).2.2.1 = some (tyX1 k) := by decide +kernel
abbrev cX1_init : ByteArray := prog_3_method_1_code
def yX1_init : MethodName := ⟨RX1, "<init>", "()V"⟩
abbrev cX1_become : ByteArray := prog_3_method_2_code
def yX1_become : MethodName := ⟨RX1, "become", "(LStringPuppets$Pose;)V"⟩
abbrev cX1_begin : ByteArray := prog_3_method_3_code
def yX1_begin : MethodName := ⟨RX1, "begin", "(I)V"⟩
def RX2 : String := "StringPuppets$Puppet"
def TX2 : u_T := fun k => match k with
  | 0 => ("StringPuppets$Puppet", "kinds", "[I", true)
  | 1 => ("StringPuppets$Puppet", "strings", "[I", true)
  | 2 => ("StringPuppets$Puppet", "weights", "[I", true)
  | 3 => ("StringPuppets$Puppet", "lengths", "[I", true)
  | 4 => ("StringPuppets$Puppet", "size", "I", false)
  | 5 => ("StringPuppets$Puppet", "pose", "LStringPuppets$Pose;", true)
  | 6 => ("StringPuppets$Puppet", "past", "[LStringPuppets$Pose;", true)
  | 7 => ("StringPuppets$Puppet", "nextPast", "I", false)
  | 8 => ("StringPuppets$Puppet", "undoable", "I", false)
  | 9 => ("StringPuppets$Puppet", "danceMoves", "[I", true)
  | 10 => ("StringPuppets$Puppet", "danceHighs", "[I", true)
  | 11 => ("StringPuppets$Puppet", "dancer", "I", false)
  | 12 => ("StringPuppets$Puppet", "sights", "LStringPuppets$Table;", true)
  | 13 => ("StringPuppets$Puppet", "notes", "LStringPuppets$Table;", true)
  | _ => ("StringPuppets$Puppet", "marks", "LStringPuppets$Table;", true)
def tyX2 : Nat → FieldType := fun k => match k with
  | 0 => .array .int
  | 1 => .array .int
  | 2 => .array .int
  | 3 => .array .int
  | 4 => .int
  | 5 => .object "StringPuppets$Pose"
  | 6 => .array (.object "StringPuppets$Pose")
  | 7 => .int
  | 8 => .int
  | 9 => .array .int
  | 10 => .array .int
  | 11 => .int
  | 12 => .object "StringPuppets$Table"
  | 13 => .object "StringPuppets$Table"
  | _ => .object "StringPuppets$Table"
abbrev wsX20 : List Cond := u_ws RX2 TX2 15
theorem nmX2 : ∀ a, a < 15 → ∀ b, b < 15 → a ≠ b → (TX2 a).2.1 ≠ (TX2 b).2.1 := by decide +kernel
theorem tyX2_ok : ∀ k, k < 15 → parseFieldDescriptor (TX2 k).2.2.1 = some (tyX2 k) := by decide +kernel
abbrev cX2_init : ByteArray := prog_4_method_1_code
def yX2_init : MethodName := ⟨RX2, "<init>", "()V"⟩
abbrev cX2_begin : ByteArray := prog_4_method_2_code
def yX2_begin : MethodName := ⟨RX2, "begin", "(I)V"⟩
abbrev cX2_become : ByteArray := prog_4_method_3_code
def yX2_become : MethodName := ⟨RX2, "become", "(LStringPuppets$Puppet;)V"⟩
abbrev cX2_add : ByteArray := prog_4_method_4_code
def yX2_add : MethodName := ⟨RX2, "add", "(IIIII)I"⟩
abbrev cX2_weightOf : ByteArray := prog_4_method_5_code
def yX2_weightOf : MethodName := ⟨RX2, "weightOf", "(I)I"⟩
abbrev cX2_holeOf : ByteArray := prog_4_method_6_code
def yX2_holeOf : MethodName := ⟨RX2, "holeOf", "(I)I"⟩
abbrev cX2_wornOf : ByteArray := prog_4_method_7_code
def yX2_wornOf : MethodName := ⟨RX2, "wornOf", "(I)I"⟩
abbrev cX2_step : ByteArray := prog_4_method_8_code
def yX2_step : MethodName := ⟨RX2, "step", "(LStringPuppets$Pose;I)V"⟩
abbrev cX2_snappedIn : ByteArray := prog_4_method_9_code
def yX2_snappedIn : MethodName := ⟨RX2, "snappedIn", "(LStringPuppets$Pose;)I"⟩
abbrev cX2_wornTogether : ByteArray := prog_4_method_10_code
def yX2_wornTogether : MethodName := ⟨RX2, "wornTogether", "()I"⟩
abbrev cX2_highIn : ByteArray := prog_4_method_11_code
def yX2_highIn : MethodName := ⟨RX2, "highIn", "(LStringPuppets$Pose;I)I"⟩
abbrev cX2_highFrom : ByteArray := prog_4_method_12_code
def yX2_highFrom : MethodName := ⟨RX2, "highFrom", "(IIII)I"⟩
abbrev cX2_tellOf : ByteArray := prog_4_method_13_code
def yX2_tellOf : MethodName := ⟨RX2, "tellOf", "(II)I"⟩
abbrev cX2_pastAt : ByteArray := prog_4_method_14_code
def yX2_pastAt : MethodName := ⟨RX2, "pastAt", "(I)LStringPuppets$Pose;"⟩
abbrev cX2_remember : ByteArray := prog_4_method_15_code
def yX2_remember : MethodName := ⟨RX2, "remember", "()V"⟩
abbrev cX2_goBack : ByteArray := prog_4_method_16_code
def yX2_goBack : MethodName := ⟨RX2, "goBack", "()V"⟩
def RX3 : String := "StringPuppets$Reader"
def TX3 : u_T := fun k => match k with
  | 0 => ("StringPuppets$Reader", "text", "[I", true)
  | 1 => ("StringPuppets$Reader", "length", "I", false)
  | 2 => ("StringPuppets$Reader", "start", "I", false)
  | 3 => ("StringPuppets$Reader", "end", "I", false)
  | 4 => ("StringPuppets$Reader", "sort", "I", false)
  | _ => ("StringPuppets$Reader", "number", "I", false)
def tyX3 : Nat → FieldType := fun k => match k with
  | 0 => .array .int
  | 1 => .int
  | 2 => .int
  | 3 => .int
  | 4 => .int
  | _ => .int
abbrev wsX30 : List Cond := u_ws RX3 TX3 6
theorem nmX3 : ∀ a, a < 6 → ∀ b, b < 6 → a ≠ b → (TX3 a).2.1 ≠ (TX3 b).2.1 := by decide +kernel
theorem tyX3_ok : ∀ k, k < 6 → parseFieldDescriptor (TX3 k).2.2.1 = some (tyX3 k) := by decide +kernel
abbrev cX3_init : ByteArray := prog_5_method_1_code
def yX3_init : MethodName := ⟨RX3, "<init>", "()V"⟩
abbrev cX3_append : ByteArray := prog_5_method_2_code
def yX3_append : MethodName := ⟨RX3, "append", "(I)I"⟩
abbrev cX3_readInto : ByteArray := prog_5_method_3_code
def yX3_readInto : MethodName := ⟨RX3, "readInto", "(LStringPuppets$Puppet;)I"⟩
abbrev cX3_takeOpening : ByteArray := prog_5_method_4_code
def yX3_takeOpening : MethodName := ⟨RX3, "takeOpening", "(LStringPuppets$Puppet;)Z"⟩
abbrev cX3_takeItem : ByteArray := prog_5_method_5_code
def yX3_takeItem : MethodName := ⟨RX3, "takeItem", "(LStringPuppets$Puppet;)Z"⟩
abbrev cX3_takeLimb : ByteArray := prog_5_method_6_code
def yX3_takeLimb : MethodName := ⟨RX3, "takeLimb", "(LStringPuppets$Puppet;)Z"⟩
abbrev cX3_takeMoves : ByteArray := prog_5_method_7_code
def yX3_takeMoves : MethodName := ⟨RX3, "takeMoves", "(LStringPuppets$Puppet;)Z"⟩
abbrev cX3_takeTie : ByteArray := prog_5_method_8_code
def yX3_takeTie : MethodName := ⟨RX3, "takeTie", "(LStringPuppets$Puppet;)Z"⟩
abbrev cX3_takeHang : ByteArray := prog_5_method_9_code
def yX3_takeHang : MethodName := ⟨RX3, "takeHang", "(LStringPuppets$Puppet;)Z"⟩
abbrev cX3_takeNumber : ByteArray := prog_5_method_10_code
def yX3_takeNumber : MethodName := ⟨RX3, "takeNumber", "(II)Z"⟩
abbrev cX3_takeSemicolon : ByteArray := prog_5_method_11_code
def yX3_takeSemicolon : MethodName := ⟨RX3, "takeSemicolon", "()Z"⟩
abbrev cX3_isNumber : ByteArray := prog_5_method_12_code
def yX3_isNumber : MethodName := ⟨RX3, "isNumber", "(II)Z"⟩
abbrev cX3_isWord : ByteArray := prog_5_method_13_code
def yX3_isWord : MethodName := ⟨RX3, "isWord", "(Ljava/lang/String;)Z"⟩
abbrev cX3_advance : ByteArray := prog_5_method_14_code
def yX3_advance : MethodName := ⟨RX3, "advance", "()V"⟩
abbrev cX3_runEnd : ByteArray := prog_5_method_15_code
def yX3_runEnd : MethodName := ⟨RX3, "runEnd", "(III)I"⟩
def RX4 : String := "StringPuppets$Search"
def TX4 : u_T := fun k => match k with
  | 0 => ("StringPuppets$Search", "row", "[I", true)
  | 1 => ("StringPuppets$Search", "length", "I", false)
  | 2 => ("StringPuppets$Search", "firstLimb", "I", false)
  | 3 => ("StringPuppets$Search", "firstGoal", "I", false)
  | 4 => ("StringPuppets$Search", "firstWeight", "I", false)
  | 5 => ("StringPuppets$Search", "secondLimb", "I", false)
  | 6 => ("StringPuppets$Search", "secondGoal", "I", false)
  | _ => ("StringPuppets$Search", "secondWeight", "I", false)
def tyX4 : Nat → FieldType := fun k => match k with
  | 0 => .array .int
  | 1 => .int
  | 2 => .int
  | 3 => .int
  | 4 => .int
  | 5 => .int
  | 6 => .int
  | _ => .int
abbrev wsX40 : List Cond := u_ws RX4 TX4 8
theorem nmX4 : ∀ a, a < 8 → ∀ b, b < 8 → a ≠ b → (TX4 a).2.1 ≠ (TX4 b).2.1 := by decide +kernel
theorem tyX4_ok : ∀ k, k < 8 → parseFieldDescriptor (TX4 k).2.2.1 = some (tyX4 k) := by decide +kernel
abbrev cX4_init : ByteArray := prog_6_method_1_code
def yX4_init : MethodName := ⟨RX4, "<init>", "()V"⟩
abbrev cX4_fewest : ByteArray := prog_6_method_2_code
def yX4_fewest : MethodName := ⟨RX4, "fewest", "(LStringPuppets$Puppet;IIII)I"⟩
abbrev cX4_reaches : ByteArray := prog_6_method_3_code
def yX4_reaches : MethodName := ⟨RX4, "reaches", "(LStringPuppets$Puppet;IIIII)Z"⟩
abbrev cX4_isHigh : ByteArray := prog_6_method_4_code
def yX4_isHigh : MethodName := ⟨RX4, "isHigh", "(LStringPuppets$Puppet;IIIII)Z"⟩
def RX5 : String := "StringPuppets$Table"
def TX5 : u_T := fun k => match k with
  | 0 => ("StringPuppets$Table", "width", "I", true)
  | 1 => ("StringPuppets$Table", "cells", "[I", true)
  | 2 => ("StringPuppets$Table", "room", "I", true)
  | _ => ("StringPuppets$Table", "size", "I", false)
def tyX5 : Nat → FieldType := fun k => match k with
  | 0 => .int
  | 1 => .array .int
  | 2 => .int
  | _ => .int
abbrev wsX50 : List Cond := u_ws RX5 TX5 4
theorem nmX5 : ∀ a, a < 4 → ∀ b, b < 4 → a ≠ b → (TX5 a).2.1 ≠ (TX5 b).2.1 := by decide +kernel
theorem tyX5_ok : ∀ k, k < 4 → parseFieldDescriptor (TX5 k).2.2.1 = some (tyX5 k) := by decide +kernel
abbrev cX5_init : ByteArray := prog_7_method_1_code
def yX5_init : MethodName := ⟨RX5, "<init>", "(II)V"⟩
abbrev cX5_isFull : ByteArray := prog_7_method_2_code
def yX5_isFull : MethodName := ⟨RX5, "isFull", "()Z"⟩
abbrev cX5_append : ByteArray := prog_7_method_3_code
def yX5_append : MethodName := ⟨RX5, "append", "(IIIII)I"⟩
abbrev cX5_value : ByteArray := prog_7_method_4_code
def yX5_value : MethodName := ⟨RX5, "value", "(II)I"⟩
abbrev cX5_drain : ByteArray := prog_7_method_5_code
def yX5_drain : MethodName := ⟨RX5, "drain", "()I"⟩
abbrev cX5_become : ByteArray := prog_7_method_6_code
def yX5_become : MethodName := ⟨RX5, "become", "(LStringPuppets$Table;)V"⟩
abbrev cX5_digestOn : ByteArray := prog_7_method_7_code
def yX5_digestOn : MethodName := ⟨RX5, "digestOn", "(J)J"⟩
def RX6 : String := "StringPuppets"
def TX6 : u_T := fun k => match k with
  | 0 => ("StringPuppets", "now", "LStringPuppets$Puppet;", true)
  | 1 => ("StringPuppets", "draft", "LStringPuppets$Puppet;", true)
  | 2 => ("StringPuppets", "firstImage", "LStringPuppets$Puppet;", true)
  | 3 => ("StringPuppets", "secondImage", "LStringPuppets$Puppet;", true)
  | 4 => ("StringPuppets", "firstKept", "Z", false)
  | 5 => ("StringPuppets", "secondKept", "Z", false)
  | 6 => ("StringPuppets", "reader", "LStringPuppets$Reader;", true)
  | 7 => ("StringPuppets", "search", "LStringPuppets$Search;", true)
  | 8 => ("StringPuppets", "bargain", "LStringPuppets$Bargain;", true)
  | 9 => ("StringPuppets", "trial", "LStringPuppets$Pose;", true)
  | 10 => ("StringPuppets", "crowd", "[I", true)
  | 11 => ("StringPuppets", "above", "J", false)
  | 12 => ("StringPuppets", "below", "J", false)
  | 13 => ("StringPuppets", "badCalls", "I", false)
  | 14 => ("StringPuppets", "noCalls", "I", false)
  | _ => ("StringPuppets", "fullCalls", "I", false)
def tyX6 : Nat → FieldType := fun k => match k with
  | 0 => .object "StringPuppets$Puppet"
  | 1 => .object "StringPuppets$Puppet"
  | 2 => .object "StringPuppets$Puppet"
  | 3 => .object "StringPuppets$Puppet"
  | 4 => .boolean
  | 5 => .boolean
  | 6 => .object "StringPuppets$Reader"
  | 7 => .object "StringPuppets$Search"
  | 8 => .object "StringPuppets$Bargain"
  | 9 => .object "StringPuppets$Pose"
  | 10 => .array .int
  | 11 => .long
  | 12 => .long
  | 13 => .int
  | 14 => .int
  | _ => .int
abbrev wsX60 : List Cond := u_ws RX6 TX6 16
theorem nmX6 : ∀ a, a < 16 → ∀ b, b < 16 → a ≠ b → (TX6 a).2.1 ≠ (TX6 b).2.1 := by decide +kernel
theorem tyX6_ok : ∀ k, k < 16 → parseFieldDescriptor (TX6 k).2.2.1 = some (tyX6 k) := by decide +kernel
abbrev cX6_init : ByteArray := prog_1_method_1_code
def yX6_init : MethodName := ⟨RX6, "<init>", "()V"⟩
abbrev cX6_puppet : ByteArray := prog_1_method_2_code
def yX6_puppet : MethodName := ⟨RX6, "puppet", "(I)I"⟩
abbrev cX6_limb : ByteArray := prog_1_method_3_code
def yX6_limb : MethodName := ⟨RX6, "limb", "(IIIII)I"⟩
abbrev cX6_type : ByteArray := prog_1_method_4_code
def yX6_type : MethodName := ⟨RX6, "type", "(I)I"⟩
abbrev cX6_clear : ByteArray := prog_1_method_5_code
def yX6_clear : MethodName := ⟨RX6, "clear", "()I"⟩
abbrev cX6_read : ByteArray := prog_1_method_6_code
def yX6_read : MethodName := ⟨RX6, "read", "()I"⟩
abbrev cX6_moves : ByteArray := prog_1_method_7_code
def yX6_moves : MethodName := ⟨RX6, "moves", "(I)I"⟩
abbrev cX6_ties : ByteArray := prog_1_method_8_code
def yX6_ties : MethodName := ⟨RX6, "ties", "(I)I"⟩
abbrev cX6_hangs : ByteArray := prog_1_method_9_code
def yX6_hangs : MethodName := ⟨RX6, "hangs", "(II)I"⟩
abbrev cX6_undo : ByteArray := prog_1_method_10_code
def yX6_undo : MethodName := ⟨RX6, "undo", "()I"⟩
abbrev cX6_of : ByteArray := prog_1_method_11_code
def yX6_of : MethodName := ⟨RX6, "of", "(II)I"⟩
abbrev cX6_touch : ByteArray := prog_1_method_12_code
def yX6_touch : MethodName := ⟨RX6, "touch", "(I)I"⟩
abbrev cX6_safe : ByteArray := prog_1_method_13_code
def yX6_safe : MethodName := ⟨RX6, "safe", "(I)I"⟩
abbrev cX6_few : ByteArray := prog_1_method_14_code
def yX6_few : MethodName := ⟨RX6, "few", "(III)I"⟩
abbrev cX6_both : ByteArray := prog_1_method_15_code
def yX6_both : MethodName := ⟨RX6, "both", "(IIII)I"⟩
abbrev cX6_hole : ByteArray := prog_1_method_16_code
def yX6_hole : MethodName := ⟨RX6, "hole", "(III)I"⟩
abbrev cX6_beat : ByteArray := prog_1_method_17_code
def yX6_beat : MethodName := ⟨RX6, "beat", "(III)I"⟩
abbrev cX6_dance : ByteArray := prog_1_method_18_code
def yX6_dance : MethodName := ⟨RX6, "dance", "(I)I"⟩
abbrev cX6_comesOut : ByteArray := prog_1_method_19_code
def yX6_comesOut : MethodName := ⟨RX6, "comesOut", "()I"⟩
abbrev cX6_snaps : ByteArray := prog_1_method_20_code
def yX6_snaps : MethodName := ⟨RX6, "snaps", "()I"⟩
abbrev cX6_seen : ByteArray := prog_1_method_21_code
def yX6_seen : MethodName := ⟨RX6, "seen", "(IIII)I"⟩
abbrev cX6_heavy : ByteArray := prog_1_method_22_code
def yX6_heavy : MethodName := ⟨RX6, "heavy", "(II)I"⟩
abbrev cX6_tell : ByteArray := prog_1_method_23_code
def yX6_tell : MethodName := ⟨RX6, "tell", "(I)I"⟩
abbrev cX6_note : ByteArray := prog_1_method_24_code
def yX6_note : MethodName := ⟨RX6, "note", "(IIIII)I"⟩
abbrev cX6_mark : ByteArray := prog_1_method_25_code
def yX6_mark : MethodName := ⟨RX6, "mark", "(IIII)I"⟩
abbrev cX6_forget : ByteArray := prog_1_method_26_code
def yX6_forget : MethodName := ⟨RX6, "forget", "(I)I"⟩
abbrev cX6_is : ByteArray := prog_1_method_27_code
def yX6_is : MethodName := ⟨RX6, "is", "(I)I"⟩
abbrev cX6_look : ByteArray := prog_1_method_28_code
def yX6_look : MethodName := ⟨RX6, "look", "(I)I"⟩
abbrev cX6_kinds : ByteArray := prog_1_method_29_code
def yX6_kinds : MethodName := ⟨RX6, "kinds", "(I)I"⟩
abbrev cX6_ask : ByteArray := prog_1_method_30_code
def yX6_ask : MethodName := ⟨RX6, "ask", "(I)I"⟩
abbrev cX6_hands : ByteArray := prog_1_method_31_code
def yX6_hands : MethodName := ⟨RX6, "hands", "(III)I"⟩
abbrev cX6_slack : ByteArray := prog_1_method_32_code
def yX6_slack : MethodName := ⟨RX6, "slack", "(II)I"⟩
abbrev cX6_nights : ByteArray := prog_1_method_33_code
def yX6_nights : MethodName := ⟨RX6, "nights", "(II)I"⟩
abbrev cX6_part : ByteArray := prog_1_method_34_code
def yX6_part : MethodName := ⟨RX6, "part", "(I)J"⟩
abbrev cX6_image : ByteArray := prog_1_method_35_code
def yX6_image : MethodName := ⟨RX6, "image", "(I)I"⟩
abbrev cX6_from : ByteArray := prog_1_method_36_code
def yX6_from : MethodName := ⟨RX6, "from", "(I)I"⟩
abbrev cX6_status : ByteArray := prog_1_method_37_code
def yX6_status : MethodName := ⟨RX6, "status", "(I)I"⟩
abbrev cX6_count : ByteArray := prog_1_method_38_code
def yX6_count : MethodName := ⟨RX6, "count", "(I)I"⟩
abbrev cX6_digest : ByteArray := prog_1_method_39_code
def yX6_digest : MethodName := ⟨RX6, "digest", "()J"⟩
abbrev cX6_refuseBad : ByteArray := prog_1_method_40_code
def yX6_refuseBad : MethodName := ⟨RX6, "refuseBad", "(I)I"⟩
abbrev cX6_refuseNo : ByteArray := prog_1_method_41_code
def yX6_refuseNo : MethodName := ⟨RX6, "refuseNo", "()I"⟩
abbrev cX6_refuseFull : ByteArray := prog_1_method_42_code
def yX6_refuseFull : MethodName := ⟨RX6, "refuseFull", "()I"⟩
abbrev cX6_noLimb : ByteArray := prog_1_method_43_code
def yX6_noLimb : MethodName := ⟨RX6, "noLimb", "(I)Z"⟩
abbrev cX6_notHigh : ByteArray := prog_1_method_44_code
def yX6_notHigh : MethodName := ⟨RX6, "notHigh", "(I)Z"⟩
abbrev cX6_outside : ByteArray := prog_1_method_45_code
def yX6_outside : MethodName := ⟨RX6, "outside", "(III)Z"⟩
abbrev cX6_cell : ByteArray := prog_1_method_46_code
def yX6_cell : MethodName := ⟨RX6, "cell", "([II)I"⟩
abbrev cX6_put : ByteArray := prog_1_method_47_code
def yX6_put : MethodName := ⟨RX6, "put", "([III)V"⟩
abbrev cX6_copyRow : ByteArray := prog_1_method_48_code
def yX6_copyRow : MethodName := ⟨RX6, "copyRow", "([I[I)V"⟩
abbrev cX6_hasBit : ByteArray := prog_1_method_49_code
def yX6_hasBit : MethodName := ⟨RX6, "hasBit", "(II)Z"⟩
abbrev cX6_leastBit : ByteArray := prog_1_method_50_code
def yX6_leastBit : MethodName := ⟨RX6, "leastBit", "(I)I"⟩
abbrev cX6_greatestBit : ByteArray := prog_1_method_51_code
def yX6_greatestBit : MethodName := ⟨RX6, "greatestBit", "(I)I"⟩
abbrev cX6_mostAlike : ByteArray := prog_1_method_52_code
def yX6_mostAlike : MethodName := ⟨RX6, "mostAlike", "([II)I"⟩
abbrev cX6_dropOf : ByteArray := prog_1_method_53_code
def yX6_dropOf : MethodName := ⟨RX6, "dropOf", "(IIII)I"⟩
abbrev cX6_highOf : ByteArray := prog_1_method_54_code
def yX6_highOf : MethodName := ⟨RX6, "highOf", "(III)I"⟩
abbrev cX6_liftBehind : ByteArray := prog_1_method_55_code
def yX6_liftBehind : MethodName := ⟨RX6, "liftBehind", "(II)I"⟩
abbrev cX6_tiltBehind : ByteArray := prog_1_method_56_code
def yX6_tiltBehind : MethodName := ⟨RX6, "tiltBehind", "(II)I"⟩
abbrev cX6_wornBehind : ByteArray := prog_1_method_57_code
def yX6_wornBehind : MethodName := ⟨RX6, "wornBehind", "(III)I"⟩
abbrev cX6_isSnapped : ByteArray := prog_1_method_58_code
def yX6_isSnapped : MethodName := ⟨RX6, "isSnapped", "(I)Z"⟩
abbrev cX6_counted : ByteArray := prog_1_method_59_code
def yX6_counted : MethodName := ⟨RX6, "counted", "(I)I"⟩
abbrev cX6_touching : ByteArray := prog_1_method_60_code
def yX6_touching : MethodName := ⟨RX6, "touching", "(II)Z"⟩
abbrev cX6_farFrom : ByteArray := prog_1_method_61_code
def yX6_farFrom : MethodName := ⟨RX6, "farFrom", "(III)I"⟩
abbrev cX6_holeAt : ByteArray := prog_1_method_62_code
def yX6_holeAt : MethodName := ⟨RX6, "holeAt", "(III)I"⟩
abbrev cX6_chanceOfSlack : ByteArray := prog_1_method_63_code
def yX6_chanceOfSlack : MethodName := ⟨RX6, "chanceOfSlack", "(II)J"⟩
abbrev cX6_setFraction : ByteArray := prog_1_method_64_code
def yX6_setFraction : MethodName := ⟨RX6, "setFraction", "(JJ)V"⟩
abbrev cX6_fittingWeights : ByteArray := prog_1_method_65_code
def yX6_fittingWeights : MethodName := ⟨RX6, "fittingWeights", "(I)I"⟩
abbrev cX6_fitsSights : ByteArray := prog_1_method_66_code
def yX6_fitsSights : MethodName := ⟨RX6, "fitsSights", "(II)Z"⟩
abbrev cX6_fittingStrings : ByteArray := prog_1_method_67_code
def yX6_fittingStrings : MethodName := ⟨RX6, "fittingStrings", "(I)I"⟩
abbrev cX6_fitsNotes : ByteArray := prog_1_method_68_code
def yX6_fitsNotes : MethodName := ⟨RX6, "fitsNotes", "(II)Z"⟩
abbrev cX6_fittingKinds : ByteArray := prog_1_method_69_code
def yX6_fittingKinds : MethodName := ⟨RX6, "fittingKinds", "(I)I"⟩
abbrev cX6_fitsMarks : ByteArray := prog_1_method_70_code
def yX6_fitsMarks : MethodName := ⟨RX6, "fitsMarks", "(II)Z"⟩
abbrev cX6_alikeByLength : ByteArray := prog_1_method_71_code
def yX6_alikeByLength : MethodName := ⟨RX6, "alikeByLength", "(III)I"⟩
abbrev cX6_alikeByDrop : ByteArray := prog_1_method_72_code
def yX6_alikeByDrop : MethodName := ⟨RX6, "alikeByDrop", "(IIII)I"⟩
abbrev cX6_alikeByHigh : ByteArray := prog_1_method_73_code
def yX6_alikeByHigh : MethodName := ⟨RX6, "alikeByHigh", "(III)I"⟩
abbrev cX6_freshHigh : ByteArray := prog_1_method_74_code
def yX6_freshHigh : MethodName := ⟨RX6, "freshHigh", "(IIII)I"⟩
def RX7 : String := "StringPuppetsModel"
def TX7 : u_T := fun k => match k with
  | 0 => ("StringPuppetsModel", "now", "[I", true)
  | 1 => ("StringPuppetsModel", "bads", "I", false)
  | 2 => ("StringPuppetsModel", "nos", "I", false)
  | 3 => ("StringPuppetsModel", "fulls", "I", false)
  | 4 => ("StringPuppetsModel", "above", "J", false)
  | 5 => ("StringPuppetsModel", "below", "J", false)
  | 6 => ("StringPuppetsModel", "text", "[I", true)
  | 7 => ("StringPuppetsModel", "typed", "I", false)
  | 8 => ("StringPuppetsModel", "place", "I", false)
  | 9 => ("StringPuppetsModel", "begin", "I", false)
  | 10 => ("StringPuppetsModel", "token", "I", false)
  | 11 => ("StringPuppetsModel", "value", "I", false)
  | 12 => ("StringPuppetsModel", "fault", "I", false)
  | 13 => ("StringPuppetsModel", "whole", "[I", true)
  | 14 => ("StringPuppetsModel", "aside", "[I", true)
  | 15 => ("StringPuppetsModel", "rowNumber", "I", false)
  | 16 => ("StringPuppetsModel", "would", "[I", true)
  | 17 => ("StringPuppetsModel", "gainsA", "[I", true)
  | 18 => ("StringPuppetsModel", "gainsB", "[I", true)
  | 19 => ("StringPuppetsModel", "kept", "[I", true)
  | _ => ("StringPuppetsModel", "keptMany", "I", false)
def tyX7 : Nat → FieldType := fun k => match k with
  | 0 => .array .int
  | 1 => .int
  | 2 => .int
  | 3 => .int
  | 4 => .long
  | 5 => .long
  | 6 => .array .int
  | 7 => .int
  | 8 => .int
  | 9 => .int
  | 10 => .int
  | 11 => .int
  | 12 => .int
  | 13 => .array .int
  | 14 => .array .int
  | 15 => .int
  | 16 => .array .int
  | 17 => .array .int
  | 18 => .array .int
  | 19 => .array .int
  | _ => .int
abbrev wsX70 : List Cond := u_ws RX7 TX7 21
theorem nmX7 : ∀ a, a < 21 → ∀ b, b < 21 → a ≠ b → (TX7 a).2.1 ≠ (TX7 b).2.1 := by decide +kernel
theorem tyX7_ok : ∀ k, k < 21 → parseFieldDescriptor (TX7 k).2.2.1 = some (tyX7 k) := by decide +kernel
abbrev cX7_in : ByteArray := prog_9_method_2_code
def yX7_in : MethodName := ⟨RX7, "in", "(JJJ)Z"⟩
abbrev cX7_init : ByteArray := prog_9_method_3_code
def yX7_init : MethodName := ⟨RX7, "<init>", "()V"⟩
abbrev cX7_begins : ByteArray := prog_9_method_4_code
def yX7_begins : MethodName := ⟨RX7, "begins", "(I)V"⟩
abbrev cX7_bad : ByteArray := prog_9_method_5_code
def yX7_bad : MethodName := ⟨RX7, "bad", "()I"⟩
abbrev cX7_badTen : ByteArray := prog_9_method_6_code
def yX7_badTen : MethodName := ⟨RX7, "badTen", "()I"⟩
abbrev cX7_no : ByteArray := prog_9_method_7_code
def yX7_no : MethodName := ⟨RX7, "no", "()I"⟩
abbrev cX7_full : ByteArray := prog_9_method_8_code
def yX7_full : MethodName := ⟨RX7, "full", "()I"⟩
abbrev cX7_drops : ByteArray := prog_9_method_9_code
def yX7_drops : MethodName := ⟨RX7, "drops", "(IIII)I"⟩
abbrev cX7_comesTo : ByteArray := prog_9_method_10_code
def yX7_comesTo : MethodName := ⟨RX7, "comesTo", "(III)I"⟩
abbrev cX7_limbOf : ByteArray := prog_9_method_11_code
def yX7_limbOf : MethodName := ⟨RX7, "limbOf", "(II)I"⟩
abbrev cX7_sets : ByteArray := prog_9_method_12_code
def yX7_sets : MethodName := ⟨RX7, "sets", "(III)V"⟩
abbrev cX7_isLimb : ByteArray := prog_9_method_13_code
def yX7_isLimb : MethodName := ⟨RX7, "isLimb", "(I)Z"⟩
abbrev cX7_isSnapped : ByteArray := prog_9_method_14_code
def yX7_isSnapped : MethodName := ⟨RX7, "isSnapped", "(I)Z"⟩
abbrev cX7_highIn : ByteArray := prog_9_method_15_code
def yX7_highIn : MethodName := ⟨RX7, "highIn", "(II)I"⟩
abbrev cX7_high : ByteArray := prog_9_method_16_code
def yX7_high : MethodName := ⟨RX7, "high", "(I)I"⟩
abbrev cX7_wears : ByteArray := prog_9_method_17_code
def yX7_wears : MethodName := ⟨RX7, "wears", "()V"⟩
abbrev cX7_goes : ByteArray := prog_9_method_18_code
def yX7_goes : MethodName := ⟨RX7, "goes", "(I)V"⟩
abbrev cX7_snapped : ByteArray := prog_9_method_19_code
def yX7_snapped : MethodName := ⟨RX7, "snapped", "()I"⟩
abbrev cX7_puppet : ByteArray := prog_9_method_20_code
def yX7_puppet : MethodName := ⟨RX7, "puppet", "(I)I"⟩
abbrev cX7_isLimbBy : ByteArray := prog_9_method_21_code
def yX7_isLimbBy : MethodName := ⟨RX7, "isLimbBy", "(IIIII)Z"⟩
abbrev cX7_limbComes : ByteArray := prog_9_method_22_code
def yX7_limbComes : MethodName := ⟨RX7, "limbComes", "(IIIII)V"⟩
abbrev cX7_limb : ByteArray := prog_9_method_23_code
def yX7_limb : MethodName := ⟨RX7, "limb", "(IIIII)I"⟩
abbrev cX7_type : ByteArray := prog_9_method_24_code
def yX7_type : MethodName := ⟨RX7, "type", "(I)I"⟩
abbrev cX7_clear : ByteArray := prog_9_method_25_code
def yX7_clear : MethodName := ⟨RX7, "clear", "()I"⟩
abbrev cX7_byteAt : ByteArray := prog_9_method_26_code
def yX7_byteAt : MethodName := ⟨RX7, "byteAt", "(I)I"⟩
abbrev cX7_wordAt : ByteArray := prog_9_method_27_code
def yX7_wordAt : MethodName := ⟨RX7, "wordAt", "(II)I"⟩
abbrev cX7_word : ByteArray := prog_9_method_28_code
def yX7_word : MethodName := ⟨RX7, "word", "(JJJJJJ)J"⟩
abbrev cX7_looksOn : ByteArray := prog_9_method_29_code
def yX7_looksOn : MethodName := ⟨RX7, "looksOn", "()V"⟩
abbrev cX7_must : ByteArray := prog_9_method_30_code
def yX7_must : MethodName := ⟨RX7, "must", "(Z)V"⟩
abbrev cX7_number : ByteArray := prog_9_method_31_code
def yX7_number : MethodName := ⟨RX7, "number", "(II)I"⟩
abbrev cX7_readsLimb : ByteArray := prog_9_method_32_code
def yX7_readsLimb : MethodName := ⟨RX7, "readsLimb", "()V"⟩
abbrev cX7_readsMoves : ByteArray := prog_9_method_33_code
def yX7_readsMoves : MethodName := ⟨RX7, "readsMoves", "()V"⟩
abbrev cX7_readsItem : ByteArray := prog_9_method_34_code
def yX7_readsItem : MethodName := ⟨RX7, "readsItem", "()V"⟩
abbrev cX7_read : ByteArray := prog_9_method_35_code
def yX7_read : MethodName := ⟨RX7, "read", "()I"⟩
abbrev cX7_notes : ByteArray := prog_9_method_36_code
def yX7_notes : MethodName := ⟨RX7, "notes", "()V"⟩
abbrev cX7_moves : ByteArray := prog_9_method_37_code
def yX7_moves : MethodName := ⟨RX7, "moves", "(I)I"⟩
abbrev cX7_unsnaps : ByteArray := prog_9_method_38_code
def yX7_unsnaps : MethodName := ⟨RX7, "unsnaps", "(I)V"⟩
abbrev cX7_ties : ByteArray := prog_9_method_39_code
def yX7_ties : MethodName := ⟨RX7, "ties", "(I)I"⟩
abbrev cX7_hangs : ByteArray := prog_9_method_40_code
def yX7_hangs : MethodName := ⟨RX7, "hangs", "(II)I"⟩
abbrev cX7_undo : ByteArray := prog_9_method_41_code
def yX7_undo : MethodName := ⟨RX7, "undo", "()I"⟩
abbrev cX7_of : ByteArray := prog_9_method_42_code
def yX7_of : MethodName := ⟨RX7, "of", "(II)I"⟩
abbrev cX7_asides : ByteArray := prog_9_method_43_code
def yX7_asides : MethodName := ⟨RX7, "asides", "()V"⟩
abbrev cX7_backs : ByteArray := prog_9_method_44_code
def yX7_backs : MethodName := ⟨RX7, "backs", "()V"⟩
abbrev cX7_found : ByteArray := prog_9_method_45_code
def yX7_found : MethodName := ⟨RX7, "found", "(III)I"⟩
abbrev cX7_touch : ByteArray := prog_9_method_46_code
def yX7_touch : MethodName := ⟨RX7, "touch", "(I)I"⟩
abbrev cX7_safe : ByteArray := prog_9_method_47_code
def yX7_safe : MethodName := ⟨RX7, "safe", "(I)I"⟩
abbrev cX7_goesBy : ByteArray := prog_9_method_48_code
def yX7_goesBy : MethodName := ⟨RX7, "goesBy", "(II)V"⟩
abbrev cX7_fewest : ByteArray := prog_9_method_49_code
def yX7_fewest : MethodName := ⟨RX7, "fewest", "(IIII)I"⟩
abbrev cX7_few : ByteArray := prog_9_method_50_code
def yX7_few : MethodName := ⟨RX7, "few", "(III)I"⟩
abbrev cX7_both : ByteArray := prog_9_method_51_code
def yX7_both : MethodName := ⟨RX7, "both", "(IIII)I"⟩
abbrev cX7_off : ByteArray := prog_9_method_52_code
def yX7_off : MethodName := ⟨RX7, "off", "(II)I"⟩
abbrev cX7_hole : ByteArray := prog_9_method_53_code
def yX7_hole : MethodName := ⟨RX7, "hole", "(III)I"⟩
abbrev cX7_beat : ByteArray := prog_9_method_54_code
def yX7_beat : MethodName := ⟨RX7, "beat", "(III)I"⟩
abbrev cX7_dance : ByteArray := prog_9_method_55_code
def yX7_dance : MethodName := ⟨RX7, "dance", "(I)I"⟩
abbrev cX7_comesOut : ByteArray := prog_9_method_56_code
def yX7_comesOut : MethodName := ⟨RX7, "comesOut", "()I"⟩
abbrev cX7_snaps : ByteArray := prog_9_method_57_code
def yX7_snaps : MethodName := ⟨RX7, "snaps", "()I"⟩
abbrev cX7_tells : ByteArray := prog_9_method_58_code
def yX7_tells : MethodName := ⟨RX7, "tells", "(IIIIIIII)I"⟩
abbrev cX7_seen : ByteArray := prog_9_method_59_code
def yX7_seen : MethodName := ⟨RX7, "seen", "(IIII)I"⟩
abbrev cX7_note : ByteArray := prog_9_method_60_code
def yX7_note : MethodName := ⟨RX7, "note", "(IIIII)I"⟩
abbrev cX7_mark : ByteArray := prog_9_method_61_code
def yX7_mark : MethodName := ⟨RX7, "mark", "(IIII)I"⟩
abbrev cX7_forget : ByteArray := prog_9_method_62_code
def yX7_forget : MethodName := ⟨RX7, "forget", "(I)I"⟩
abbrev cX7_heavyHigh : ByteArray := prog_9_method_63_code
def yX7_heavyHigh : MethodName := ⟨RX7, "heavyHigh", "(IIII)I"⟩
abbrev cX7_weights : ByteArray := prog_9_method_64_code
def yX7_weights : MethodName := ⟨RX7, "weights", "(I)I"⟩
abbrev cX7_heavy : ByteArray := prog_9_method_65_code
def yX7_heavy : MethodName := ⟨RX7, "heavy", "(II)I"⟩
abbrev cX7_parted : ByteArray := prog_9_method_66_code
def yX7_parted : MethodName := ⟨RX7, "parted", "(II)I"⟩
abbrev cX7_tell : ByteArray := prog_9_method_67_code
def yX7_tell : MethodName := ⟨RX7, "tell", "(I)I"⟩
abbrev cX7_stringsOf : ByteArray := prog_9_method_68_code
def yX7_stringsOf : MethodName := ⟨RX7, "stringsOf", "(I)I"⟩
abbrev cX7_is : ByteArray := prog_9_method_69_code
def yX7_is : MethodName := ⟨RX7, "is", "(I)I"⟩
abbrev cX7_look : ByteArray := prog_9_method_70_code
def yX7_look : MethodName := ⟨RX7, "look", "(I)I"⟩
abbrev cX7_kindsOf : ByteArray := prog_9_method_71_code
def yX7_kindsOf : MethodName := ⟨RX7, "kindsOf", "(I)I"⟩
abbrev cX7_kinds : ByteArray := prog_9_method_72_code
def yX7_kinds : MethodName := ⟨RX7, "kinds", "(I)I"⟩
abbrev cX7_ask : ByteArray := prog_9_method_73_code
def yX7_ask : MethodName := ⟨RX7, "ask", "(I)I"⟩
abbrev cX7_rests : ByteArray := prog_9_method_74_code
def yX7_rests : MethodName := ⟨RX7, "rests", "(II)Z"⟩
abbrev cX7_hands : ByteArray := prog_9_method_75_code
def yX7_hands : MethodName := ⟨RX7, "hands", "(III)I"⟩
abbrev cX7_fraction : ByteArray := prog_9_method_76_code
def yX7_fraction : MethodName := ⟨RX7, "fraction", "(JJ)I"⟩
abbrev cX7_slack : ByteArray := prog_9_method_77_code
def yX7_slack : MethodName := ⟨RX7, "slack", "(II)I"⟩
abbrev cX7_nights : ByteArray := prog_9_method_78_code
def yX7_nights : MethodName := ⟨RX7, "nights", "(II)I"⟩
abbrev cX7_part : ByteArray := prog_9_method_79_code
def yX7_part : MethodName := ⟨RX7, "part", "(I)J"⟩
abbrev cX7_image : ByteArray := prog_9_method_80_code
def yX7_image : MethodName := ⟨RX7, "image", "(I)I"⟩
abbrev cX7_from : ByteArray := prog_9_method_81_code
def yX7_from : MethodName := ⟨RX7, "from", "(I)I"⟩
abbrev cX7_status : ByteArray := prog_9_method_82_code
def yX7_status : MethodName := ⟨RX7, "status", "(I)I"⟩
abbrev cX7_counted : ByteArray := prog_9_method_83_code
def yX7_counted : MethodName := ⟨RX7, "counted", "(I)I"⟩
abbrev cX7_count : ByteArray := prog_9_method_84_code
def yX7_count : MethodName := ⟨RX7, "count", "(I)I"⟩
abbrev cX7_over : ByteArray := prog_9_method_85_code
def yX7_over : MethodName := ⟨RX7, "over", "(JII)J"⟩
abbrev cX7_digest : ByteArray := prog_9_method_86_code
def yX7_digest : MethodName := ⟨RX7, "digest", "()J"⟩
def RJ6 : String := "java/lang/Integer"
def TJ6 : u_T := fun k => match k with
  | _ => ("", "", "", false)
def tyJ6 : Nat → FieldType := fun k => match k with
  | _ => .int
abbrev wsJ60 : List Cond := u_ws RJ6 TJ6 0
theorem nmJ6 : ∀ a, a < 0 → ∀ b, b < 0 → a ≠ b → (TJ6 a).2.1 ≠ (TJ6 b).2.1 := by decide +kernel
theorem tyJ6_ok : ∀ k, k < 0 → parseFieldDescriptor (TJ6 k).2.2.1 = some (tyJ6 k) := by decide +kernel
abbrev cJ6_bitCount_0f7a4 : ByteArray := prog_10_method_49_code
def yJ6_bitCount_0f7a4 : MethodName := ⟨RJ6, "bitCount", "(I)I"⟩
def RJ9 : String := "java/lang/Math"
def TJ9 : u_T := fun k => match k with
  | _ => ("", "", "", false)
def tyJ9 : Nat → FieldType := fun k => match k with
  | _ => .int
abbrev wsJ90 : List Cond := u_ws RJ9 TJ9 0
theorem nmJ9 : ∀ a, a < 0 → ∀ b, b < 0 → a ≠ b → (TJ9 a).2.1 ≠ (TJ9 b).2.1 := by decide +kernel
theorem tyJ9_ok : ∀ k, k < 0 → parseFieldDescriptor (TJ9 k).2.2.1 = some (tyJ9 k) := by decide +kernel
abbrev cJ9_abs_0f7a4 : ByteArray := prog_11_method_59_code
def yJ9_abs_0f7a4 : MethodName := ⟨RJ9, "abs", "(I)I"⟩
abbrev cJ9_max_7cf53 : ByteArray := prog_11_method_65_code
def yJ9_max_7cf53 : MethodName := ⟨RJ9, "max", "(II)I"⟩
abbrev cJ9_min_7cf53 : ByteArray := prog_11_method_69_code
def yJ9_min_7cf53 : MethodName := ⟨RJ9, "min", "(II)I"⟩
def RJ0 : String := "java/lang/String"
def TJ0 : u_T := fun k => match k with
  | _ => ("", "", "", false)
def tyJ0 : Nat → FieldType := fun k => match k with
  | _ => .int
abbrev wsJ00 : List Cond := u_ws RJ0 TJ0 0
theorem nmJ0 : ∀ a, a < 0 → ∀ b, b < 0 → a ≠ b → (TJ0 a).2.1 ≠ (TJ0 b).2.1 := by decide +kernel
theorem tyJ0_ok : ∀ k, k < 0 → parseFieldDescriptor (TJ0 k).2.2.1 = some (tyJ0 k) := by decide +kernel
abbrev cJ0_length_8abf5 : ByteArray := prog_12_method_54_code
def yJ0_length_8abf5 : MethodName := ⟨RJ0, "length", "()I"⟩
abbrev cJ0_charAt_5068e : ByteArray := prog_12_method_56_code
def yJ0_charAt_5068e : MethodName := ⟨RJ0, "charAt", "(I)C"⟩
abbrev cJ0_coder_7d493 : ByteArray := prog_12_method_152_code
def yJ0_coder_7d493 : MethodName := ⟨RJ0, "coder", "()B"⟩
abbrev cJ0_isLatin1_aae02 : ByteArray := prog_12_method_154_code
def yJ0_isLatin1_aae02 : MethodName := ⟨RJ0, "isLatin1", "()Z"⟩
abbrev cJ0_checkIndex_df160 : ByteArray := prog_12_method_155_code
def yJ0_checkIndex_df160 : MethodName := ⟨RJ0, "checkIndex", "(II)V"⟩
def RJ1 : String := "java/lang/StringLatin1"
def TJ1 : u_T := fun k => match k with
  | _ => ("", "", "", false)
def tyJ1 : Nat → FieldType := fun k => match k with
  | _ => .int
abbrev wsJ10 : List Cond := u_ws RJ1 TJ1 0
theorem nmJ1 : ∀ a, a < 0 → ∀ b, b < 0 → a ≠ b → (TJ1 a).2.1 ≠ (TJ1 b).2.1 := by decide +kernel
theorem tyJ1_ok : ∀ k, k < 0 → parseFieldDescriptor (TJ1 k).2.2.1 = some (tyJ1 k) := by decide +kernel
abbrev cJ1_charAt_3b067 : ByteArray := prog_13_method_2_code
def yJ1_charAt_3b067 : MethodName := ⟨RJ1, "charAt", "([BI)C"⟩
def RJ2 : String := "java/lang/StringUTF16"
def TJ2 : u_T := fun k => match k with
  | _ => ("", "", "", false)
def tyJ2 : Nat → FieldType := fun k => match k with
  | _ => .int
abbrev wsJ20 : List Cond := u_ws RJ2 TJ2 0
theorem nmJ2 : ∀ a, a < 0 → ∀ b, b < 0 → a ≠ b → (TJ2 a).2.1 ≠ (TJ2 b).2.1 := by decide +kernel
theorem tyJ2_ok : ∀ k, k < 0 → parseFieldDescriptor (TJ2 k).2.2.1 = some (tyJ2 k) := by decide +kernel
abbrev cJ2_getChar_3b067 : ByteArray := prog_14_method_5_code
def yJ2_getChar_3b067 : MethodName := ⟨RJ2, "getChar", "([BI)C"⟩
abbrev cJ2_length_9d52b : ByteArray := prog_14_method_6_code
def yJ2_length_9d52b : MethodName := ⟨RJ2, "length", "([B)I"⟩
abbrev cJ2_charAt_3b067 : ByteArray := prog_14_method_83_code
def yJ2_charAt_3b067 : MethodName := ⟨RJ2, "charAt", "([BI)C"⟩
abbrev cJ2_checkIndex_2214a : ByteArray := prog_14_method_91_code
def yJ2_checkIndex_2214a : MethodName := ⟨RJ2, "checkIndex", "(I[B)V"⟩
def RJ3 : String := "jdk/internal/util/Preconditions"
def TJ3 : u_T := fun k => match k with
  | _ => ("", "", "", false)
def tyJ3 : Nat → FieldType := fun k => match k with
  | _ => .int
abbrev wsJ30 : List Cond := u_ws RJ3 TJ3 0
theorem nmJ3 : ∀ a, a < 0 → ∀ b, b < 0 → a ≠ b → (TJ3 a).2.1 ≠ (TJ3 b).2.1 := by decide +kernel
theorem tyJ3_ok : ∀ k, k < 0 → parseFieldDescriptor (TJ3 k).2.2.1 = some (tyJ3 k) := by decide +kernel
abbrev cJ3_checkIndex_8e157 : ByteArray := prog_15_method_11_code
def yJ3_checkIndex_8e157 : MethodName := ⟨RJ3, "checkIndex", "(IILjava/util/function/BiFunction;)I"⟩
def RL : String := "StringPuppetsLaw"
abbrev cL_law : ByteArray := code
def yL_law : MethodName := ⟨RL, "law", "([I)Z"⟩
/-! ===== END ===== -/
end
section
theorem dX0_init_0 : decode cX0_init 0 = .ok (.aload_n 0, 1) := by decide +kernel
theorem dX0_init_1 : decode cX0_init 1 = .ok (.invokespecial 3, 3) := by decide +kernel
theorem dX0_init_4 : decode cX0_init 4 = .ok (.aload_n 0, 1) := by decide +kernel
theorem dX0_init_5 : decode cX0_init 5 = .ok (.bipush 25, 2) := by decide +kernel
theorem dX0_init_7 : decode cX0_init 7 = .ok (.newarray .int, 2) := by decide +kernel
theorem dX0_init_9 : decode cX0_init 9 = .ok (.putfield 9, 3) := by decide +kernel
theorem dX0_init_12 : decode cX0_init 12 = .ok (.aload_n 0, 1) := by decide +kernel
theorem dX0_init_13 : decode cX0_init 13 = .ok (.bipush 25, 2) := by decide +kernel
theorem dX0_init_15 : decode cX0_init 15 = .ok (.newarray .int, 2) := by decide +kernel
theorem dX0_init_17 : decode cX0_init 17 = .ok (.putfield 15, 3) := by decide +kernel
theorem dX0_init_20 : decode cX0_init 20 = .ok (.return_, 1) := by decide +kernel
theorem dX0_weigh_0 : decode cX0_weigh 0 = .ok (.aload_n 1, 1) := by decide +kernel
theorem dX0_weigh_1 : decode cX0_weigh 1 = .ok (.aload_n 1, 1) := by decide +kernel
theorem dX0_weigh_2 : decode cX0_weigh 2 = .ok (.getfield 18, 3) := by decide +kernel
theorem dX0_weigh_5 : decode cX0_weigh 5 = .ok (.iload_n 3, 1) := by decide +kernel
theorem dX0_weigh_6 : decode cX0_weigh 6 = .ok (.invokevirtual 24, 3) := by decide +kernel
theorem dX0_weigh_9 : decode cX0_weigh 9 = .ok (.istore 5, 2) := by decide +kernel
theorem dX0_weigh_11 : decode cX0_weigh 11 = .ok (.aload_n 1, 1) := by decide +kernel
theorem dX0_weigh_12 : decode cX0_weigh 12 = .ok (.aload_n 1, 1) := by decide +kernel
theorem dX0_weigh_13 : decode cX0_weigh 13 = .ok (.getfield 18, 3) := by decide +kernel
theorem dX0_weigh_16 : decode cX0_weigh 16 = .ok (.iload 4, 2) := by decide +kernel
theorem dX0_weigh_18 : decode cX0_weigh 18 = .ok (.invokevirtual 24, 3) := by decide +kernel
theorem dX0_weigh_21 : decode cX0_weigh 21 = .ok (.istore 6, 2) := by decide +kernel
theorem dX0_weigh_23 : decode cX0_weigh 23 = .ok (.iconst 0, 1) := by decide +kernel
theorem dX0_weigh_24 : decode cX0_weigh 24 = .ok (.istore 7, 2) := by decide +kernel
theorem dX0_weigh_26 : decode cX0_weigh 26 = .ok (.iload 7, 2) := by decide +kernel
theorem dX0_weigh_28 : decode cX0_weigh 28 = .ok (.iconst 5, 1) := by decide +kernel
theorem dX0_weigh_29 : decode cX0_weigh 29 = .ok (.if_icmp .ge 105, 3) := by decide +kernel
theorem dX0_weigh_32 : decode cX0_weigh 32 = .ok (.iconst 0, 1) := by decide +kernel
theorem dX0_weigh_33 : decode cX0_weigh 33 = .ok (.istore 8, 2) := by decide +kernel
theorem dX0_weigh_35 : decode cX0_weigh 35 = .ok (.iload 8, 2) := by decide +kernel
theorem dX0_weigh_37 : decode cX0_weigh 37 = .ok (.iconst 5, 1) := by decide +kernel
theorem dX0_weigh_38 : decode cX0_weigh 38 = .ok (.if_icmp .ge 90, 3) := by decide +kernel
theorem dX0_weigh_41 : decode cX0_weigh 41 = .ok (.aload_n 2, 1) := by decide +kernel
theorem dX0_weigh_42 : decode cX0_weigh 42 = .ok (.aload_n 1, 1) := by decide +kernel
theorem dX0_weigh_43 : decode cX0_weigh 43 = .ok (.getfield 18, 3) := by decide +kernel
theorem dX0_weigh_46 : decode cX0_weigh 46 = .ok (.invokevirtual 28, 3) := by decide +kernel
theorem dX0_weigh_49 : decode cX0_weigh 49 = .ok (.aload_n 1, 1) := by decide +kernel
theorem dX0_weigh_50 : decode cX0_weigh 50 = .ok (.aload_n 2, 1) := by decide +kernel
theorem dX0_weigh_51 : decode cX0_weigh 51 = .ok (.iload 7, 2) := by decide +kernel
theorem dX0_weigh_53 : decode cX0_weigh 53 = .ok (.invokevirtual 34, 3) := by decide +kernel
theorem dX0_weigh_56 : decode cX0_weigh 56 = .ok (.aload_n 1, 1) := by decide +kernel
theorem dX0_weigh_57 : decode cX0_weigh 57 = .ok (.aload_n 2, 1) := by decide +kernel
theorem dX0_weigh_58 : decode cX0_weigh 58 = .ok (.iload 8, 2) := by decide +kernel
theorem dX0_weigh_60 : decode cX0_weigh 60 = .ok (.invokevirtual 34, 3) := by decide +kernel
theorem dX0_weigh_63 : decode cX0_weigh 63 = .ok (.aload_n 0, 1) := by decide +kernel
theorem dX0_weigh_64 : decode cX0_weigh 64 = .ok (.getfield 9, 3) := by decide +kernel
theorem dX0_weigh_67 : decode cX0_weigh 67 = .ok (.iload 7, 2) := by decide +kernel
theorem dX0_weigh_69 : decode cX0_weigh 69 = .ok (.iload 8, 2) := by decide +kernel
theorem dX0_weigh_71 : decode cX0_weigh 71 = .ok (.invokestatic 38, 3) := by decide +kernel
theorem dX0_weigh_74 : decode cX0_weigh 74 = .ok (.aload_n 1, 1) := by decide +kernel
theorem dX0_weigh_75 : decode cX0_weigh 75 = .ok (.aload_n 2, 1) := by decide +kernel
theorem dX0_weigh_76 : decode cX0_weigh 76 = .ok (.iload_n 3, 1) := by decide +kernel
theorem dX0_weigh_77 : decode cX0_weigh 77 = .ok (.invokevirtual 24, 3) := by decide +kernel
theorem dX0_weigh_80 : decode cX0_weigh 80 = .ok (.iload 5, 2) := by decide +kernel
theorem dX0_weigh_82 : decode cX0_weigh 82 = .ok (.isub, 1) := by decide +kernel
theorem dX0_weigh_83 : decode cX0_weigh 83 = .ok (.iload 7, 2) := by decide +kernel
theorem dX0_weigh_85 : decode cX0_weigh 85 = .ok (.invokestatic 42, 3) := by decide +kernel
theorem dX0_weigh_88 : decode cX0_weigh 88 = .ok (.isub, 1) := by decide +kernel
theorem dX0_weigh_89 : decode cX0_weigh 89 = .ok (.invokestatic 46, 3) := by decide +kernel
theorem dX0_weigh_92 : decode cX0_weigh 92 = .ok (.aload_n 0, 1) := by decide +kernel
theorem dX0_weigh_93 : decode cX0_weigh 93 = .ok (.getfield 15, 3) := by decide +kernel
theorem dX0_weigh_96 : decode cX0_weigh 96 = .ok (.iload 7, 2) := by decide +kernel
theorem dX0_weigh_98 : decode cX0_weigh 98 = .ok (.iload 8, 2) := by decide +kernel
theorem dX0_weigh_100 : decode cX0_weigh 100 = .ok (.invokestatic 38, 3) := by decide +kernel
theorem dX0_weigh_103 : decode cX0_weigh 103 = .ok (.aload_n 1, 1) := by decide +kernel
theorem dX0_weigh_104 : decode cX0_weigh 104 = .ok (.aload_n 2, 1) := by decide +kernel
theorem dX0_weigh_105 : decode cX0_weigh 105 = .ok (.iload 4, 2) := by decide +kernel
theorem dX0_weigh_107 : decode cX0_weigh 107 = .ok (.invokevirtual 24, 3) := by decide +kernel
theorem dX0_weigh_110 : decode cX0_weigh 110 = .ok (.iload 6, 2) := by decide +kernel
theorem dX0_weigh_112 : decode cX0_weigh 112 = .ok (.isub, 1) := by decide +kernel
theorem dX0_weigh_113 : decode cX0_weigh 113 = .ok (.iload 8, 2) := by decide +kernel
theorem dX0_weigh_115 : decode cX0_weigh 115 = .ok (.invokestatic 42, 3) := by decide +kernel
theorem dX0_weigh_118 : decode cX0_weigh 118 = .ok (.isub, 1) := by decide +kernel
theorem dX0_weigh_119 : decode cX0_weigh 119 = .ok (.invokestatic 46, 3) := by decide +kernel
theorem dX0_weigh_122 : decode cX0_weigh 122 = .ok (.iinc 8 1, 3) := by decide +kernel
theorem dX0_weigh_125 : decode cX0_weigh 125 = .ok (.goto (-90), 3) := by decide +kernel
theorem dX0_weigh_128 : decode cX0_weigh 128 = .ok (.iinc 7 1, 3) := by decide +kernel
theorem dX0_weigh_131 : decode cX0_weigh 131 = .ok (.goto (-105), 3) := by decide +kernel
theorem dX0_weigh_134 : decode cX0_weigh 134 = .ok (.return_, 1) := by decide +kernel
theorem dX0_rests_0 : decode cX0_rests 0 = .ok (.iconst 0, 1) := by decide +kernel
theorem dX0_rests_1 : decode cX0_rests 1 = .ok (.istore_n 3, 1) := by decide +kernel
theorem dX0_rests_2 : decode cX0_rests 2 = .ok (.iload_n 3, 1) := by decide +kernel
theorem dX0_rests_3 : decode cX0_rests 3 = .ok (.iconst 5, 1) := by decide +kernel
theorem dX0_rests_4 : decode cX0_rests 4 = .ok (.if_icmp .ge 65, 3) := by decide +kernel
theorem dX0_rests_7 : decode cX0_rests 7 = .ok (.aload_n 0, 1) := by decide +kernel
theorem dX0_rests_8 : decode cX0_rests 8 = .ok (.getfield 9, 3) := by decide +kernel
theorem dX0_rests_11 : decode cX0_rests 11 = .ok (.iload_n 3, 1) := by decide +kernel
theorem dX0_rests_12 : decode cX0_rests 12 = .ok (.iload_n 2, 1) := by decide +kernel
theorem dX0_rests_13 : decode cX0_rests 13 = .ok (.invokestatic 38, 3) := by decide +kernel
theorem dX0_rests_16 : decode cX0_rests 16 = .ok (.invokestatic 50, 3) := by decide +kernel
theorem dX0_rests_19 : decode cX0_rests 19 = .ok (.aload_n 0, 1) := by decide +kernel
theorem dX0_rests_20 : decode cX0_rests 20 = .ok (.getfield 9, 3) := by decide +kernel
theorem dX0_rests_23 : decode cX0_rests 23 = .ok (.iload_n 1, 1) := by decide +kernel
theorem dX0_rests_24 : decode cX0_rests 24 = .ok (.iload_n 2, 1) := by decide +kernel
theorem dX0_rests_25 : decode cX0_rests 25 = .ok (.invokestatic 38, 3) := by decide +kernel
theorem dX0_rests_28 : decode cX0_rests 28 = .ok (.invokestatic 50, 3) := by decide +kernel
theorem dX0_rests_31 : decode cX0_rests 31 = .ok (.if_icmp .gt 30, 3) := by decide +kernel
theorem dX0_rests_34 : decode cX0_rests 34 = .ok (.aload_n 0, 1) := by decide +kernel
theorem dX0_rests_35 : decode cX0_rests 35 = .ok (.getfield 15, 3) := by decide +kernel
theorem dX0_rests_38 : decode cX0_rests 38 = .ok (.iload_n 1, 1) := by decide +kernel
theorem dX0_rests_39 : decode cX0_rests 39 = .ok (.iload_n 3, 1) := by decide +kernel
theorem dX0_rests_40 : decode cX0_rests 40 = .ok (.invokestatic 38, 3) := by decide +kernel
theorem dX0_rests_43 : decode cX0_rests 43 = .ok (.invokestatic 50, 3) := by decide +kernel
theorem dX0_rests_46 : decode cX0_rests 46 = .ok (.aload_n 0, 1) := by decide +kernel
theorem dX0_rests_47 : decode cX0_rests 47 = .ok (.getfield 15, 3) := by decide +kernel
theorem dX0_rests_50 : decode cX0_rests 50 = .ok (.iload_n 1, 1) := by decide +kernel
theorem dX0_rests_51 : decode cX0_rests 51 = .ok (.iload_n 2, 1) := by decide +kernel
theorem dX0_rests_52 : decode cX0_rests 52 = .ok (.invokestatic 38, 3) := by decide +kernel
theorem dX0_rests_55 : decode cX0_rests 55 = .ok (.invokestatic 50, 3) := by decide +kernel
theorem dX0_rests_58 : decode cX0_rests 58 = .ok (.if_icmp .le 5, 3) := by decide +kernel
theorem dX0_rests_61 : decode cX0_rests 61 = .ok (.iconst 0, 1) := by decide +kernel
theorem dX0_rests_62 : decode cX0_rests 62 = .ok (.ireturn, 1) := by decide +kernel
theorem dX0_rests_63 : decode cX0_rests 63 = .ok (.iinc 3 1, 3) := by decide +kernel
theorem dX0_rests_66 : decode cX0_rests 66 = .ok (.goto (-64), 3) := by decide +kernel
theorem dX0_rests_69 : decode cX0_rests 69 = .ok (.iconst 1, 1) := by decide +kernel
theorem dX0_rests_70 : decode cX0_rests 70 = .ok (.ireturn, 1) := by decide +kernel
theorem dX0_place_0 : decode cX0_place 0 = .ok (.iload_n 0, 1) := by decide +kernel
theorem dX0_place_1 : decode cX0_place 1 = .ok (.iconst 5, 1) := by decide +kernel
theorem dX0_place_2 : decode cX0_place 2 = .ok (.imul, 1) := by decide +kernel
theorem dX0_place_3 : decode cX0_place 3 = .ok (.iload_n 1, 1) := by decide +kernel
theorem dX0_place_4 : decode cX0_place 4 = .ok (.iadd, 1) := by decide +kernel
theorem dX0_place_5 : decode cX0_place 5 = .ok (.ireturn, 1) := by decide +kernel
theorem dX0_toll_0 : decode cX0_toll 0 = .ok (.iload_n 0, 1) := by decide +kernel
theorem dX0_toll_1 : decode cX0_toll 1 = .ok (.iconst 4, 1) := by decide +kernel
theorem dX0_toll_2 : decode cX0_toll 2 = .ok (.if_icmp .ne 7, 3) := by decide +kernel
theorem dX0_toll_5 : decode cX0_toll 5 = .ok (.iconst 0, 1) := by decide +kernel
theorem dX0_toll_6 : decode cX0_toll 6 = .ok (.goto 4, 3) := by decide +kernel
theorem dX0_toll_9 : decode cX0_toll 9 = .ok (.iconst 2, 1) := by decide +kernel
theorem dX0_toll_10 : decode cX0_toll 10 = .ok (.ireturn, 1) := by decide +kernel
theorem dX1_init_0 : decode cX1_init 0 = .ok (.aload_n 0, 1) := by decide +kernel
theorem dX1_init_1 : decode cX1_init 1 = .ok (.invokespecial 3, 3) := by decide +kernel
theorem dX1_init_4 : decode cX1_init 4 = .ok (.aload_n 0, 1) := by decide +kernel
theorem dX1_init_5 : decode cX1_init 5 = .ok (.bipush 20, 2) := by decide +kernel
theorem dX1_init_7 : decode cX1_init 7 = .ok (.putfield 9, 3) := by decide +kernel
theorem dX1_init_10 : decode cX1_init 10 = .ok (.aload_n 0, 1) := by decide +kernel
theorem dX1_init_11 : decode cX1_init 11 = .ok (.iconst 0, 1) := by decide +kernel
theorem dX1_init_12 : decode cX1_init 12 = .ok (.putfield 15, 3) := by decide +kernel
theorem dX1_init_15 : decode cX1_init 15 = .ok (.aload_n 0, 1) := by decide +kernel
theorem dX1_init_16 : decode cX1_init 16 = .ok (.iconst 0, 1) := by decide +kernel
theorem dX1_init_17 : decode cX1_init 17 = .ok (.putfield 18, 3) := by decide +kernel
theorem dX1_init_20 : decode cX1_init 20 = .ok (.aload_n 0, 1) := by decide +kernel
theorem dX1_init_21 : decode cX1_init 21 = .ok (.bipush 7, 2) := by decide +kernel
theorem dX1_init_23 : decode cX1_init 23 = .ok (.newarray .int, 2) := by decide +kernel
theorem dX1_init_25 : decode cX1_init 25 = .ok (.putfield 21, 3) := by decide +kernel
theorem dX1_init_28 : decode cX1_init 28 = .ok (.aload_n 0, 1) := by decide +kernel
theorem dX1_init_29 : decode cX1_init 29 = .ok (.bipush 7, 2) := by decide +kernel
theorem dX1_init_31 : decode cX1_init 31 = .ok (.newarray .int, 2) := by decide +kernel
theorem dX1_init_33 : decode cX1_init 33 = .ok (.putfield 25, 3) := by decide +kernel
theorem dX1_init_36 : decode cX1_init 36 = .ok (.return_, 1) := by decide +kernel
theorem dX1_become_0 : decode cX1_become 0 = .ok (.aload_n 0, 1) := by decide +kernel
theorem dX1_become_1 : decode cX1_become 1 = .ok (.aload_n 1, 1) := by decide +kernel
theorem dX1_become_2 : decode cX1_become 2 = .ok (.getfield 9, 3) := by decide +kernel
theorem dX1_become_5 : decode cX1_become 5 = .ok (.putfield 9, 3) := by decide +kernel
theorem dX1_become_8 : decode cX1_become 8 = .ok (.aload_n 0, 1) := by decide +kernel
theorem dX1_become_9 : decode cX1_become 9 = .ok (.aload_n 1, 1) := by decide +kernel
theorem dX1_become_10 : decode cX1_become 10 = .ok (.getfield 15, 3) := by decide +kernel
theorem dX1_become_13 : decode cX1_become 13 = .ok (.putfield 15, 3) := by decide +kernel
theorem dX1_become_16 : decode cX1_become 16 = .ok (.aload_n 0, 1) := by decide +kernel
theorem dX1_become_17 : decode cX1_become 17 = .ok (.aload_n 1, 1) := by decide +kernel
theorem dX1_become_18 : decode cX1_become 18 = .ok (.getfield 18, 3) := by decide +kernel
theorem dX1_become_21 : decode cX1_become 21 = .ok (.putfield 18, 3) := by decide +kernel
theorem dX1_become_24 : decode cX1_become 24 = .ok (.aload_n 1, 1) := by decide +kernel
theorem dX1_become_25 : decode cX1_become 25 = .ok (.getfield 21, 3) := by decide +kernel
theorem dX1_become_28 : decode cX1_become 28 = .ok (.aload_n 0, 1) := by decide +kernel
theorem dX1_become_29 : decode cX1_become 29 = .ok (.getfield 21, 3) := by decide +kernel
theorem dX1_become_32 : decode cX1_become 32 = .ok (.invokestatic 28, 3) := by decide +kernel
theorem dX1_become_35 : decode cX1_become 35 = .ok (.aload_n 1, 1) := by decide +kernel
theorem dX1_become_36 : decode cX1_become 36 = .ok (.getfield 25, 3) := by decide +kernel
theorem dX1_become_39 : decode cX1_become 39 = .ok (.aload_n 0, 1) := by decide +kernel
theorem dX1_become_40 : decode cX1_become 40 = .ok (.getfield 25, 3) := by decide +kernel
theorem dX1_become_43 : decode cX1_become 43 = .ok (.invokestatic 28, 3) := by decide +kernel
theorem dX1_become_46 : decode cX1_become 46 = .ok (.return_, 1) := by decide +kernel
theorem dX1_begin_0 : decode cX1_begin 0 = .ok (.aload_n 0, 1) := by decide +kernel
theorem dX1_begin_1 : decode cX1_begin 1 = .ok (.iload_n 1, 1) := by decide +kernel
theorem dX1_begin_2 : decode cX1_begin 2 = .ok (.putfield 9, 3) := by decide +kernel
theorem dX1_begin_5 : decode cX1_begin 5 = .ok (.aload_n 0, 1) := by decide +kernel
theorem dX1_begin_6 : decode cX1_begin 6 = .ok (.iconst 0, 1) := by decide +kernel
theorem dX1_begin_7 : decode cX1_begin 7 = .ok (.putfield 15, 3) := by decide +kernel
theorem dX1_begin_10 : decode cX1_begin 10 = .ok (.aload_n 0, 1) := by decide +kernel
theorem dX1_begin_11 : decode cX1_begin 11 = .ok (.iconst 0, 1) := by decide +kernel
theorem dX1_begin_12 : decode cX1_begin 12 = .ok (.putfield 18, 3) := by decide +kernel
theorem dX1_begin_15 : decode cX1_begin 15 = .ok (.return_, 1) := by decide +kernel
theorem dX2_init_0 : decode cX2_init 0 = .ok (.aload_n 0, 1) := by decide +kernel
theorem dX2_init_1 : decode cX2_init 1 = .ok (.invokespecial 3, 3) := by decide +kernel
theorem dX2_init_4 : decode cX2_init 4 = .ok (.aload_n 0, 1) := by decide +kernel
theorem dX2_init_5 : decode cX2_init 5 = .ok (.bipush 7, 2) := by decide +kernel
theorem dX2_init_7 : decode cX2_init 7 = .ok (.newarray .int, 2) := by decide +kernel
theorem dX2_init_9 : decode cX2_init 9 = .ok (.putfield 9, 3) := by decide +kernel
theorem dX2_init_12 : decode cX2_init 12 = .ok (.aload_n 0, 1) := by decide +kernel
theorem dX2_init_13 : decode cX2_init 13 = .ok (.bipush 7, 2) := by decide +kernel
theorem dX2_init_15 : decode cX2_init 15 = .ok (.newarray .int, 2) := by decide +kernel
theorem dX2_init_17 : decode cX2_init 17 = .ok (.putfield 15, 3) := by decide +kernel
theorem dX2_init_20 : decode cX2_init 20 = .ok (.aload_n 0, 1) := by decide +kernel
theorem dX2_init_21 : decode cX2_init 21 = .ok (.bipush 7, 2) := by decide +kernel
theorem dX2_init_23 : decode cX2_init 23 = .ok (.newarray .int, 2) := by decide +kernel
theorem dX2_init_25 : decode cX2_init 25 = .ok (.putfield 18, 3) := by decide +kernel
theorem dX2_init_28 : decode cX2_init 28 = .ok (.aload_n 0, 1) := by decide +kernel
theorem dX2_init_29 : decode cX2_init 29 = .ok (.bipush 7, 2) := by decide +kernel
theorem dX2_init_31 : decode cX2_init 31 = .ok (.newarray .int, 2) := by decide +kernel
theorem dX2_init_33 : decode cX2_init 33 = .ok (.putfield 21, 3) := by decide +kernel
theorem dX2_init_36 : decode cX2_init 36 = .ok (.aload_n 0, 1) := by decide +kernel
theorem dX2_init_37 : decode cX2_init 37 = .ok (.iconst 0, 1) := by decide +kernel
theorem dX2_init_38 : decode cX2_init 38 = .ok (.putfield 24, 3) := by decide +kernel
theorem dX2_init_41 : decode cX2_init 41 = .ok (.aload_n 0, 1) := by decide +kernel
theorem dX2_init_42 : decode cX2_init 42 = .ok (.new 28, 3) := by decide +kernel
theorem dX2_init_45 : decode cX2_init 45 = .ok (.dup, 1) := by decide +kernel
theorem dX2_init_46 : decode cX2_init 46 = .ok (.invokespecial 30, 3) := by decide +kernel
theorem dX2_init_49 : decode cX2_init 49 = .ok (.putfield 31, 3) := by decide +kernel
theorem dX2_init_52 : decode cX2_init 52 = .ok (.aload_n 0, 1) := by decide +kernel
theorem dX2_init_53 : decode cX2_init 53 = .ok (.bipush 8, 2) := by decide +kernel
theorem dX2_init_55 : decode cX2_init 55 = .ok (.anewarray 28, 3) := by decide +kernel
theorem dX2_init_58 : decode cX2_init 58 = .ok (.putfield 35, 3) := by decide +kernel
theorem dX2_init_61 : decode cX2_init 61 = .ok (.aload_n 0, 1) := by decide +kernel
theorem dX2_init_62 : decode cX2_init 62 = .ok (.iconst 0, 1) := by decide +kernel
theorem dX2_init_63 : decode cX2_init 63 = .ok (.putfield 39, 3) := by decide +kernel
theorem dX2_init_66 : decode cX2_init 66 = .ok (.aload_n 0, 1) := by decide +kernel
theorem dX2_init_67 : decode cX2_init 67 = .ok (.iconst 0, 1) := by decide +kernel
theorem dX2_init_68 : decode cX2_init 68 = .ok (.putfield 42, 3) := by decide +kernel
theorem dX2_init_71 : decode cX2_init 71 = .ok (.aload_n 0, 1) := by decide +kernel
theorem dX2_init_72 : decode cX2_init 72 = .ok (.bipush 8, 2) := by decide +kernel
theorem dX2_init_74 : decode cX2_init 74 = .ok (.newarray .int, 2) := by decide +kernel
theorem dX2_init_76 : decode cX2_init 76 = .ok (.putfield 45, 3) := by decide +kernel
theorem dX2_init_79 : decode cX2_init 79 = .ok (.aload_n 0, 1) := by decide +kernel
theorem dX2_init_80 : decode cX2_init 80 = .ok (.bipush 8, 2) := by decide +kernel
theorem dX2_init_82 : decode cX2_init 82 = .ok (.newarray .int, 2) := by decide +kernel
theorem dX2_init_84 : decode cX2_init 84 = .ok (.putfield 48, 3) := by decide +kernel
theorem dX2_init_87 : decode cX2_init 87 = .ok (.aload_n 0, 1) := by decide +kernel
theorem dX2_init_88 : decode cX2_init 88 = .ok (.iconst 0, 1) := by decide +kernel
theorem dX2_init_89 : decode cX2_init 89 = .ok (.putfield 51, 3) := by decide +kernel
theorem dX2_init_92 : decode cX2_init 92 = .ok (.aload_n 0, 1) := by decide +kernel
theorem dX2_init_93 : decode cX2_init 93 = .ok (.new 54, 3) := by decide +kernel
theorem dX2_init_96 : decode cX2_init 96 = .ok (.dup, 1) := by decide +kernel
theorem dX2_init_97 : decode cX2_init 97 = .ok (.iconst 4, 1) := by decide +kernel
theorem dX2_init_98 : decode cX2_init 98 = .ok (.iconst 5, 1) := by decide +kernel
theorem dX2_init_99 : decode cX2_init 99 = .ok (.invokespecial 56, 3) := by decide +kernel
theorem dX2_init_102 : decode cX2_init 102 = .ok (.putfield 59, 3) := by decide +kernel
theorem dX2_init_105 : decode cX2_init 105 = .ok (.aload_n 0, 1) := by decide +kernel
theorem dX2_init_106 : decode cX2_init 106 = .ok (.new 54, 3) := by decide +kernel
theorem dX2_init_109 : decode cX2_init 109 = .ok (.dup, 1) := by decide +kernel
theorem dX2_init_110 : decode cX2_init 110 = .ok (.iconst 5, 1) := by decide +kernel
theorem dX2_init_111 : decode cX2_init 111 = .ok (.bipush 6, 2) := by decide +kernel
theorem dX2_init_113 : decode cX2_init 113 = .ok (.invokespecial 56, 3) := by decide +kernel
theorem dX2_init_116 : decode cX2_init 116 = .ok (.putfield 63, 3) := by decide +kernel
theorem dX2_init_119 : decode cX2_init 119 = .ok (.aload_n 0, 1) := by decide +kernel
theorem dX2_init_120 : decode cX2_init 120 = .ok (.new 54, 3) := by decide +kernel
theorem dX2_init_123 : decode cX2_init 123 = .ok (.dup, 1) := by decide +kernel
theorem dX2_init_124 : decode cX2_init 124 = .ok (.iconst 4, 1) := by decide +kernel
theorem dX2_init_125 : decode cX2_init 125 = .ok (.bipush 6, 2) := by decide +kernel
theorem dX2_init_127 : decode cX2_init 127 = .ok (.invokespecial 56, 3) := by decide +kernel
theorem dX2_init_130 : decode cX2_init 130 = .ok (.putfield 66, 3) := by decide +kernel
theorem dX2_init_133 : decode cX2_init 133 = .ok (.iconst 0, 1) := by decide +kernel
theorem dX2_init_134 : decode cX2_init 134 = .ok (.istore_n 1, 1) := by decide +kernel
theorem dX2_init_135 : decode cX2_init 135 = .ok (.iload_n 1, 1) := by decide +kernel
theorem dX2_init_136 : decode cX2_init 136 = .ok (.aload_n 0, 1) := by decide +kernel
theorem dX2_init_137 : decode cX2_init 137 = .ok (.getfield 35, 3) := by decide +kernel
theorem dX2_init_140 : decode cX2_init 140 = .ok (.arraylength, 1) := by decide +kernel
theorem dX2_init_141 : decode cX2_init 141 = .ok (.if_icmp .ge 22, 3) := by decide +kernel
theorem dX2_init_144 : decode cX2_init 144 = .ok (.aload_n 0, 1) := by decide +kernel
theorem dX2_init_145 : decode cX2_init 145 = .ok (.getfield 35, 3) := by decide +kernel
theorem dX2_init_148 : decode cX2_init 148 = .ok (.iload_n 1, 1) := by decide +kernel
theorem dX2_init_149 : decode cX2_init 149 = .ok (.new 28, 3) := by decide +kernel
theorem dX2_init_152 : decode cX2_init 152 = .ok (.dup, 1) := by decide +kernel
theorem dX2_init_153 : decode cX2_init 153 = .ok (.invokespecial 30, 3) := by decide +kernel
theorem dX2_init_156 : decode cX2_init 156 = .ok (.aastore, 1) := by decide +kernel
theorem dX2_init_157 : decode cX2_init 157 = .ok (.iinc 1 1, 3) := by decide +kernel
theorem dX2_init_160 : decode cX2_init 160 = .ok (.goto (-25), 3) := by decide +kernel
theorem dX2_init_163 : decode cX2_init 163 = .ok (.iconst 0, 1) := by decide +kernel
theorem dX2_init_164 : decode cX2_init 164 = .ok (.istore_n 1, 1) := by decide +kernel
theorem dX2_init_165 : decode cX2_init 165 = .ok (.iload_n 1, 1) := by decide +kernel
theorem dX2_init_166 : decode cX2_init 166 = .ok (.aload_n 0, 1) := by decide +kernel
theorem dX2_init_167 : decode cX2_init 167 = .ok (.getfield 45, 3) := by decide +kernel
theorem dX2_init_170 : decode cX2_init 170 = .ok (.arraylength, 1) := by decide +kernel
theorem dX2_init_171 : decode cX2_init 171 = .ok (.if_icmp .ge 16, 3) := by decide +kernel
theorem dX2_init_174 : decode cX2_init 174 = .ok (.aload_n 0, 1) := by decide +kernel
theorem dX2_init_175 : decode cX2_init 175 = .ok (.getfield 45, 3) := by decide +kernel
theorem dX2_init_178 : decode cX2_init 178 = .ok (.iload_n 1, 1) := by decide +kernel
theorem dX2_init_179 : decode cX2_init 179 = .ok (.iconst 4, 1) := by decide +kernel
theorem dX2_init_180 : decode cX2_init 180 = .ok (.iastore, 1) := by decide +kernel
theorem dX2_init_181 : decode cX2_init 181 = .ok (.iinc 1 1, 3) := by decide +kernel
theorem dX2_init_184 : decode cX2_init 184 = .ok (.goto (-19), 3) := by decide +kernel
theorem dX2_init_187 : decode cX2_init 187 = .ok (.return_, 1) := by decide +kernel
theorem dX2_begin_0 : decode cX2_begin 0 = .ok (.aload_n 0, 1) := by decide +kernel
theorem dX2_begin_1 : decode cX2_begin 1 = .ok (.iconst 0, 1) := by decide +kernel
theorem dX2_begin_2 : decode cX2_begin 2 = .ok (.putfield 24, 3) := by decide +kernel
theorem dX2_begin_5 : decode cX2_begin 5 = .ok (.aload_n 0, 1) := by decide +kernel
theorem dX2_begin_6 : decode cX2_begin 6 = .ok (.getfield 31, 3) := by decide +kernel
theorem dX2_begin_9 : decode cX2_begin 9 = .ok (.iload_n 1, 1) := by decide +kernel
theorem dX2_begin_10 : decode cX2_begin 10 = .ok (.invokevirtual 69, 3) := by decide +kernel
theorem dX2_begin_13 : decode cX2_begin 13 = .ok (.aload_n 0, 1) := by decide +kernel
theorem dX2_begin_14 : decode cX2_begin 14 = .ok (.iconst 0, 1) := by decide +kernel
theorem dX2_begin_15 : decode cX2_begin 15 = .ok (.putfield 42, 3) := by decide +kernel
theorem dX2_begin_18 : decode cX2_begin 18 = .ok (.iconst 0, 1) := by decide +kernel
theorem dX2_begin_19 : decode cX2_begin 19 = .ok (.istore_n 2, 1) := by decide +kernel
theorem dX2_begin_20 : decode cX2_begin 20 = .ok (.iload_n 2, 1) := by decide +kernel
theorem dX2_begin_21 : decode cX2_begin 21 = .ok (.bipush 8, 2) := by decide +kernel
theorem dX2_begin_23 : decode cX2_begin 23 = .ok (.if_icmp .ge 27, 3) := by decide +kernel
theorem dX2_begin_26 : decode cX2_begin 26 = .ok (.aload_n 0, 1) := by decide +kernel
theorem dX2_begin_27 : decode cX2_begin 27 = .ok (.getfield 45, 3) := by decide +kernel
theorem dX2_begin_30 : decode cX2_begin 30 = .ok (.iload_n 2, 1) := by decide +kernel
theorem dX2_begin_31 : decode cX2_begin 31 = .ok (.iconst 4, 1) := by decide +kernel
theorem dX2_begin_32 : decode cX2_begin 32 = .ok (.invokestatic 73, 3) := by decide +kernel
theorem dX2_begin_35 : decode cX2_begin 35 = .ok (.aload_n 0, 1) := by decide +kernel
theorem dX2_begin_36 : decode cX2_begin 36 = .ok (.getfield 48, 3) := by decide +kernel
theorem dX2_begin_39 : decode cX2_begin 39 = .ok (.iload_n 2, 1) := by decide +kernel
theorem dX2_begin_40 : decode cX2_begin 40 = .ok (.iconst 0, 1) := by decide +kernel
theorem dX2_begin_41 : decode cX2_begin 41 = .ok (.invokestatic 73, 3) := by decide +kernel
theorem dX2_begin_44 : decode cX2_begin 44 = .ok (.iinc 2 1, 3) := by decide +kernel
theorem dX2_begin_47 : decode cX2_begin 47 = .ok (.goto (-27), 3) := by decide +kernel
theorem dX2_begin_50 : decode cX2_begin 50 = .ok (.aload_n 0, 1) := by decide +kernel
theorem dX2_begin_51 : decode cX2_begin 51 = .ok (.iconst 0, 1) := by decide +kernel
theorem dX2_begin_52 : decode cX2_begin 52 = .ok (.putfield 51, 3) := by decide +kernel
theorem dX2_begin_55 : decode cX2_begin 55 = .ok (.aload_n 0, 1) := by decide +kernel
theorem dX2_begin_56 : decode cX2_begin 56 = .ok (.getfield 59, 3) := by decide +kernel
theorem dX2_begin_59 : decode cX2_begin 59 = .ok (.invokevirtual 77, 3) := by decide +kernel
theorem dX2_begin_62 : decode cX2_begin 62 = .ok (.pop, 1) := by decide +kernel
theorem dX2_begin_63 : decode cX2_begin 63 = .ok (.aload_n 0, 1) := by decide +kernel
theorem dX2_begin_64 : decode cX2_begin 64 = .ok (.getfield 63, 3) := by decide +kernel
theorem dX2_begin_67 : decode cX2_begin 67 = .ok (.invokevirtual 77, 3) := by decide +kernel
theorem dX2_begin_70 : decode cX2_begin 70 = .ok (.pop, 1) := by decide +kernel
theorem dX2_begin_71 : decode cX2_begin 71 = .ok (.aload_n 0, 1) := by decide +kernel
theorem dX2_begin_72 : decode cX2_begin 72 = .ok (.getfield 66, 3) := by decide +kernel
theorem dX2_begin_75 : decode cX2_begin 75 = .ok (.invokevirtual 77, 3) := by decide +kernel
theorem dX2_begin_78 : decode cX2_begin 78 = .ok (.pop, 1) := by decide +kernel
theorem dX2_begin_79 : decode cX2_begin 79 = .ok (.return_, 1) := by decide +kernel
theorem dX2_become_0 : decode cX2_become 0 = .ok (.aload_n 1, 1) := by decide +kernel
theorem dX2_become_1 : decode cX2_become 1 = .ok (.getfield 9, 3) := by decide +kernel
theorem dX2_become_4 : decode cX2_become 4 = .ok (.aload_n 0, 1) := by decide +kernel
theorem dX2_become_5 : decode cX2_become 5 = .ok (.getfield 9, 3) := by decide +kernel
theorem dX2_become_8 : decode cX2_become 8 = .ok (.invokestatic 81, 3) := by decide +kernel
theorem dX2_become_11 : decode cX2_become 11 = .ok (.aload_n 1, 1) := by decide +kernel
theorem dX2_become_12 : decode cX2_become 12 = .ok (.getfield 15, 3) := by decide +kernel
theorem dX2_become_15 : decode cX2_become 15 = .ok (.aload_n 0, 1) := by decide +kernel
theorem dX2_become_16 : decode cX2_become 16 = .ok (.getfield 15, 3) := by decide +kernel
theorem dX2_become_19 : decode cX2_become 19 = .ok (.invokestatic 81, 3) := by decide +kernel
theorem dX2_become_22 : decode cX2_become 22 = .ok (.aload_n 1, 1) := by decide +kernel
theorem dX2_become_23 : decode cX2_become 23 = .ok (.getfield 18, 3) := by decide +kernel
theorem dX2_become_26 : decode cX2_become 26 = .ok (.aload_n 0, 1) := by decide +kernel
theorem dX2_become_27 : decode cX2_become 27 = .ok (.getfield 18, 3) := by decide +kernel
theorem dX2_become_30 : decode cX2_become 30 = .ok (.invokestatic 81, 3) := by decide +kernel
theorem dX2_become_33 : decode cX2_become 33 = .ok (.aload_n 1, 1) := by decide +kernel
theorem dX2_become_34 : decode cX2_become 34 = .ok (.getfield 21, 3) := by decide +kernel
theorem dX2_become_37 : decode cX2_become 37 = .ok (.aload_n 0, 1) := by decide +kernel
theorem dX2_become_38 : decode cX2_become 38 = .ok (.getfield 21, 3) := by decide +kernel
theorem dX2_become_41 : decode cX2_become 41 = .ok (.invokestatic 81, 3) := by decide +kernel
theorem dX2_become_44 : decode cX2_become 44 = .ok (.aload_n 0, 1) := by decide +kernel
theorem dX2_become_45 : decode cX2_become 45 = .ok (.aload_n 1, 1) := by decide +kernel
theorem dX2_become_46 : decode cX2_become 46 = .ok (.getfield 24, 3) := by decide +kernel
theorem dX2_become_49 : decode cX2_become 49 = .ok (.putfield 24, 3) := by decide +kernel
theorem dX2_become_52 : decode cX2_become 52 = .ok (.aload_n 0, 1) := by decide +kernel
theorem dX2_become_53 : decode cX2_become 53 = .ok (.getfield 31, 3) := by decide +kernel
theorem dX2_become_56 : decode cX2_become 56 = .ok (.aload_n 1, 1) := by decide +kernel
theorem dX2_become_57 : decode cX2_become 57 = .ok (.getfield 31, 3) := by decide +kernel
theorem dX2_become_60 : decode cX2_become 60 = .ok (.invokevirtual 85, 3) := by decide +kernel
theorem dX2_become_63 : decode cX2_become 63 = .ok (.iconst 0, 1) := by decide +kernel
theorem dX2_become_64 : decode cX2_become 64 = .ok (.istore_n 2, 1) := by decide +kernel
theorem dX2_become_65 : decode cX2_become 65 = .ok (.iload_n 2, 1) := by decide +kernel
theorem dX2_become_66 : decode cX2_become 66 = .ok (.bipush 8, 2) := by decide +kernel
theorem dX2_become_68 : decode cX2_become 68 = .ok (.if_icmp .ge 22, 3) := by decide +kernel
theorem dX2_become_71 : decode cX2_become 71 = .ok (.aload_n 0, 1) := by decide +kernel
theorem dX2_become_72 : decode cX2_become 72 = .ok (.iload_n 2, 1) := by decide +kernel
theorem dX2_become_73 : decode cX2_become 73 = .ok (.invokevirtual 89, 3) := by decide +kernel
theorem dX2_become_76 : decode cX2_become 76 = .ok (.aload_n 1, 1) := by decide +kernel
theorem dX2_become_77 : decode cX2_become 77 = .ok (.iload_n 2, 1) := by decide +kernel
theorem dX2_become_78 : decode cX2_become 78 = .ok (.invokevirtual 89, 3) := by decide +kernel
theorem dX2_become_81 : decode cX2_become 81 = .ok (.invokevirtual 85, 3) := by decide +kernel
theorem dX2_become_84 : decode cX2_become 84 = .ok (.iinc 2 1, 3) := by decide +kernel
theorem dX2_become_87 : decode cX2_become 87 = .ok (.goto (-22), 3) := by decide +kernel
theorem dX2_become_90 : decode cX2_become 90 = .ok (.aload_n 0, 1) := by decide +kernel
theorem dX2_become_91 : decode cX2_become 91 = .ok (.aload_n 1, 1) := by decide +kernel
theorem dX2_become_92 : decode cX2_become 92 = .ok (.getfield 39, 3) := by decide +kernel
theorem dX2_become_95 : decode cX2_become 95 = .ok (.putfield 39, 3) := by decide +kernel
theorem dX2_become_98 : decode cX2_become 98 = .ok (.aload_n 0, 1) := by decide +kernel
theorem dX2_become_99 : decode cX2_become 99 = .ok (.aload_n 1, 1) := by decide +kernel
theorem dX2_become_100 : decode cX2_become 100 = .ok (.getfield 42, 3) := by decide +kernel
theorem dX2_become_103 : decode cX2_become 103 = .ok (.putfield 42, 3) := by decide +kernel
theorem dX2_become_106 : decode cX2_become 106 = .ok (.aload_n 1, 1) := by decide +kernel
theorem dX2_become_107 : decode cX2_become 107 = .ok (.getfield 45, 3) := by decide +kernel
theorem dX2_become_110 : decode cX2_become 110 = .ok (.aload_n 0, 1) := by decide +kernel
theorem dX2_become_111 : decode cX2_become 111 = .ok (.getfield 45, 3) := by decide +kernel
theorem dX2_become_114 : decode cX2_become 114 = .ok (.invokestatic 81, 3) := by decide +kernel
theorem dX2_become_117 : decode cX2_become 117 = .ok (.aload_n 1, 1) := by decide +kernel
theorem dX2_become_118 : decode cX2_become 118 = .ok (.getfield 48, 3) := by decide +kernel
theorem dX2_become_121 : decode cX2_become 121 = .ok (.aload_n 0, 1) := by decide +kernel
theorem dX2_become_122 : decode cX2_become 122 = .ok (.getfield 48, 3) := by decide +kernel
theorem dX2_become_125 : decode cX2_become 125 = .ok (.invokestatic 81, 3) := by decide +kernel
theorem dX2_become_128 : decode cX2_become 128 = .ok (.aload_n 0, 1) := by decide +kernel
theorem dX2_become_129 : decode cX2_become 129 = .ok (.aload_n 1, 1) := by decide +kernel
theorem dX2_become_130 : decode cX2_become 130 = .ok (.getfield 51, 3) := by decide +kernel
theorem dX2_become_133 : decode cX2_become 133 = .ok (.putfield 51, 3) := by decide +kernel
theorem dX2_become_136 : decode cX2_become 136 = .ok (.aload_n 0, 1) := by decide +kernel
theorem dX2_become_137 : decode cX2_become 137 = .ok (.getfield 59, 3) := by decide +kernel
theorem dX2_become_140 : decode cX2_become 140 = .ok (.aload_n 1, 1) := by decide +kernel
theorem dX2_become_141 : decode cX2_become 141 = .ok (.getfield 59, 3) := by decide +kernel
theorem dX2_become_144 : decode cX2_become 144 = .ok (.invokevirtual 93, 3) := by decide +kernel
theorem dX2_become_147 : decode cX2_become 147 = .ok (.aload_n 0, 1) := by decide +kernel
theorem dX2_become_148 : decode cX2_become 148 = .ok (.getfield 63, 3) := by decide +kernel
theorem dX2_become_151 : decode cX2_become 151 = .ok (.aload_n 1, 1) := by decide +kernel
theorem dX2_become_152 : decode cX2_become 152 = .ok (.getfield 63, 3) := by decide +kernel
theorem dX2_become_155 : decode cX2_become 155 = .ok (.invokevirtual 93, 3) := by decide +kernel
theorem dX2_become_158 : decode cX2_become 158 = .ok (.aload_n 0, 1) := by decide +kernel
theorem dX2_become_159 : decode cX2_become 159 = .ok (.getfield 66, 3) := by decide +kernel
theorem dX2_become_162 : decode cX2_become 162 = .ok (.aload_n 1, 1) := by decide +kernel
theorem dX2_become_163 : decode cX2_become 163 = .ok (.getfield 66, 3) := by decide +kernel
theorem dX2_become_166 : decode cX2_become 166 = .ok (.invokevirtual 93, 3) := by decide +kernel
theorem dX2_become_169 : decode cX2_become 169 = .ok (.return_, 1) := by decide +kernel
theorem dX2_add_0 : decode cX2_add 0 = .ok (.aload_n 0, 1) := by decide +kernel
theorem dX2_add_1 : decode cX2_add 1 = .ok (.getfield 24, 3) := by decide +kernel
theorem dX2_add_4 : decode cX2_add 4 = .ok (.istore 6, 2) := by decide +kernel
theorem dX2_add_6 : decode cX2_add 6 = .ok (.aload_n 0, 1) := by decide +kernel
theorem dX2_add_7 : decode cX2_add 7 = .ok (.getfield 9, 3) := by decide +kernel
theorem dX2_add_10 : decode cX2_add 10 = .ok (.iload 6, 2) := by decide +kernel
theorem dX2_add_12 : decode cX2_add 12 = .ok (.iload_n 1, 1) := by decide +kernel
theorem dX2_add_13 : decode cX2_add 13 = .ok (.invokestatic 73, 3) := by decide +kernel
theorem dX2_add_16 : decode cX2_add 16 = .ok (.aload_n 0, 1) := by decide +kernel
theorem dX2_add_17 : decode cX2_add 17 = .ok (.getfield 15, 3) := by decide +kernel
theorem dX2_add_20 : decode cX2_add 20 = .ok (.iload 6, 2) := by decide +kernel
theorem dX2_add_22 : decode cX2_add 22 = .ok (.iload_n 2, 1) := by decide +kernel
theorem dX2_add_23 : decode cX2_add 23 = .ok (.invokestatic 73, 3) := by decide +kernel
theorem dX2_add_26 : decode cX2_add 26 = .ok (.aload_n 0, 1) := by decide +kernel
theorem dX2_add_27 : decode cX2_add 27 = .ok (.getfield 18, 3) := by decide +kernel
theorem dX2_add_30 : decode cX2_add 30 = .ok (.iload 6, 2) := by decide +kernel
theorem dX2_add_32 : decode cX2_add 32 = .ok (.iload_n 3, 1) := by decide +kernel
theorem dX2_add_33 : decode cX2_add 33 = .ok (.invokestatic 73, 3) := by decide +kernel
theorem dX2_add_36 : decode cX2_add 36 = .ok (.aload_n 0, 1) := by decide +kernel
theorem dX2_add_37 : decode cX2_add 37 = .ok (.getfield 21, 3) := by decide +kernel
theorem dX2_add_40 : decode cX2_add 40 = .ok (.iload 6, 2) := by decide +kernel
theorem dX2_add_42 : decode cX2_add 42 = .ok (.iload 4, 2) := by decide +kernel
theorem dX2_add_44 : decode cX2_add 44 = .ok (.invokestatic 73, 3) := by decide +kernel
theorem dX2_add_47 : decode cX2_add 47 = .ok (.aload_n 0, 1) := by decide +kernel
theorem dX2_add_48 : decode cX2_add 48 = .ok (.getfield 31, 3) := by decide +kernel
theorem dX2_add_51 : decode cX2_add 51 = .ok (.getfield 96, 3) := by decide +kernel
theorem dX2_add_54 : decode cX2_add 54 = .ok (.iload 6, 2) := by decide +kernel
theorem dX2_add_56 : decode cX2_add 56 = .ok (.iload 5, 2) := by decide +kernel
theorem dX2_add_58 : decode cX2_add 58 = .ok (.invokestatic 73, 3) := by decide +kernel
theorem dX2_add_61 : decode cX2_add 61 = .ok (.aload_n 0, 1) := by decide +kernel
theorem dX2_add_62 : decode cX2_add 62 = .ok (.getfield 31, 3) := by decide +kernel
theorem dX2_add_65 : decode cX2_add 65 = .ok (.getfield 99, 3) := by decide +kernel
theorem dX2_add_68 : decode cX2_add 68 = .ok (.iload 6, 2) := by decide +kernel
theorem dX2_add_70 : decode cX2_add 70 = .ok (.iconst 0, 1) := by decide +kernel
theorem dX2_add_71 : decode cX2_add 71 = .ok (.invokestatic 73, 3) := by decide +kernel
theorem dX2_add_74 : decode cX2_add 74 = .ok (.aload_n 0, 1) := by decide +kernel
theorem dX2_add_75 : decode cX2_add 75 = .ok (.dup, 1) := by decide +kernel
theorem dX2_add_76 : decode cX2_add 76 = .ok (.getfield 24, 3) := by decide +kernel
theorem dX2_add_79 : decode cX2_add 79 = .ok (.iconst 1, 1) := by decide +kernel
theorem dX2_add_80 : decode cX2_add 80 = .ok (.iadd, 1) := by decide +kernel
theorem dX2_add_81 : decode cX2_add 81 = .ok (.putfield 24, 3) := by decide +kernel
theorem dX2_add_84 : decode cX2_add 84 = .ok (.aload_n 0, 1) := by decide +kernel
theorem dX2_add_85 : decode cX2_add 85 = .ok (.iconst 0, 1) := by decide +kernel
theorem dX2_add_86 : decode cX2_add 86 = .ok (.putfield 42, 3) := by decide +kernel
theorem dX2_add_89 : decode cX2_add 89 = .ok (.iload 6, 2) := by decide +kernel
theorem dX2_add_91 : decode cX2_add 91 = .ok (.ireturn, 1) := by decide +kernel
theorem dX2_weightOf_0 : decode cX2_weightOf 0 = .ok (.aload_n 0, 1) := by decide +kernel
theorem dX2_weightOf_1 : decode cX2_weightOf 1 = .ok (.getfield 18, 3) := by decide +kernel
theorem dX2_weightOf_4 : decode cX2_weightOf 4 = .ok (.iload_n 1, 1) := by decide +kernel
theorem dX2_weightOf_5 : decode cX2_weightOf 5 = .ok (.invokestatic 102, 3) := by decide +kernel
theorem dX2_weightOf_8 : decode cX2_weightOf 8 = .ok (.ireturn, 1) := by decide +kernel
theorem dX2_holeOf_0 : decode cX2_holeOf 0 = .ok (.aload_n 0, 1) := by decide +kernel
theorem dX2_holeOf_1 : decode cX2_holeOf 1 = .ok (.getfield 31, 3) := by decide +kernel
theorem dX2_holeOf_4 : decode cX2_holeOf 4 = .ok (.getfield 96, 3) := by decide +kernel
theorem dX2_holeOf_7 : decode cX2_holeOf 7 = .ok (.iload_n 1, 1) := by decide +kernel
theorem dX2_holeOf_8 : decode cX2_holeOf 8 = .ok (.invokestatic 102, 3) := by decide +kernel
theorem dX2_holeOf_11 : decode cX2_holeOf 11 = .ok (.ireturn, 1) := by decide +kernel
theorem dX2_wornOf_0 : decode cX2_wornOf 0 = .ok (.aload_n 0, 1) := by decide +kernel
theorem dX2_wornOf_1 : decode cX2_wornOf 1 = .ok (.getfield 31, 3) := by decide +kernel
theorem dX2_wornOf_4 : decode cX2_wornOf 4 = .ok (.getfield 99, 3) := by decide +kernel
theorem dX2_wornOf_7 : decode cX2_wornOf 7 = .ok (.iload_n 1, 1) := by decide +kernel
theorem dX2_wornOf_8 : decode cX2_wornOf 8 = .ok (.invokestatic 102, 3) := by decide +kernel
theorem dX2_wornOf_11 : decode cX2_wornOf 11 = .ok (.ireturn, 1) := by decide +kernel
theorem dX2_step_0 : decode cX2_step 0 = .ok (.aload_n 1, 1) := by decide +kernel
theorem dX2_step_1 : decode cX2_step 1 = .ok (.aload_n 1, 1) := by decide +kernel
theorem dX2_step_2 : decode cX2_step 2 = .ok (.getfield 106, 3) := by decide +kernel
theorem dX2_step_5 : decode cX2_step 5 = .ok (.iload_n 2, 1) := by decide +kernel
theorem dX2_step_6 : decode cX2_step 6 = .ok (.invokestatic 109, 3) := by decide +kernel
theorem dX2_step_9 : decode cX2_step 9 = .ok (.putfield 106, 3) := by decide +kernel
theorem dX2_step_12 : decode cX2_step 12 = .ok (.aload_n 1, 1) := by decide +kernel
theorem dX2_step_13 : decode cX2_step 13 = .ok (.aload_n 1, 1) := by decide +kernel
theorem dX2_step_14 : decode cX2_step 14 = .ok (.getfield 113, 3) := by decide +kernel
theorem dX2_step_17 : decode cX2_step 17 = .ok (.iload_n 2, 1) := by decide +kernel
theorem dX2_step_18 : decode cX2_step 18 = .ok (.invokestatic 116, 3) := by decide +kernel
theorem dX2_step_21 : decode cX2_step 21 = .ok (.putfield 113, 3) := by decide +kernel
theorem dX2_step_24 : decode cX2_step 24 = .ok (.aload_n 1, 1) := by decide +kernel
theorem dX2_step_25 : decode cX2_step 25 = .ok (.dup, 1) := by decide +kernel
theorem dX2_step_26 : decode cX2_step 26 = .ok (.getfield 119, 3) := by decide +kernel
theorem dX2_step_29 : decode cX2_step 29 = .ok (.iconst 1, 1) := by decide +kernel
theorem dX2_step_30 : decode cX2_step 30 = .ok (.iadd, 1) := by decide +kernel
theorem dX2_step_31 : decode cX2_step 31 = .ok (.putfield 119, 3) := by decide +kernel
theorem dX2_step_34 : decode cX2_step 34 = .ok (.iconst 0, 1) := by decide +kernel
theorem dX2_step_35 : decode cX2_step 35 = .ok (.istore_n 3, 1) := by decide +kernel
theorem dX2_step_36 : decode cX2_step 36 = .ok (.iload_n 3, 1) := by decide +kernel
theorem dX2_step_37 : decode cX2_step 37 = .ok (.aload_n 0, 1) := by decide +kernel
theorem dX2_step_38 : decode cX2_step 38 = .ok (.getfield 24, 3) := by decide +kernel
theorem dX2_step_41 : decode cX2_step 41 = .ok (.if_icmp .ge 37, 3) := by decide +kernel
theorem dX2_step_44 : decode cX2_step 44 = .ok (.aload_n 1, 1) := by decide +kernel
theorem dX2_step_45 : decode cX2_step 45 = .ok (.getfield 99, 3) := by decide +kernel
theorem dX2_step_48 : decode cX2_step 48 = .ok (.iload_n 3, 1) := by decide +kernel
theorem dX2_step_49 : decode cX2_step 49 = .ok (.aload_n 1, 1) := by decide +kernel
theorem dX2_step_50 : decode cX2_step 50 = .ok (.getfield 99, 3) := by decide +kernel
theorem dX2_step_53 : decode cX2_step 53 = .ok (.iload_n 3, 1) := by decide +kernel
theorem dX2_step_54 : decode cX2_step 54 = .ok (.invokestatic 102, 3) := by decide +kernel
theorem dX2_step_57 : decode cX2_step 57 = .ok (.aload_n 0, 1) := by decide +kernel
theorem dX2_step_58 : decode cX2_step 58 = .ok (.iload_n 3, 1) := by decide +kernel
theorem dX2_step_59 : decode cX2_step 59 = .ok (.invokevirtual 122, 3) := by decide +kernel
theorem dX2_step_62 : decode cX2_step 62 = .ok (.aload_n 1, 1) := by decide +kernel
theorem dX2_step_63 : decode cX2_step 63 = .ok (.getfield 113, 3) := by decide +kernel
theorem dX2_step_66 : decode cX2_step 66 = .ok (.invokestatic 126, 3) := by decide +kernel
theorem dX2_step_69 : decode cX2_step 69 = .ok (.invokestatic 73, 3) := by decide +kernel
theorem dX2_step_72 : decode cX2_step 72 = .ok (.iinc 3 1, 3) := by decide +kernel
theorem dX2_step_75 : decode cX2_step 75 = .ok (.goto (-39), 3) := by decide +kernel
theorem dX2_step_78 : decode cX2_step 78 = .ok (.return_, 1) := by decide +kernel
theorem dX2_snappedIn_0 : decode cX2_snappedIn 0 = .ok (.iconst 0, 1) := by decide +kernel
theorem dX2_snappedIn_1 : decode cX2_snappedIn 1 = .ok (.istore_n 2, 1) := by decide +kernel
theorem dX2_snappedIn_2 : decode cX2_snappedIn 2 = .ok (.iconst 0, 1) := by decide +kernel
theorem dX2_snappedIn_3 : decode cX2_snappedIn 3 = .ok (.istore_n 3, 1) := by decide +kernel
theorem dX2_snappedIn_4 : decode cX2_snappedIn 4 = .ok (.iload_n 3, 1) := by decide +kernel
theorem dX2_snappedIn_5 : decode cX2_snappedIn 5 = .ok (.aload_n 0, 1) := by decide +kernel
theorem dX2_snappedIn_6 : decode cX2_snappedIn 6 = .ok (.getfield 24, 3) := by decide +kernel
theorem dX2_snappedIn_9 : decode cX2_snappedIn 9 = .ok (.if_icmp .ge 26, 3) := by decide +kernel
theorem dX2_snappedIn_12 : decode cX2_snappedIn 12 = .ok (.aload_n 1, 1) := by decide +kernel
theorem dX2_snappedIn_13 : decode cX2_snappedIn 13 = .ok (.getfield 99, 3) := by decide +kernel
theorem dX2_snappedIn_16 : decode cX2_snappedIn 16 = .ok (.iload_n 3, 1) := by decide +kernel
theorem dX2_snappedIn_17 : decode cX2_snappedIn 17 = .ok (.invokestatic 102, 3) := by decide +kernel
theorem dX2_snappedIn_20 : decode cX2_snappedIn 20 = .ok (.invokestatic 130, 3) := by decide +kernel
theorem dX2_snappedIn_23 : decode cX2_snappedIn 23 = .ok (.ifCond .eq 6, 3) := by decide +kernel
theorem dX2_snappedIn_26 : decode cX2_snappedIn 26 = .ok (.iinc 2 1, 3) := by decide +kernel
theorem dX2_snappedIn_29 : decode cX2_snappedIn 29 = .ok (.iinc 3 1, 3) := by decide +kernel
theorem dX2_snappedIn_32 : decode cX2_snappedIn 32 = .ok (.goto (-28), 3) := by decide +kernel
theorem dX2_snappedIn_35 : decode cX2_snappedIn 35 = .ok (.iload_n 2, 1) := by decide +kernel
theorem dX2_snappedIn_36 : decode cX2_snappedIn 36 = .ok (.ireturn, 1) := by decide +kernel
theorem dX2_wornTogether_0 : decode cX2_wornTogether 0 = .ok (.iconst 0, 1) := by decide +kernel
theorem dX2_wornTogether_1 : decode cX2_wornTogether 1 = .ok (.istore_n 1, 1) := by decide +kernel
theorem dX2_wornTogether_2 : decode cX2_wornTogether 2 = .ok (.iconst 0, 1) := by decide +kernel
theorem dX2_wornTogether_3 : decode cX2_wornTogether 3 = .ok (.istore_n 2, 1) := by decide +kernel
theorem dX2_wornTogether_4 : decode cX2_wornTogether 4 = .ok (.iload_n 2, 1) := by decide +kernel
theorem dX2_wornTogether_5 : decode cX2_wornTogether 5 = .ok (.aload_n 0, 1) := by decide +kernel
theorem dX2_wornTogether_6 : decode cX2_wornTogether 6 = .ok (.getfield 24, 3) := by decide +kernel
theorem dX2_wornTogether_9 : decode cX2_wornTogether 9 = .ok (.if_icmp .ge 17, 3) := by decide +kernel
theorem dX2_wornTogether_12 : decode cX2_wornTogether 12 = .ok (.iload_n 1, 1) := by decide +kernel
theorem dX2_wornTogether_13 : decode cX2_wornTogether 13 = .ok (.aload_n 0, 1) := by decide +kernel
theorem dX2_wornTogether_14 : decode cX2_wornTogether 14 = .ok (.iload_n 2, 1) := by decide +kernel
theorem dX2_wornTogether_15 : decode cX2_wornTogether 15 = .ok (.invokevirtual 134, 3) := by decide +kernel
theorem dX2_wornTogether_18 : decode cX2_wornTogether 18 = .ok (.iadd, 1) := by decide +kernel
theorem dX2_wornTogether_19 : decode cX2_wornTogether 19 = .ok (.istore_n 1, 1) := by decide +kernel
theorem dX2_wornTogether_20 : decode cX2_wornTogether 20 = .ok (.iinc 2 1, 3) := by decide +kernel
theorem dX2_wornTogether_23 : decode cX2_wornTogether 23 = .ok (.goto (-19), 3) := by decide +kernel
theorem dX2_wornTogether_26 : decode cX2_wornTogether 26 = .ok (.iload_n 1, 1) := by decide +kernel
theorem dX2_wornTogether_27 : decode cX2_wornTogether 27 = .ok (.ireturn, 1) := by decide +kernel
theorem dX2_highIn_0 : decode cX2_highIn 0 = .ok (.aload_n 1, 1) := by decide +kernel
theorem dX2_highIn_1 : decode cX2_highIn 1 = .ok (.getfield 106, 3) := by decide +kernel
theorem dX2_highIn_4 : decode cX2_highIn 4 = .ok (.aload_n 1, 1) := by decide +kernel
theorem dX2_highIn_5 : decode cX2_highIn 5 = .ok (.getfield 113, 3) := by decide +kernel
theorem dX2_highIn_8 : decode cX2_highIn 8 = .ok (.aload_n 1, 1) := by decide +kernel
theorem dX2_highIn_9 : decode cX2_highIn 9 = .ok (.getfield 96, 3) := by decide +kernel
theorem dX2_highIn_12 : decode cX2_highIn 12 = .ok (.iload_n 2, 1) := by decide +kernel
theorem dX2_highIn_13 : decode cX2_highIn 13 = .ok (.invokestatic 102, 3) := by decide +kernel
theorem dX2_highIn_16 : decode cX2_highIn 16 = .ok (.invokestatic 137, 3) := by decide +kernel
theorem dX2_highIn_19 : decode cX2_highIn 19 = .ok (.istore_n 3, 1) := by decide +kernel
theorem dX2_highIn_20 : decode cX2_highIn 20 = .ok (.aload_n 0, 1) := by decide +kernel
theorem dX2_highIn_21 : decode cX2_highIn 21 = .ok (.iload_n 2, 1) := by decide +kernel
theorem dX2_highIn_22 : decode cX2_highIn 22 = .ok (.iload_n 3, 1) := by decide +kernel
theorem dX2_highIn_23 : decode cX2_highIn 23 = .ok (.aload_n 1, 1) := by decide +kernel
theorem dX2_highIn_24 : decode cX2_highIn 24 = .ok (.getfield 99, 3) := by decide +kernel
theorem dX2_highIn_27 : decode cX2_highIn 27 = .ok (.iload_n 2, 1) := by decide +kernel
theorem dX2_highIn_28 : decode cX2_highIn 28 = .ok (.invokestatic 102, 3) := by decide +kernel
theorem dX2_highIn_31 : decode cX2_highIn 31 = .ok (.aload_n 1, 1) := by decide +kernel
theorem dX2_highIn_32 : decode cX2_highIn 32 = .ok (.getfield 119, 3) := by decide +kernel
theorem dX2_highIn_35 : decode cX2_highIn 35 = .ok (.invokevirtual 140, 3) := by decide +kernel
theorem dX2_highIn_38 : decode cX2_highIn 38 = .ok (.ireturn, 1) := by decide +kernel
theorem dX2_highFrom_0 : decode cX2_highFrom 0 = .ok (.iload_n 3, 1) := by decide +kernel
theorem dX2_highFrom_1 : decode cX2_highFrom 1 = .ok (.invokestatic 130, 3) := by decide +kernel
theorem dX2_highFrom_4 : decode cX2_highFrom 4 = .ok (.ifCond .eq 6, 3) := by decide +kernel
theorem dX2_highFrom_7 : decode cX2_highFrom 7 = .ok (.bipush (-20), 2) := by decide +kernel
theorem dX2_highFrom_9 : decode cX2_highFrom 9 = .ok (.ireturn, 1) := by decide +kernel
theorem dX2_highFrom_10 : decode cX2_highFrom 10 = .ok (.aload_n 0, 1) := by decide +kernel
theorem dX2_highFrom_11 : decode cX2_highFrom 11 = .ok (.getfield 15, 3) := by decide +kernel
theorem dX2_highFrom_14 : decode cX2_highFrom 14 = .ok (.iload_n 1, 1) := by decide +kernel
theorem dX2_highFrom_15 : decode cX2_highFrom 15 = .ok (.invokestatic 102, 3) := by decide +kernel
theorem dX2_highFrom_18 : decode cX2_highFrom 18 = .ok (.aload_n 0, 1) := by decide +kernel
theorem dX2_highFrom_19 : decode cX2_highFrom 19 = .ok (.getfield 21, 3) := by decide +kernel
theorem dX2_highFrom_22 : decode cX2_highFrom 22 = .ok (.iload_n 1, 1) := by decide +kernel
theorem dX2_highFrom_23 : decode cX2_highFrom 23 = .ok (.invokestatic 102, 3) := by decide +kernel
theorem dX2_highFrom_26 : decode cX2_highFrom 26 = .ok (.aload_n 0, 1) := by decide +kernel
theorem dX2_highFrom_27 : decode cX2_highFrom 27 = .ok (.getfield 18, 3) := by decide +kernel
theorem dX2_highFrom_30 : decode cX2_highFrom 30 = .ok (.iload_n 1, 1) := by decide +kernel
theorem dX2_highFrom_31 : decode cX2_highFrom 31 = .ok (.invokestatic 102, 3) := by decide +kernel
theorem dX2_highFrom_34 : decode cX2_highFrom 34 = .ok (.iload_n 3, 1) := by decide +kernel
theorem dX2_highFrom_35 : decode cX2_highFrom 35 = .ok (.invokestatic 144, 3) := by decide +kernel
theorem dX2_highFrom_38 : decode cX2_highFrom 38 = .ok (.istore 5, 2) := by decide +kernel
theorem dX2_highFrom_40 : decode cX2_highFrom 40 = .ok (.aload_n 0, 1) := by decide +kernel
theorem dX2_highFrom_41 : decode cX2_highFrom 41 = .ok (.getfield 9, 3) := by decide +kernel
theorem dX2_highFrom_44 : decode cX2_highFrom 44 = .ok (.iload_n 1, 1) := by decide +kernel
theorem dX2_highFrom_45 : decode cX2_highFrom 45 = .ok (.invokestatic 102, 3) := by decide +kernel
theorem dX2_highFrom_48 : decode cX2_highFrom 48 = .ok (.iload_n 2, 1) := by decide +kernel
theorem dX2_highFrom_49 : decode cX2_highFrom 49 = .ok (.iload 5, 2) := by decide +kernel
theorem dX2_highFrom_51 : decode cX2_highFrom 51 = .ok (.isub, 1) := by decide +kernel
theorem dX2_highFrom_52 : decode cX2_highFrom 52 = .ok (.iload 4, 2) := by decide +kernel
theorem dX2_highFrom_54 : decode cX2_highFrom 54 = .ok (.invokestatic 147, 3) := by decide +kernel
theorem dX2_highFrom_57 : decode cX2_highFrom 57 = .ok (.ireturn, 1) := by decide +kernel
theorem dX2_tellOf_0 : decode cX2_tellOf 0 = .ok (.iload_n 2, 1) := by decide +kernel
theorem dX2_tellOf_1 : decode cX2_tellOf 1 = .ok (.tableswitch 105 0 6 #[43, 52, 61, 67, 76, 82, 88], 43) := by decide +kernel
theorem dX2_tellOf_44 : decode cX2_tellOf 44 = .ok (.aload_n 0, 1) := by decide +kernel
theorem dX2_tellOf_45 : decode cX2_tellOf 45 = .ok (.getfield 9, 3) := by decide +kernel
theorem dX2_tellOf_48 : decode cX2_tellOf 48 = .ok (.iload_n 1, 1) := by decide +kernel
theorem dX2_tellOf_49 : decode cX2_tellOf 49 = .ok (.invokestatic 102, 3) := by decide +kernel
theorem dX2_tellOf_52 : decode cX2_tellOf 52 = .ok (.ireturn, 1) := by decide +kernel
theorem dX2_tellOf_53 : decode cX2_tellOf 53 = .ok (.aload_n 0, 1) := by decide +kernel
theorem dX2_tellOf_54 : decode cX2_tellOf 54 = .ok (.getfield 15, 3) := by decide +kernel
theorem dX2_tellOf_57 : decode cX2_tellOf 57 = .ok (.iload_n 1, 1) := by decide +kernel
theorem dX2_tellOf_58 : decode cX2_tellOf 58 = .ok (.invokestatic 102, 3) := by decide +kernel
theorem dX2_tellOf_61 : decode cX2_tellOf 61 = .ok (.ireturn, 1) := by decide +kernel
theorem dX2_tellOf_62 : decode cX2_tellOf 62 = .ok (.aload_n 0, 1) := by decide +kernel
theorem dX2_tellOf_63 : decode cX2_tellOf 63 = .ok (.iload_n 1, 1) := by decide +kernel
theorem dX2_tellOf_64 : decode cX2_tellOf 64 = .ok (.invokevirtual 122, 3) := by decide +kernel
theorem dX2_tellOf_67 : decode cX2_tellOf 67 = .ok (.ireturn, 1) := by decide +kernel
theorem dX2_tellOf_68 : decode cX2_tellOf 68 = .ok (.aload_n 0, 1) := by decide +kernel
theorem dX2_tellOf_69 : decode cX2_tellOf 69 = .ok (.getfield 21, 3) := by decide +kernel
theorem dX2_tellOf_72 : decode cX2_tellOf 72 = .ok (.iload_n 1, 1) := by decide +kernel
theorem dX2_tellOf_73 : decode cX2_tellOf 73 = .ok (.invokestatic 102, 3) := by decide +kernel
theorem dX2_tellOf_76 : decode cX2_tellOf 76 = .ok (.ireturn, 1) := by decide +kernel
theorem dX2_tellOf_77 : decode cX2_tellOf 77 = .ok (.aload_n 0, 1) := by decide +kernel
theorem dX2_tellOf_78 : decode cX2_tellOf 78 = .ok (.iload_n 1, 1) := by decide +kernel
theorem dX2_tellOf_79 : decode cX2_tellOf 79 = .ok (.invokevirtual 150, 3) := by decide +kernel
theorem dX2_tellOf_82 : decode cX2_tellOf 82 = .ok (.ireturn, 1) := by decide +kernel
theorem dX2_tellOf_83 : decode cX2_tellOf 83 = .ok (.aload_n 0, 1) := by decide +kernel
theorem dX2_tellOf_84 : decode cX2_tellOf 84 = .ok (.iload_n 1, 1) := by decide +kernel
theorem dX2_tellOf_85 : decode cX2_tellOf 85 = .ok (.invokevirtual 134, 3) := by decide +kernel
theorem dX2_tellOf_88 : decode cX2_tellOf 88 = .ok (.ireturn, 1) := by decide +kernel
theorem dX2_tellOf_89 : decode cX2_tellOf 89 = .ok (.aload_n 0, 1) := by decide +kernel
theorem dX2_tellOf_90 : decode cX2_tellOf 90 = .ok (.iload_n 1, 1) := by decide +kernel
theorem dX2_tellOf_91 : decode cX2_tellOf 91 = .ok (.invokevirtual 134, 3) := by decide +kernel
theorem dX2_tellOf_94 : decode cX2_tellOf 94 = .ok (.invokestatic 130, 3) := by decide +kernel
theorem dX2_tellOf_97 : decode cX2_tellOf 97 = .ok (.ifCond .eq 7, 3) := by decide +kernel
theorem dX2_tellOf_100 : decode cX2_tellOf 100 = .ok (.iconst 1, 1) := by decide +kernel
theorem dX2_tellOf_101 : decode cX2_tellOf 101 = .ok (.goto 4, 3) := by decide +kernel
theorem dX2_tellOf_104 : decode cX2_tellOf 104 = .ok (.iconst 0, 1) := by decide +kernel
theorem dX2_tellOf_105 : decode cX2_tellOf 105 = .ok (.ireturn, 1) := by decide +kernel
theorem dX2_tellOf_106 : decode cX2_tellOf 106 = .ok (.aload_n 0, 1) := by decide +kernel
theorem dX2_tellOf_107 : decode cX2_tellOf 107 = .ok (.aload_n 0, 1) := by decide +kernel
theorem dX2_tellOf_108 : decode cX2_tellOf 108 = .ok (.getfield 31, 3) := by decide +kernel
theorem dX2_tellOf_111 : decode cX2_tellOf 111 = .ok (.iload_n 1, 1) := by decide +kernel
theorem dX2_tellOf_112 : decode cX2_tellOf 112 = .ok (.invokevirtual 153, 3) := by decide +kernel
theorem dX2_tellOf_115 : decode cX2_tellOf 115 = .ok (.ireturn, 1) := by decide +kernel
theorem dX2_pastAt_0 : decode cX2_pastAt 0 = .ok (.iload_n 1, 1) := by decide +kernel
theorem dX2_pastAt_1 : decode cX2_pastAt 1 = .ok (.ifCond .lt 21, 3) := by decide +kernel
theorem dX2_pastAt_4 : decode cX2_pastAt 4 = .ok (.iload_n 1, 1) := by decide +kernel
theorem dX2_pastAt_5 : decode cX2_pastAt 5 = .ok (.aload_n 0, 1) := by decide +kernel
theorem dX2_pastAt_6 : decode cX2_pastAt 6 = .ok (.getfield 35, 3) := by decide +kernel
theorem dX2_pastAt_9 : decode cX2_pastAt 9 = .ok (.arraylength, 1) := by decide +kernel
theorem dX2_pastAt_10 : decode cX2_pastAt 10 = .ok (.if_icmp .ge 12, 3) := by decide +kernel
theorem dX2_pastAt_13 : decode cX2_pastAt 13 = .ok (.aload_n 0, 1) := by decide +kernel
theorem dX2_pastAt_14 : decode cX2_pastAt 14 = .ok (.getfield 35, 3) := by decide +kernel
theorem dX2_pastAt_17 : decode cX2_pastAt 17 = .ok (.iload_n 1, 1) := by decide +kernel
theorem dX2_pastAt_18 : decode cX2_pastAt 18 = .ok (.aaload, 1) := by decide +kernel
theorem dX2_pastAt_19 : decode cX2_pastAt 19 = .ok (.goto 4, 3) := by decide +kernel
theorem dX2_pastAt_22 : decode cX2_pastAt 22 = .ok (.aconst_null, 1) := by decide +kernel
theorem dX2_pastAt_23 : decode cX2_pastAt 23 = .ok (.astore_n 2, 1) := by decide +kernel
theorem dX2_pastAt_24 : decode cX2_pastAt 24 = .ok (.aload_n 2, 1) := by decide +kernel
theorem dX2_pastAt_25 : decode cX2_pastAt 25 = .ok (.ifnonnull 10, 3) := by decide +kernel
theorem dX2_pastAt_28 : decode cX2_pastAt 28 = .ok (.aload_n 0, 1) := by decide +kernel
theorem dX2_pastAt_29 : decode cX2_pastAt 29 = .ok (.getfield 31, 3) := by decide +kernel
theorem dX2_pastAt_32 : decode cX2_pastAt 32 = .ok (.goto 4, 3) := by decide +kernel
theorem dX2_pastAt_35 : decode cX2_pastAt 35 = .ok (.aload_n 2, 1) := by decide +kernel
theorem dX2_pastAt_36 : decode cX2_pastAt 36 = .ok (.areturn, 1) := by decide +kernel
theorem dX2_remember_0 : decode cX2_remember 0 = .ok (.aload_n 0, 1) := by decide +kernel
theorem dX2_remember_1 : decode cX2_remember 1 = .ok (.aload_n 0, 1) := by decide +kernel
theorem dX2_remember_2 : decode cX2_remember 2 = .ok (.getfield 39, 3) := by decide +kernel
theorem dX2_remember_5 : decode cX2_remember 5 = .ok (.invokevirtual 89, 3) := by decide +kernel
theorem dX2_remember_8 : decode cX2_remember 8 = .ok (.aload_n 0, 1) := by decide +kernel
theorem dX2_remember_9 : decode cX2_remember 9 = .ok (.getfield 31, 3) := by decide +kernel
theorem dX2_remember_12 : decode cX2_remember 12 = .ok (.invokevirtual 85, 3) := by decide +kernel
theorem dX2_remember_15 : decode cX2_remember 15 = .ok (.aload_n 0, 1) := by decide +kernel
theorem dX2_remember_16 : decode cX2_remember 16 = .ok (.aload_n 0, 1) := by decide +kernel
theorem dX2_remember_17 : decode cX2_remember 17 = .ok (.getfield 39, 3) := by decide +kernel
theorem dX2_remember_20 : decode cX2_remember 20 = .ok (.iconst 1, 1) := by decide +kernel
theorem dX2_remember_21 : decode cX2_remember 21 = .ok (.iadd, 1) := by decide +kernel
theorem dX2_remember_22 : decode cX2_remember 22 = .ok (.bipush 8, 2) := by decide +kernel
theorem dX2_remember_24 : decode cX2_remember 24 = .ok (.irem, 1) := by decide +kernel
theorem dX2_remember_25 : decode cX2_remember 25 = .ok (.putfield 39, 3) := by decide +kernel
theorem dX2_remember_28 : decode cX2_remember 28 = .ok (.aload_n 0, 1) := by decide +kernel
theorem dX2_remember_29 : decode cX2_remember 29 = .ok (.aload_n 0, 1) := by decide +kernel
theorem dX2_remember_30 : decode cX2_remember 30 = .ok (.getfield 42, 3) := by decide +kernel
theorem dX2_remember_33 : decode cX2_remember 33 = .ok (.iconst 1, 1) := by decide +kernel
theorem dX2_remember_34 : decode cX2_remember 34 = .ok (.iadd, 1) := by decide +kernel
theorem dX2_remember_35 : decode cX2_remember 35 = .ok (.bipush 8, 2) := by decide +kernel
theorem dX2_remember_37 : decode cX2_remember 37 = .ok (.invokestatic 157, 3) := by decide +kernel
theorem dX2_remember_40 : decode cX2_remember 40 = .ok (.putfield 42, 3) := by decide +kernel
theorem dX2_remember_43 : decode cX2_remember 43 = .ok (.return_, 1) := by decide +kernel
theorem dX2_goBack_0 : decode cX2_goBack 0 = .ok (.aload_n 0, 1) := by decide +kernel
theorem dX2_goBack_1 : decode cX2_goBack 1 = .ok (.aload_n 0, 1) := by decide +kernel
theorem dX2_goBack_2 : decode cX2_goBack 2 = .ok (.getfield 39, 3) := by decide +kernel
theorem dX2_goBack_5 : decode cX2_goBack 5 = .ok (.bipush 8, 2) := by decide +kernel
theorem dX2_goBack_7 : decode cX2_goBack 7 = .ok (.iadd, 1) := by decide +kernel
theorem dX2_goBack_8 : decode cX2_goBack 8 = .ok (.iconst 1, 1) := by decide +kernel
theorem dX2_goBack_9 : decode cX2_goBack 9 = .ok (.isub, 1) := by decide +kernel
theorem dX2_goBack_10 : decode cX2_goBack 10 = .ok (.bipush 8, 2) := by decide +kernel
theorem dX2_goBack_12 : decode cX2_goBack 12 = .ok (.irem, 1) := by decide +kernel
theorem dX2_goBack_13 : decode cX2_goBack 13 = .ok (.putfield 39, 3) := by decide +kernel
theorem dX2_goBack_16 : decode cX2_goBack 16 = .ok (.aload_n 0, 1) := by decide +kernel
theorem dX2_goBack_17 : decode cX2_goBack 17 = .ok (.dup, 1) := by decide +kernel
theorem dX2_goBack_18 : decode cX2_goBack 18 = .ok (.getfield 42, 3) := by decide +kernel
theorem dX2_goBack_21 : decode cX2_goBack 21 = .ok (.iconst 1, 1) := by decide +kernel
theorem dX2_goBack_22 : decode cX2_goBack 22 = .ok (.isub, 1) := by decide +kernel
theorem dX2_goBack_23 : decode cX2_goBack 23 = .ok (.putfield 42, 3) := by decide +kernel
theorem dX2_goBack_26 : decode cX2_goBack 26 = .ok (.aload_n 0, 1) := by decide +kernel
theorem dX2_goBack_27 : decode cX2_goBack 27 = .ok (.getfield 31, 3) := by decide +kernel
theorem dX2_goBack_30 : decode cX2_goBack 30 = .ok (.aload_n 0, 1) := by decide +kernel
theorem dX2_goBack_31 : decode cX2_goBack 31 = .ok (.aload_n 0, 1) := by decide +kernel
theorem dX2_goBack_32 : decode cX2_goBack 32 = .ok (.getfield 39, 3) := by decide +kernel
theorem dX2_goBack_35 : decode cX2_goBack 35 = .ok (.invokevirtual 89, 3) := by decide +kernel
theorem dX2_goBack_38 : decode cX2_goBack 38 = .ok (.invokevirtual 85, 3) := by decide +kernel
theorem dX2_goBack_41 : decode cX2_goBack 41 = .ok (.return_, 1) := by decide +kernel
theorem dX3_init_0 : decode cX3_init 0 = .ok (.aload_n 0, 1) := by decide +kernel
theorem dX3_init_1 : decode cX3_init 1 = .ok (.invokespecial 3, 3) := by decide +kernel
theorem dX3_init_4 : decode cX3_init 4 = .ok (.aload_n 0, 1) := by decide +kernel
theorem dX3_init_5 : decode cX3_init 5 = .ok (.sipush 150, 3) := by decide +kernel
theorem dX3_init_8 : decode cX3_init 8 = .ok (.newarray .int, 2) := by decide +kernel
theorem dX3_init_10 : decode cX3_init 10 = .ok (.putfield 9, 3) := by decide +kernel
theorem dX3_init_13 : decode cX3_init 13 = .ok (.aload_n 0, 1) := by decide +kernel
theorem dX3_init_14 : decode cX3_init 14 = .ok (.iconst 0, 1) := by decide +kernel
theorem dX3_init_15 : decode cX3_init 15 = .ok (.putfield 15, 3) := by decide +kernel
theorem dX3_init_18 : decode cX3_init 18 = .ok (.aload_n 0, 1) := by decide +kernel
theorem dX3_init_19 : decode cX3_init 19 = .ok (.iconst 0, 1) := by decide +kernel
theorem dX3_init_20 : decode cX3_init 20 = .ok (.putfield 19, 3) := by decide +kernel
theorem dX3_init_23 : decode cX3_init 23 = .ok (.aload_n 0, 1) := by decide +kernel
theorem dX3_init_24 : decode cX3_init 24 = .ok (.iconst 0, 1) := by decide +kernel
theorem dX3_init_25 : decode cX3_init 25 = .ok (.putfield 22, 3) := by decide +kernel
theorem dX3_init_28 : decode cX3_init 28 = .ok (.aload_n 0, 1) := by decide +kernel
theorem dX3_init_29 : decode cX3_init 29 = .ok (.iconst 0, 1) := by decide +kernel
theorem dX3_init_30 : decode cX3_init 30 = .ok (.putfield 25, 3) := by decide +kernel
theorem dX3_init_33 : decode cX3_init 33 = .ok (.aload_n 0, 1) := by decide +kernel
theorem dX3_init_34 : decode cX3_init 34 = .ok (.iconst 0, 1) := by decide +kernel
theorem dX3_init_35 : decode cX3_init 35 = .ok (.putfield 28, 3) := by decide +kernel
theorem dX3_init_38 : decode cX3_init 38 = .ok (.return_, 1) := by decide +kernel
theorem dX3_append_0 : decode cX3_append 0 = .ok (.aload_n 0, 1) := by decide +kernel
theorem dX3_append_1 : decode cX3_append 1 = .ok (.getfield 9, 3) := by decide +kernel
theorem dX3_append_4 : decode cX3_append 4 = .ok (.aload_n 0, 1) := by decide +kernel
theorem dX3_append_5 : decode cX3_append 5 = .ok (.getfield 15, 3) := by decide +kernel
theorem dX3_append_8 : decode cX3_append 8 = .ok (.iload_n 1, 1) := by decide +kernel
theorem dX3_append_9 : decode cX3_append 9 = .ok (.invokestatic 31, 3) := by decide +kernel
theorem dX3_append_12 : decode cX3_append 12 = .ok (.aload_n 0, 1) := by decide +kernel
theorem dX3_append_13 : decode cX3_append 13 = .ok (.dup, 1) := by decide +kernel
theorem dX3_append_14 : decode cX3_append 14 = .ok (.getfield 15, 3) := by decide +kernel
theorem dX3_append_17 : decode cX3_append 17 = .ok (.iconst 1, 1) := by decide +kernel
theorem dX3_append_18 : decode cX3_append 18 = .ok (.iadd, 1) := by decide +kernel
theorem dX3_append_19 : decode cX3_append 19 = .ok (.putfield 15, 3) := by decide +kernel
theorem dX3_append_22 : decode cX3_append 22 = .ok (.aload_n 0, 1) := by decide +kernel
theorem dX3_append_23 : decode cX3_append 23 = .ok (.getfield 15, 3) := by decide +kernel
theorem dX3_append_26 : decode cX3_append 26 = .ok (.ireturn, 1) := by decide +kernel
theorem dX3_readInto_0 : decode cX3_readInto 0 = .ok (.aload_n 0, 1) := by decide +kernel
theorem dX3_readInto_1 : decode cX3_readInto 1 = .ok (.iconst 0, 1) := by decide +kernel
theorem dX3_readInto_2 : decode cX3_readInto 2 = .ok (.putfield 22, 3) := by decide +kernel
theorem dX3_readInto_5 : decode cX3_readInto 5 = .ok (.aload_n 0, 1) := by decide +kernel
theorem dX3_readInto_6 : decode cX3_readInto 6 = .ok (.aload_n 1, 1) := by decide +kernel
theorem dX3_readInto_7 : decode cX3_readInto 7 = .ok (.invokevirtual 35, 3) := by decide +kernel
theorem dX3_readInto_10 : decode cX3_readInto 10 = .ok (.ifCond .ne 11, 3) := by decide +kernel
theorem dX3_readInto_13 : decode cX3_readInto 13 = .ok (.bipush (-10), 2) := by decide +kernel
theorem dX3_readInto_15 : decode cX3_readInto 15 = .ok (.aload_n 0, 1) := by decide +kernel
theorem dX3_readInto_16 : decode cX3_readInto 16 = .ok (.getfield 19, 3) := by decide +kernel
theorem dX3_readInto_19 : decode cX3_readInto 19 = .ok (.isub, 1) := by decide +kernel
theorem dX3_readInto_20 : decode cX3_readInto 20 = .ok (.ireturn, 1) := by decide +kernel
theorem dX3_readInto_21 : decode cX3_readInto 21 = .ok (.iconst 1, 1) := by decide +kernel
theorem dX3_readInto_22 : decode cX3_readInto 22 = .ok (.istore_n 2, 1) := by decide +kernel
theorem dX3_readInto_23 : decode cX3_readInto 23 = .ok (.iload_n 2, 1) := by decide +kernel
theorem dX3_readInto_24 : decode cX3_readInto 24 = .ok (.sipush 150, 3) := by decide +kernel
theorem dX3_readInto_27 : decode cX3_readInto 27 = .ok (.if_icmp .gt 38, 3) := by decide +kernel
theorem dX3_readInto_30 : decode cX3_readInto 30 = .ok (.aload_n 0, 1) := by decide +kernel
theorem dX3_readInto_31 : decode cX3_readInto 31 = .ok (.invokevirtual 39, 3) := by decide +kernel
theorem dX3_readInto_34 : decode cX3_readInto 34 = .ok (.aload_n 0, 1) := by decide +kernel
theorem dX3_readInto_35 : decode cX3_readInto 35 = .ok (.getfield 25, 3) := by decide +kernel
theorem dX3_readInto_38 : decode cX3_readInto 38 = .ok (.ifCond .ne 5, 3) := by decide +kernel
theorem dX3_readInto_41 : decode cX3_readInto 41 = .ok (.iload_n 2, 1) := by decide +kernel
theorem dX3_readInto_42 : decode cX3_readInto 42 = .ok (.ireturn, 1) := by decide +kernel
theorem dX3_readInto_43 : decode cX3_readInto 43 = .ok (.aload_n 0, 1) := by decide +kernel
theorem dX3_readInto_44 : decode cX3_readInto 44 = .ok (.aload_n 1, 1) := by decide +kernel
theorem dX3_readInto_45 : decode cX3_readInto 45 = .ok (.invokevirtual 42, 3) := by decide +kernel
theorem dX3_readInto_48 : decode cX3_readInto 48 = .ok (.ifCond .ne 11, 3) := by decide +kernel
theorem dX3_readInto_51 : decode cX3_readInto 51 = .ok (.bipush (-10), 2) := by decide +kernel
theorem dX3_readInto_53 : decode cX3_readInto 53 = .ok (.aload_n 0, 1) := by decide +kernel
theorem dX3_readInto_54 : decode cX3_readInto 54 = .ok (.getfield 19, 3) := by decide +kernel
theorem dX3_readInto_57 : decode cX3_readInto 57 = .ok (.isub, 1) := by decide +kernel
theorem dX3_readInto_58 : decode cX3_readInto 58 = .ok (.ireturn, 1) := by decide +kernel
theorem dX3_readInto_59 : decode cX3_readInto 59 = .ok (.iinc 2 1, 3) := by decide +kernel
theorem dX3_readInto_62 : decode cX3_readInto 62 = .ok (.goto (-39), 3) := by decide +kernel
theorem dX3_readInto_65 : decode cX3_readInto 65 = .ok (.bipush (-10), 2) := by decide +kernel
theorem dX3_readInto_67 : decode cX3_readInto 67 = .ok (.aload_n 0, 1) := by decide +kernel
theorem dX3_readInto_68 : decode cX3_readInto 68 = .ok (.getfield 19, 3) := by decide +kernel
theorem dX3_readInto_71 : decode cX3_readInto 71 = .ok (.isub, 1) := by decide +kernel
theorem dX3_readInto_72 : decode cX3_readInto 72 = .ok (.ireturn, 1) := by decide +kernel
theorem dX3_takeOpening_0 : decode cX3_takeOpening 0 = .ok (.aload_n 0, 1) := by decide +kernel
theorem dX3_takeOpening_1 : decode cX3_takeOpening 1 = .ok (.invokevirtual 39, 3) := by decide +kernel
theorem dX3_takeOpening_4 : decode cX3_takeOpening 4 = .ok (.aload_n 0, 1) := by decide +kernel
theorem dX3_takeOpening_5 : decode cX3_takeOpening 5 = .ok (.ldc 45, 2) := by decide +kernel
theorem dX3_takeOpening_7 : decode cX3_takeOpening 7 = .ok (.invokevirtual 47, 3) := by decide +kernel
theorem dX3_takeOpening_10 : decode cX3_takeOpening 10 = .ok (.ifCond .eq 13, 3) := by decide +kernel
theorem dX3_takeOpening_13 : decode cX3_takeOpening 13 = .ok (.aload_n 0, 1) := by decide +kernel
theorem dX3_takeOpening_14 : decode cX3_takeOpening 14 = .ok (.iconst 0, 1) := by decide +kernel
theorem dX3_takeOpening_15 : decode cX3_takeOpening 15 = .ok (.bipush 40, 2) := by decide +kernel
theorem dX3_takeOpening_17 : decode cX3_takeOpening 17 = .ok (.invokevirtual 51, 3) := by decide +kernel
theorem dX3_takeOpening_20 : decode cX3_takeOpening 20 = .ok (.ifCond .ne 5, 3) := by decide +kernel
theorem dX3_takeOpening_23 : decode cX3_takeOpening 23 = .ok (.iconst 0, 1) := by decide +kernel
theorem dX3_takeOpening_24 : decode cX3_takeOpening 24 = .ok (.ireturn, 1) := by decide +kernel
theorem dX3_takeOpening_25 : decode cX3_takeOpening 25 = .ok (.aload_n 1, 1) := by decide +kernel
theorem dX3_takeOpening_26 : decode cX3_takeOpening 26 = .ok (.aload_n 0, 1) := by decide +kernel
theorem dX3_takeOpening_27 : decode cX3_takeOpening 27 = .ok (.getfield 28, 3) := by decide +kernel
theorem dX3_takeOpening_30 : decode cX3_takeOpening 30 = .ok (.invokevirtual 55, 3) := by decide +kernel
theorem dX3_takeOpening_33 : decode cX3_takeOpening 33 = .ok (.aload_n 0, 1) := by decide +kernel
theorem dX3_takeOpening_34 : decode cX3_takeOpening 34 = .ok (.invokevirtual 61, 3) := by decide +kernel
theorem dX3_takeOpening_37 : decode cX3_takeOpening 37 = .ok (.ireturn, 1) := by decide +kernel
theorem dX3_takeItem_0 : decode cX3_takeItem 0 = .ok (.aload_n 0, 1) := by decide +kernel
theorem dX3_takeItem_1 : decode cX3_takeItem 1 = .ok (.ldc 65, 2) := by decide +kernel
theorem dX3_takeItem_3 : decode cX3_takeItem 3 = .ok (.invokevirtual 47, 3) := by decide +kernel
theorem dX3_takeItem_6 : decode cX3_takeItem 6 = .ok (.ifCond .eq 26, 3) := by decide +kernel
theorem dX3_takeItem_9 : decode cX3_takeItem 9 = .ok (.aload_n 1, 1) := by decide +kernel
theorem dX3_takeItem_10 : decode cX3_takeItem 10 = .ok (.getfield 67, 3) := by decide +kernel
theorem dX3_takeItem_13 : decode cX3_takeItem 13 = .ok (.bipush 7, 2) := by decide +kernel
theorem dX3_takeItem_15 : decode cX3_takeItem 15 = .ok (.if_icmp .ge 15, 3) := by decide +kernel
theorem dX3_takeItem_18 : decode cX3_takeItem 18 = .ok (.aload_n 0, 1) := by decide +kernel
theorem dX3_takeItem_19 : decode cX3_takeItem 19 = .ok (.aload_n 1, 1) := by decide +kernel
theorem dX3_takeItem_20 : decode cX3_takeItem 20 = .ok (.invokevirtual 70, 3) := by decide +kernel
theorem dX3_takeItem_23 : decode cX3_takeItem 23 = .ok (.ifCond .eq 7, 3) := by decide +kernel
theorem dX3_takeItem_26 : decode cX3_takeItem 26 = .ok (.iconst 1, 1) := by decide +kernel
theorem dX3_takeItem_27 : decode cX3_takeItem 27 = .ok (.goto 4, 3) := by decide +kernel
theorem dX3_takeItem_30 : decode cX3_takeItem 30 = .ok (.iconst 0, 1) := by decide +kernel
theorem dX3_takeItem_31 : decode cX3_takeItem 31 = .ok (.ireturn, 1) := by decide +kernel
theorem dX3_takeItem_32 : decode cX3_takeItem 32 = .ok (.aload_n 0, 1) := by decide +kernel
theorem dX3_takeItem_33 : decode cX3_takeItem 33 = .ok (.ldc 73, 2) := by decide +kernel
theorem dX3_takeItem_35 : decode cX3_takeItem 35 = .ok (.invokevirtual 47, 3) := by decide +kernel
theorem dX3_takeItem_38 : decode cX3_takeItem 38 = .ok (.ifCond .eq 9, 3) := by decide +kernel
theorem dX3_takeItem_41 : decode cX3_takeItem 41 = .ok (.aload_n 0, 1) := by decide +kernel
theorem dX3_takeItem_42 : decode cX3_takeItem 42 = .ok (.aload_n 1, 1) := by decide +kernel
theorem dX3_takeItem_43 : decode cX3_takeItem 43 = .ok (.invokevirtual 75, 3) := by decide +kernel
theorem dX3_takeItem_46 : decode cX3_takeItem 46 = .ok (.ireturn, 1) := by decide +kernel
theorem dX3_takeItem_47 : decode cX3_takeItem 47 = .ok (.aload_n 0, 1) := by decide +kernel
theorem dX3_takeItem_48 : decode cX3_takeItem 48 = .ok (.ldc 78, 2) := by decide +kernel
theorem dX3_takeItem_50 : decode cX3_takeItem 50 = .ok (.invokevirtual 47, 3) := by decide +kernel
theorem dX3_takeItem_53 : decode cX3_takeItem 53 = .ok (.ifCond .eq 9, 3) := by decide +kernel
theorem dX3_takeItem_56 : decode cX3_takeItem 56 = .ok (.aload_n 0, 1) := by decide +kernel
theorem dX3_takeItem_57 : decode cX3_takeItem 57 = .ok (.aload_n 1, 1) := by decide +kernel
theorem dX3_takeItem_58 : decode cX3_takeItem 58 = .ok (.invokevirtual 80, 3) := by decide +kernel
theorem dX3_takeItem_61 : decode cX3_takeItem 61 = .ok (.ireturn, 1) := by decide +kernel
theorem dX3_takeItem_62 : decode cX3_takeItem 62 = .ok (.aload_n 0, 1) := by decide +kernel
theorem dX3_takeItem_63 : decode cX3_takeItem 63 = .ok (.ldc 83, 2) := by decide +kernel
theorem dX3_takeItem_65 : decode cX3_takeItem 65 = .ok (.invokevirtual 47, 3) := by decide +kernel
theorem dX3_takeItem_68 : decode cX3_takeItem 68 = .ok (.ifCond .eq 15, 3) := by decide +kernel
theorem dX3_takeItem_71 : decode cX3_takeItem 71 = .ok (.aload_n 0, 1) := by decide +kernel
theorem dX3_takeItem_72 : decode cX3_takeItem 72 = .ok (.aload_n 1, 1) := by decide +kernel
theorem dX3_takeItem_73 : decode cX3_takeItem 73 = .ok (.invokevirtual 85, 3) := by decide +kernel
theorem dX3_takeItem_76 : decode cX3_takeItem 76 = .ok (.ifCond .eq 7, 3) := by decide +kernel
theorem dX3_takeItem_79 : decode cX3_takeItem 79 = .ok (.iconst 1, 1) := by decide +kernel
theorem dX3_takeItem_80 : decode cX3_takeItem 80 = .ok (.goto 4, 3) := by decide +kernel
theorem dX3_takeItem_83 : decode cX3_takeItem 83 = .ok (.iconst 0, 1) := by decide +kernel
theorem dX3_takeItem_84 : decode cX3_takeItem 84 = .ok (.ireturn, 1) := by decide +kernel
theorem dX3_takeLimb_0 : decode cX3_takeLimb 0 = .ok (.aload_n 0, 1) := by decide +kernel
theorem dX3_takeLimb_1 : decode cX3_takeLimb 1 = .ok (.iconst 0, 1) := by decide +kernel
theorem dX3_takeLimb_2 : decode cX3_takeLimb 2 = .ok (.iconst 5, 1) := by decide +kernel
theorem dX3_takeLimb_3 : decode cX3_takeLimb 3 = .ok (.invokevirtual 51, 3) := by decide +kernel
theorem dX3_takeLimb_6 : decode cX3_takeLimb 6 = .ok (.ifCond .ne 5, 3) := by decide +kernel
theorem dX3_takeLimb_9 : decode cX3_takeLimb 9 = .ok (.iconst 0, 1) := by decide +kernel
theorem dX3_takeLimb_10 : decode cX3_takeLimb 10 = .ok (.ireturn, 1) := by decide +kernel
theorem dX3_takeLimb_11 : decode cX3_takeLimb 11 = .ok (.aload_n 0, 1) := by decide +kernel
theorem dX3_takeLimb_12 : decode cX3_takeLimb 12 = .ok (.getfield 28, 3) := by decide +kernel
theorem dX3_takeLimb_15 : decode cX3_takeLimb 15 = .ok (.istore_n 2, 1) := by decide +kernel
theorem dX3_takeLimb_16 : decode cX3_takeLimb 16 = .ok (.aload_n 0, 1) := by decide +kernel
theorem dX3_takeLimb_17 : decode cX3_takeLimb 17 = .ok (.iconst 0, 1) := by decide +kernel
theorem dX3_takeLimb_18 : decode cX3_takeLimb 18 = .ok (.iconst 5, 1) := by decide +kernel
theorem dX3_takeLimb_19 : decode cX3_takeLimb 19 = .ok (.invokevirtual 51, 3) := by decide +kernel
theorem dX3_takeLimb_22 : decode cX3_takeLimb 22 = .ok (.ifCond .ne 5, 3) := by decide +kernel
theorem dX3_takeLimb_25 : decode cX3_takeLimb 25 = .ok (.iconst 0, 1) := by decide +kernel
theorem dX3_takeLimb_26 : decode cX3_takeLimb 26 = .ok (.ireturn, 1) := by decide +kernel
theorem dX3_takeLimb_27 : decode cX3_takeLimb 27 = .ok (.aload_n 0, 1) := by decide +kernel
theorem dX3_takeLimb_28 : decode cX3_takeLimb 28 = .ok (.getfield 28, 3) := by decide +kernel
theorem dX3_takeLimb_31 : decode cX3_takeLimb 31 = .ok (.istore_n 3, 1) := by decide +kernel
theorem dX3_takeLimb_32 : decode cX3_takeLimb 32 = .ok (.aload_n 0, 1) := by decide +kernel
theorem dX3_takeLimb_33 : decode cX3_takeLimb 33 = .ok (.iconst 1, 1) := by decide +kernel
theorem dX3_takeLimb_34 : decode cX3_takeLimb 34 = .ok (.bipush 9, 2) := by decide +kernel
theorem dX3_takeLimb_36 : decode cX3_takeLimb 36 = .ok (.invokevirtual 51, 3) := by decide +kernel
theorem dX3_takeLimb_39 : decode cX3_takeLimb 39 = .ok (.ifCond .ne 5, 3) := by decide +kernel
theorem dX3_takeLimb_42 : decode cX3_takeLimb 42 = .ok (.iconst 0, 1) := by decide +kernel
theorem dX3_takeLimb_43 : decode cX3_takeLimb 43 = .ok (.ireturn, 1) := by decide +kernel
theorem dX3_takeLimb_44 : decode cX3_takeLimb 44 = .ok (.aload_n 0, 1) := by decide +kernel
theorem dX3_takeLimb_45 : decode cX3_takeLimb 45 = .ok (.getfield 28, 3) := by decide +kernel
theorem dX3_takeLimb_48 : decode cX3_takeLimb 48 = .ok (.istore 4, 2) := by decide +kernel
theorem dX3_takeLimb_50 : decode cX3_takeLimb 50 = .ok (.aload_n 0, 1) := by decide +kernel
theorem dX3_takeLimb_51 : decode cX3_takeLimb 51 = .ok (.iconst 1, 1) := by decide +kernel
theorem dX3_takeLimb_52 : decode cX3_takeLimb 52 = .ok (.bipush 20, 2) := by decide +kernel
theorem dX3_takeLimb_54 : decode cX3_takeLimb 54 = .ok (.invokevirtual 51, 3) := by decide +kernel
theorem dX3_takeLimb_57 : decode cX3_takeLimb 57 = .ok (.ifCond .ne 5, 3) := by decide +kernel
theorem dX3_takeLimb_60 : decode cX3_takeLimb 60 = .ok (.iconst 0, 1) := by decide +kernel
theorem dX3_takeLimb_61 : decode cX3_takeLimb 61 = .ok (.ireturn, 1) := by decide +kernel
theorem dX3_takeLimb_62 : decode cX3_takeLimb 62 = .ok (.aload_n 0, 1) := by decide +kernel
theorem dX3_takeLimb_63 : decode cX3_takeLimb 63 = .ok (.getfield 28, 3) := by decide +kernel
theorem dX3_takeLimb_66 : decode cX3_takeLimb 66 = .ok (.istore 5, 2) := by decide +kernel
theorem dX3_takeLimb_68 : decode cX3_takeLimb 68 = .ok (.aload_n 0, 1) := by decide +kernel
theorem dX3_takeLimb_69 : decode cX3_takeLimb 69 = .ok (.iconst 0, 1) := by decide +kernel
theorem dX3_takeLimb_70 : decode cX3_takeLimb 70 = .ok (.bipush 8, 2) := by decide +kernel
theorem dX3_takeLimb_72 : decode cX3_takeLimb 72 = .ok (.invokevirtual 51, 3) := by decide +kernel
theorem dX3_takeLimb_75 : decode cX3_takeLimb 75 = .ok (.ifCond .ne 5, 3) := by decide +kernel
theorem dX3_takeLimb_78 : decode cX3_takeLimb 78 = .ok (.iconst 0, 1) := by decide +kernel
theorem dX3_takeLimb_79 : decode cX3_takeLimb 79 = .ok (.ireturn, 1) := by decide +kernel
theorem dX3_takeLimb_80 : decode cX3_takeLimb 80 = .ok (.aload_n 1, 1) := by decide +kernel
theorem dX3_takeLimb_81 : decode cX3_takeLimb 81 = .ok (.iload_n 2, 1) := by decide +kernel
theorem dX3_takeLimb_82 : decode cX3_takeLimb 82 = .ok (.iload_n 3, 1) := by decide +kernel
theorem dX3_takeLimb_83 : decode cX3_takeLimb 83 = .ok (.iload 4, 2) := by decide +kernel
theorem dX3_takeLimb_85 : decode cX3_takeLimb 85 = .ok (.iload 5, 2) := by decide +kernel
theorem dX3_takeLimb_87 : decode cX3_takeLimb 87 = .ok (.aload_n 0, 1) := by decide +kernel
theorem dX3_takeLimb_88 : decode cX3_takeLimb 88 = .ok (.getfield 28, 3) := by decide +kernel
theorem dX3_takeLimb_91 : decode cX3_takeLimb 91 = .ok (.invokevirtual 88, 3) := by decide +kernel
theorem dX3_takeLimb_94 : decode cX3_takeLimb 94 = .ok (.pop, 1) := by decide +kernel
theorem dX3_takeLimb_95 : decode cX3_takeLimb 95 = .ok (.aload_n 0, 1) := by decide +kernel
theorem dX3_takeLimb_96 : decode cX3_takeLimb 96 = .ok (.invokevirtual 61, 3) := by decide +kernel
theorem dX3_takeLimb_99 : decode cX3_takeLimb 99 = .ok (.ireturn, 1) := by decide +kernel
theorem dX3_takeMoves_0 : decode cX3_takeMoves 0 = .ok (.iconst 0, 1) := by decide +kernel
theorem dX3_takeMoves_1 : decode cX3_takeMoves 1 = .ok (.istore_n 2, 1) := by decide +kernel
theorem dX3_takeMoves_2 : decode cX3_takeMoves 2 = .ok (.iload_n 2, 1) := by decide +kernel
theorem dX3_takeMoves_3 : decode cX3_takeMoves 3 = .ok (.bipush 9, 2) := by decide +kernel
theorem dX3_takeMoves_5 : decode cX3_takeMoves 5 = .ok (.if_icmp .gt 56, 3) := by decide +kernel
theorem dX3_takeMoves_8 : decode cX3_takeMoves 8 = .ok (.aload_n 0, 1) := by decide +kernel
theorem dX3_takeMoves_9 : decode cX3_takeMoves 9 = .ok (.invokevirtual 39, 3) := by decide +kernel
theorem dX3_takeMoves_12 : decode cX3_takeMoves 12 = .ok (.iload_n 2, 1) := by decide +kernel
theorem dX3_takeMoves_13 : decode cX3_takeMoves 13 = .ok (.ifCond .le 13, 3) := by decide +kernel
theorem dX3_takeMoves_16 : decode cX3_takeMoves 16 = .ok (.aload_n 0, 1) := by decide +kernel
theorem dX3_takeMoves_17 : decode cX3_takeMoves 17 = .ok (.getfield 25, 3) := by decide +kernel
theorem dX3_takeMoves_20 : decode cX3_takeMoves 20 = .ok (.iconst 3, 1) := by decide +kernel
theorem dX3_takeMoves_21 : decode cX3_takeMoves 21 = .ok (.if_icmp .ne 5, 3) := by decide +kernel
theorem dX3_takeMoves_24 : decode cX3_takeMoves 24 = .ok (.iconst 1, 1) := by decide +kernel
theorem dX3_takeMoves_25 : decode cX3_takeMoves 25 = .ok (.ireturn, 1) := by decide +kernel
theorem dX3_takeMoves_26 : decode cX3_takeMoves 26 = .ok (.iload_n 2, 1) := by decide +kernel
theorem dX3_takeMoves_27 : decode cX3_takeMoves 27 = .ok (.bipush 9, 2) := by decide +kernel
theorem dX3_takeMoves_29 : decode cX3_takeMoves 29 = .ok (.if_icmp .eq 12, 3) := by decide +kernel
theorem dX3_takeMoves_32 : decode cX3_takeMoves 32 = .ok (.aload_n 0, 1) := by decide +kernel
theorem dX3_takeMoves_33 : decode cX3_takeMoves 33 = .ok (.iconst 0, 1) := by decide +kernel
theorem dX3_takeMoves_34 : decode cX3_takeMoves 34 = .ok (.iconst 4, 1) := by decide +kernel
theorem dX3_takeMoves_35 : decode cX3_takeMoves 35 = .ok (.invokevirtual 92, 3) := by decide +kernel
theorem dX3_takeMoves_38 : decode cX3_takeMoves 38 = .ok (.ifCond .ne 5, 3) := by decide +kernel
theorem dX3_takeMoves_41 : decode cX3_takeMoves 41 = .ok (.iconst 0, 1) := by decide +kernel
theorem dX3_takeMoves_42 : decode cX3_takeMoves 42 = .ok (.ireturn, 1) := by decide +kernel
theorem dX3_takeMoves_43 : decode cX3_takeMoves 43 = .ok (.aload_n 1, 1) := by decide +kernel
theorem dX3_takeMoves_44 : decode cX3_takeMoves 44 = .ok (.aload_n 1, 1) := by decide +kernel
theorem dX3_takeMoves_45 : decode cX3_takeMoves 45 = .ok (.getfield 95, 3) := by decide +kernel
theorem dX3_takeMoves_48 : decode cX3_takeMoves 48 = .ok (.aload_n 0, 1) := by decide +kernel
theorem dX3_takeMoves_49 : decode cX3_takeMoves 49 = .ok (.getfield 28, 3) := by decide +kernel
theorem dX3_takeMoves_52 : decode cX3_takeMoves 52 = .ok (.invokevirtual 99, 3) := by decide +kernel
theorem dX3_takeMoves_55 : decode cX3_takeMoves 55 = .ok (.iinc 2 1, 3) := by decide +kernel
theorem dX3_takeMoves_58 : decode cX3_takeMoves 58 = .ok (.goto (-56), 3) := by decide +kernel
theorem dX3_takeMoves_61 : decode cX3_takeMoves 61 = .ok (.iconst 0, 1) := by decide +kernel
theorem dX3_takeMoves_62 : decode cX3_takeMoves 62 = .ok (.ireturn, 1) := by decide +kernel
theorem dX3_takeTie_0 : decode cX3_takeTie 0 = .ok (.aload_n 0, 1) := by decide +kernel
theorem dX3_takeTie_1 : decode cX3_takeTie 1 = .ok (.iconst 0, 1) := by decide +kernel
theorem dX3_takeTie_2 : decode cX3_takeTie 2 = .ok (.aload_n 1, 1) := by decide +kernel
theorem dX3_takeTie_3 : decode cX3_takeTie 3 = .ok (.getfield 67, 3) := by decide +kernel
theorem dX3_takeTie_6 : decode cX3_takeTie 6 = .ok (.iconst 1, 1) := by decide +kernel
theorem dX3_takeTie_7 : decode cX3_takeTie 7 = .ok (.isub, 1) := by decide +kernel
theorem dX3_takeTie_8 : decode cX3_takeTie 8 = .ok (.invokevirtual 51, 3) := by decide +kernel
theorem dX3_takeTie_11 : decode cX3_takeTie 11 = .ok (.ifCond .eq 17, 3) := by decide +kernel
theorem dX3_takeTie_14 : decode cX3_takeTie 14 = .ok (.aload_n 1, 1) := by decide +kernel
theorem dX3_takeTie_15 : decode cX3_takeTie 15 = .ok (.aload_n 0, 1) := by decide +kernel
theorem dX3_takeTie_16 : decode cX3_takeTie 16 = .ok (.getfield 28, 3) := by decide +kernel
theorem dX3_takeTie_19 : decode cX3_takeTie 19 = .ok (.invokevirtual 103, 3) := by decide +kernel
theorem dX3_takeTie_22 : decode cX3_takeTie 22 = .ok (.invokestatic 107, 3) := by decide +kernel
theorem dX3_takeTie_25 : decode cX3_takeTie 25 = .ok (.ifCond .ne 5, 3) := by decide +kernel
theorem dX3_takeTie_28 : decode cX3_takeTie 28 = .ok (.iconst 0, 1) := by decide +kernel
theorem dX3_takeTie_29 : decode cX3_takeTie 29 = .ok (.ireturn, 1) := by decide +kernel
theorem dX3_takeTie_30 : decode cX3_takeTie 30 = .ok (.aload_n 1, 1) := by decide +kernel
theorem dX3_takeTie_31 : decode cX3_takeTie 31 = .ok (.getfield 95, 3) := by decide +kernel
theorem dX3_takeTie_34 : decode cX3_takeTie 34 = .ok (.getfield 111, 3) := by decide +kernel
theorem dX3_takeTie_37 : decode cX3_takeTie 37 = .ok (.aload_n 0, 1) := by decide +kernel
theorem dX3_takeTie_38 : decode cX3_takeTie 38 = .ok (.getfield 28, 3) := by decide +kernel
theorem dX3_takeTie_41 : decode cX3_takeTie 41 = .ok (.iconst 0, 1) := by decide +kernel
theorem dX3_takeTie_42 : decode cX3_takeTie 42 = .ok (.invokestatic 31, 3) := by decide +kernel
theorem dX3_takeTie_45 : decode cX3_takeTie 45 = .ok (.aload_n 0, 1) := by decide +kernel
theorem dX3_takeTie_46 : decode cX3_takeTie 46 = .ok (.invokevirtual 61, 3) := by decide +kernel
theorem dX3_takeTie_49 : decode cX3_takeTie 49 = .ok (.ireturn, 1) := by decide +kernel
theorem dX3_takeHang_0 : decode cX3_takeHang 0 = .ok (.aload_n 0, 1) := by decide +kernel
theorem dX3_takeHang_1 : decode cX3_takeHang 1 = .ok (.iconst 0, 1) := by decide +kernel
theorem dX3_takeHang_2 : decode cX3_takeHang 2 = .ok (.aload_n 1, 1) := by decide +kernel
theorem dX3_takeHang_3 : decode cX3_takeHang 3 = .ok (.getfield 67, 3) := by decide +kernel
theorem dX3_takeHang_6 : decode cX3_takeHang 6 = .ok (.iconst 1, 1) := by decide +kernel
theorem dX3_takeHang_7 : decode cX3_takeHang 7 = .ok (.isub, 1) := by decide +kernel
theorem dX3_takeHang_8 : decode cX3_takeHang 8 = .ok (.invokevirtual 51, 3) := by decide +kernel
theorem dX3_takeHang_11 : decode cX3_takeHang 11 = .ok (.ifCond .ne 5, 3) := by decide +kernel
theorem dX3_takeHang_14 : decode cX3_takeHang 14 = .ok (.iconst 0, 1) := by decide +kernel
theorem dX3_takeHang_15 : decode cX3_takeHang 15 = .ok (.ireturn, 1) := by decide +kernel
theorem dX3_takeHang_16 : decode cX3_takeHang 16 = .ok (.aload_n 0, 1) := by decide +kernel
theorem dX3_takeHang_17 : decode cX3_takeHang 17 = .ok (.getfield 28, 3) := by decide +kernel
theorem dX3_takeHang_20 : decode cX3_takeHang 20 = .ok (.istore_n 2, 1) := by decide +kernel
theorem dX3_takeHang_21 : decode cX3_takeHang 21 = .ok (.aload_n 0, 1) := by decide +kernel
theorem dX3_takeHang_22 : decode cX3_takeHang 22 = .ok (.iconst 0, 1) := by decide +kernel
theorem dX3_takeHang_23 : decode cX3_takeHang 23 = .ok (.bipush 8, 2) := by decide +kernel
theorem dX3_takeHang_25 : decode cX3_takeHang 25 = .ok (.invokevirtual 51, 3) := by decide +kernel
theorem dX3_takeHang_28 : decode cX3_takeHang 28 = .ok (.ifCond .ne 5, 3) := by decide +kernel
theorem dX3_takeHang_31 : decode cX3_takeHang 31 = .ok (.iconst 0, 1) := by decide +kernel
theorem dX3_takeHang_32 : decode cX3_takeHang 32 = .ok (.ireturn, 1) := by decide +kernel
theorem dX3_takeHang_33 : decode cX3_takeHang 33 = .ok (.aload_n 1, 1) := by decide +kernel
theorem dX3_takeHang_34 : decode cX3_takeHang 34 = .ok (.getfield 95, 3) := by decide +kernel
theorem dX3_takeHang_37 : decode cX3_takeHang 37 = .ok (.getfield 116, 3) := by decide +kernel
theorem dX3_takeHang_40 : decode cX3_takeHang 40 = .ok (.iload_n 2, 1) := by decide +kernel
theorem dX3_takeHang_41 : decode cX3_takeHang 41 = .ok (.aload_n 0, 1) := by decide +kernel
theorem dX3_takeHang_42 : decode cX3_takeHang 42 = .ok (.getfield 28, 3) := by decide +kernel
theorem dX3_takeHang_45 : decode cX3_takeHang 45 = .ok (.invokestatic 31, 3) := by decide +kernel
theorem dX3_takeHang_48 : decode cX3_takeHang 48 = .ok (.aload_n 0, 1) := by decide +kernel
theorem dX3_takeHang_49 : decode cX3_takeHang 49 = .ok (.invokevirtual 61, 3) := by decide +kernel
theorem dX3_takeHang_52 : decode cX3_takeHang 52 = .ok (.ireturn, 1) := by decide +kernel
theorem dX3_takeNumber_0 : decode cX3_takeNumber 0 = .ok (.aload_n 0, 1) := by decide +kernel
theorem dX3_takeNumber_1 : decode cX3_takeNumber 1 = .ok (.invokevirtual 39, 3) := by decide +kernel
theorem dX3_takeNumber_4 : decode cX3_takeNumber 4 = .ok (.aload_n 0, 1) := by decide +kernel
theorem dX3_takeNumber_5 : decode cX3_takeNumber 5 = .ok (.iload_n 1, 1) := by decide +kernel
theorem dX3_takeNumber_6 : decode cX3_takeNumber 6 = .ok (.iload_n 2, 1) := by decide +kernel
theorem dX3_takeNumber_7 : decode cX3_takeNumber 7 = .ok (.invokevirtual 92, 3) := by decide +kernel
theorem dX3_takeNumber_10 : decode cX3_takeNumber 10 = .ok (.ireturn, 1) := by decide +kernel
theorem dX3_takeSemicolon_0 : decode cX3_takeSemicolon 0 = .ok (.aload_n 0, 1) := by decide +kernel
theorem dX3_takeSemicolon_1 : decode cX3_takeSemicolon 1 = .ok (.invokevirtual 39, 3) := by decide +kernel
theorem dX3_takeSemicolon_4 : decode cX3_takeSemicolon 4 = .ok (.aload_n 0, 1) := by decide +kernel
theorem dX3_takeSemicolon_5 : decode cX3_takeSemicolon 5 = .ok (.getfield 25, 3) := by decide +kernel
theorem dX3_takeSemicolon_8 : decode cX3_takeSemicolon 8 = .ok (.iconst 3, 1) := by decide +kernel
theorem dX3_takeSemicolon_9 : decode cX3_takeSemicolon 9 = .ok (.if_icmp .ne 7, 3) := by decide +kernel
theorem dX3_takeSemicolon_12 : decode cX3_takeSemicolon 12 = .ok (.iconst 1, 1) := by decide +kernel
theorem dX3_takeSemicolon_13 : decode cX3_takeSemicolon 13 = .ok (.goto 4, 3) := by decide +kernel
theorem dX3_takeSemicolon_16 : decode cX3_takeSemicolon 16 = .ok (.iconst 0, 1) := by decide +kernel
theorem dX3_takeSemicolon_17 : decode cX3_takeSemicolon 17 = .ok (.ireturn, 1) := by decide +kernel
theorem dX3_isNumber_0 : decode cX3_isNumber 0 = .ok (.aload_n 0, 1) := by decide +kernel
theorem dX3_isNumber_1 : decode cX3_isNumber 1 = .ok (.getfield 25, 3) := by decide +kernel
theorem dX3_isNumber_4 : decode cX3_isNumber 4 = .ok (.iconst 2, 1) := by decide +kernel
theorem dX3_isNumber_5 : decode cX3_isNumber 5 = .ok (.if_icmp .ne 19, 3) := by decide +kernel
theorem dX3_isNumber_8 : decode cX3_isNumber 8 = .ok (.aload_n 0, 1) := by decide +kernel
theorem dX3_isNumber_9 : decode cX3_isNumber 9 = .ok (.getfield 28, 3) := by decide +kernel
theorem dX3_isNumber_12 : decode cX3_isNumber 12 = .ok (.iload_n 1, 1) := by decide +kernel
theorem dX3_isNumber_13 : decode cX3_isNumber 13 = .ok (.iload_n 2, 1) := by decide +kernel
theorem dX3_isNumber_14 : decode cX3_isNumber 14 = .ok (.invokestatic 119, 3) := by decide +kernel
theorem dX3_isNumber_17 : decode cX3_isNumber 17 = .ok (.ifCond .ne 7, 3) := by decide +kernel
theorem dX3_isNumber_20 : decode cX3_isNumber 20 = .ok (.iconst 1, 1) := by decide +kernel
theorem dX3_isNumber_21 : decode cX3_isNumber 21 = .ok (.goto 4, 3) := by decide +kernel
theorem dX3_isNumber_24 : decode cX3_isNumber 24 = .ok (.iconst 0, 1) := by decide +kernel
theorem dX3_isNumber_25 : decode cX3_isNumber 25 = .ok (.ireturn, 1) := by decide +kernel
theorem dX3_isWord_0 : decode cX3_isWord 0 = .ok (.aload_n 0, 1) := by decide +kernel
theorem dX3_isWord_1 : decode cX3_isWord 1 = .ok (.getfield 25, 3) := by decide +kernel
theorem dX3_isWord_4 : decode cX3_isWord 4 = .ok (.iconst 1, 1) := by decide +kernel
theorem dX3_isWord_5 : decode cX3_isWord 5 = .ok (.if_icmp .ne 19, 3) := by decide +kernel
theorem dX3_isWord_8 : decode cX3_isWord 8 = .ok (.aload_n 0, 1) := by decide +kernel
theorem dX3_isWord_9 : decode cX3_isWord 9 = .ok (.getfield 22, 3) := by decide +kernel
theorem dX3_isWord_12 : decode cX3_isWord 12 = .ok (.aload_n 0, 1) := by decide +kernel
theorem dX3_isWord_13 : decode cX3_isWord 13 = .ok (.getfield 19, 3) := by decide +kernel
theorem dX3_isWord_16 : decode cX3_isWord 16 = .ok (.isub, 1) := by decide +kernel
theorem dX3_isWord_17 : decode cX3_isWord 17 = .ok (.aload_n 1, 1) := by decide +kernel
theorem dX3_isWord_18 : decode cX3_isWord 18 = .ok (.invokevirtual 123, 3) := by decide +kernel
theorem dX3_isWord_21 : decode cX3_isWord 21 = .ok (.if_icmp .eq 5, 3) := by decide +kernel
theorem dX3_isWord_24 : decode cX3_isWord 24 = .ok (.iconst 0, 1) := by decide +kernel
theorem dX3_isWord_25 : decode cX3_isWord 25 = .ok (.ireturn, 1) := by decide +kernel
theorem dX3_isWord_26 : decode cX3_isWord 26 = .ok (.iconst 0, 1) := by decide +kernel
theorem dX3_isWord_27 : decode cX3_isWord 27 = .ok (.istore_n 2, 1) := by decide +kernel
theorem dX3_isWord_28 : decode cX3_isWord 28 = .ok (.iload_n 2, 1) := by decide +kernel
theorem dX3_isWord_29 : decode cX3_isWord 29 = .ok (.aload_n 1, 1) := by decide +kernel
theorem dX3_isWord_30 : decode cX3_isWord 30 = .ok (.invokevirtual 123, 3) := by decide +kernel
theorem dX3_isWord_33 : decode cX3_isWord 33 = .ok (.if_icmp .ge 32, 3) := by decide +kernel
theorem dX3_isWord_36 : decode cX3_isWord 36 = .ok (.aload_n 0, 1) := by decide +kernel
theorem dX3_isWord_37 : decode cX3_isWord 37 = .ok (.getfield 9, 3) := by decide +kernel
theorem dX3_isWord_40 : decode cX3_isWord 40 = .ok (.aload_n 0, 1) := by decide +kernel
theorem dX3_isWord_41 : decode cX3_isWord 41 = .ok (.getfield 19, 3) := by decide +kernel
theorem dX3_isWord_44 : decode cX3_isWord 44 = .ok (.iload_n 2, 1) := by decide +kernel
theorem dX3_isWord_45 : decode cX3_isWord 45 = .ok (.iadd, 1) := by decide +kernel
theorem dX3_isWord_46 : decode cX3_isWord 46 = .ok (.invokestatic 128, 3) := by decide +kernel
theorem dX3_isWord_49 : decode cX3_isWord 49 = .ok (.aload_n 1, 1) := by decide +kernel
theorem dX3_isWord_50 : decode cX3_isWord 50 = .ok (.iload_n 2, 1) := by decide +kernel
theorem dX3_isWord_51 : decode cX3_isWord 51 = .ok (.invokevirtual 132, 3) := by decide +kernel
theorem dX3_isWord_54 : decode cX3_isWord 54 = .ok (.if_icmp .eq 5, 3) := by decide +kernel
theorem dX3_isWord_57 : decode cX3_isWord 57 = .ok (.iconst 0, 1) := by decide +kernel
theorem dX3_isWord_58 : decode cX3_isWord 58 = .ok (.ireturn, 1) := by decide +kernel
theorem dX3_isWord_59 : decode cX3_isWord 59 = .ok (.iinc 2 1, 3) := by decide +kernel
theorem dX3_isWord_62 : decode cX3_isWord 62 = .ok (.goto (-34), 3) := by decide +kernel
theorem dX3_isWord_65 : decode cX3_isWord 65 = .ok (.iconst 1, 1) := by decide +kernel
theorem dX3_isWord_66 : decode cX3_isWord 66 = .ok (.ireturn, 1) := by decide +kernel
theorem dX3_advance_0 : decode cX3_advance 0 = .ok (.aload_n 0, 1) := by decide +kernel
theorem dX3_advance_1 : decode cX3_advance 1 = .ok (.aload_n 0, 1) := by decide +kernel
theorem dX3_advance_2 : decode cX3_advance 2 = .ok (.aload_n 0, 1) := by decide +kernel
theorem dX3_advance_3 : decode cX3_advance 3 = .ok (.getfield 22, 3) := by decide +kernel
theorem dX3_advance_6 : decode cX3_advance 6 = .ok (.bipush 32, 2) := by decide +kernel
theorem dX3_advance_8 : decode cX3_advance 8 = .ok (.bipush 32, 2) := by decide +kernel
theorem dX3_advance_10 : decode cX3_advance 10 = .ok (.invokevirtual 136, 3) := by decide +kernel
theorem dX3_advance_13 : decode cX3_advance 13 = .ok (.putfield 19, 3) := by decide +kernel
theorem dX3_advance_16 : decode cX3_advance 16 = .ok (.aload_n 0, 1) := by decide +kernel
theorem dX3_advance_17 : decode cX3_advance 17 = .ok (.aload_n 0, 1) := by decide +kernel
theorem dX3_advance_18 : decode cX3_advance 18 = .ok (.getfield 19, 3) := by decide +kernel
theorem dX3_advance_21 : decode cX3_advance 21 = .ok (.iconst 1, 1) := by decide +kernel
theorem dX3_advance_22 : decode cX3_advance 22 = .ok (.iadd, 1) := by decide +kernel
theorem dX3_advance_23 : decode cX3_advance 23 = .ok (.putfield 22, 3) := by decide +kernel
theorem dX3_advance_26 : decode cX3_advance 26 = .ok (.aload_n 0, 1) := by decide +kernel
theorem dX3_advance_27 : decode cX3_advance 27 = .ok (.getfield 9, 3) := by decide +kernel
theorem dX3_advance_30 : decode cX3_advance 30 = .ok (.aload_n 0, 1) := by decide +kernel
theorem dX3_advance_31 : decode cX3_advance 31 = .ok (.getfield 19, 3) := by decide +kernel
theorem dX3_advance_34 : decode cX3_advance 34 = .ok (.invokestatic 128, 3) := by decide +kernel
theorem dX3_advance_37 : decode cX3_advance 37 = .ok (.istore_n 1, 1) := by decide +kernel
theorem dX3_advance_38 : decode cX3_advance 38 = .ok (.aload_n 0, 1) := by decide +kernel
theorem dX3_advance_39 : decode cX3_advance 39 = .ok (.getfield 19, 3) := by decide +kernel
theorem dX3_advance_42 : decode cX3_advance 42 = .ok (.aload_n 0, 1) := by decide +kernel
theorem dX3_advance_43 : decode cX3_advance 43 = .ok (.getfield 15, 3) := by decide +kernel
theorem dX3_advance_46 : decode cX3_advance 46 = .ok (.if_icmp .lt 19, 3) := by decide +kernel
theorem dX3_advance_49 : decode cX3_advance 49 = .ok (.aload_n 0, 1) := by decide +kernel
theorem dX3_advance_50 : decode cX3_advance 50 = .ok (.iconst 0, 1) := by decide +kernel
theorem dX3_advance_51 : decode cX3_advance 51 = .ok (.putfield 25, 3) := by decide +kernel
theorem dX3_advance_54 : decode cX3_advance 54 = .ok (.aload_n 0, 1) := by decide +kernel
theorem dX3_advance_55 : decode cX3_advance 55 = .ok (.aload_n 0, 1) := by decide +kernel
theorem dX3_advance_56 : decode cX3_advance 56 = .ok (.getfield 15, 3) := by decide +kernel
theorem dX3_advance_59 : decode cX3_advance 59 = .ok (.putfield 22, 3) := by decide +kernel
theorem dX3_advance_62 : decode cX3_advance 62 = .ok (.goto 153, 3) := by decide +kernel
theorem dX3_advance_65 : decode cX3_advance 65 = .ok (.iload_n 1, 1) := by decide +kernel
theorem dX3_advance_66 : decode cX3_advance 66 = .ok (.bipush 97, 2) := by decide +kernel
theorem dX3_advance_68 : decode cX3_advance 68 = .ok (.bipush 122, 2) := by decide +kernel
theorem dX3_advance_70 : decode cX3_advance 70 = .ok (.invokestatic 119, 3) := by decide +kernel
theorem dX3_advance_73 : decode cX3_advance 73 = .ok (.ifCond .ne 27, 3) := by decide +kernel
theorem dX3_advance_76 : decode cX3_advance 76 = .ok (.aload_n 0, 1) := by decide +kernel
theorem dX3_advance_77 : decode cX3_advance 77 = .ok (.iconst 1, 1) := by decide +kernel
theorem dX3_advance_78 : decode cX3_advance 78 = .ok (.putfield 25, 3) := by decide +kernel
theorem dX3_advance_81 : decode cX3_advance 81 = .ok (.aload_n 0, 1) := by decide +kernel
theorem dX3_advance_82 : decode cX3_advance 82 = .ok (.aload_n 0, 1) := by decide +kernel
theorem dX3_advance_83 : decode cX3_advance 83 = .ok (.aload_n 0, 1) := by decide +kernel
theorem dX3_advance_84 : decode cX3_advance 84 = .ok (.getfield 19, 3) := by decide +kernel
theorem dX3_advance_87 : decode cX3_advance 87 = .ok (.bipush 97, 2) := by decide +kernel
theorem dX3_advance_89 : decode cX3_advance 89 = .ok (.bipush 122, 2) := by decide +kernel
theorem dX3_advance_91 : decode cX3_advance 91 = .ok (.invokevirtual 136, 3) := by decide +kernel
theorem dX3_advance_94 : decode cX3_advance 94 = .ok (.putfield 22, 3) := by decide +kernel
theorem dX3_advance_97 : decode cX3_advance 97 = .ok (.goto 118, 3) := by decide +kernel
theorem dX3_advance_100 : decode cX3_advance 100 = .ok (.iload_n 1, 1) := by decide +kernel
theorem dX3_advance_101 : decode cX3_advance 101 = .ok (.bipush 48, 2) := by decide +kernel
theorem dX3_advance_103 : decode cX3_advance 103 = .ok (.bipush 57, 2) := by decide +kernel
theorem dX3_advance_105 : decode cX3_advance 105 = .ok (.invokestatic 119, 3) := by decide +kernel
theorem dX3_advance_108 : decode cX3_advance 108 = .ok (.ifCond .ne 92, 3) := by decide +kernel
theorem dX3_advance_111 : decode cX3_advance 111 = .ok (.aload_n 0, 1) := by decide +kernel
theorem dX3_advance_112 : decode cX3_advance 112 = .ok (.aload_n 0, 1) := by decide +kernel
theorem dX3_advance_113 : decode cX3_advance 113 = .ok (.aload_n 0, 1) := by decide +kernel
theorem dX3_advance_114 : decode cX3_advance 114 = .ok (.getfield 19, 3) := by decide +kernel
theorem dX3_advance_117 : decode cX3_advance 117 = .ok (.bipush 48, 2) := by decide +kernel
theorem dX3_advance_119 : decode cX3_advance 119 = .ok (.bipush 57, 2) := by decide +kernel
theorem dX3_advance_121 : decode cX3_advance 121 = .ok (.invokevirtual 136, 3) := by decide +kernel
theorem dX3_advance_124 : decode cX3_advance 124 = .ok (.putfield 22, 3) := by decide +kernel
theorem dX3_advance_127 : decode cX3_advance 127 = .ok (.aload_n 0, 1) := by decide +kernel
theorem dX3_advance_128 : decode cX3_advance 128 = .ok (.aload_n 0, 1) := by decide +kernel
theorem dX3_advance_129 : decode cX3_advance 129 = .ok (.getfield 22, 3) := by decide +kernel
theorem dX3_advance_132 : decode cX3_advance 132 = .ok (.aload_n 0, 1) := by decide +kernel
theorem dX3_advance_133 : decode cX3_advance 133 = .ok (.getfield 19, 3) := by decide +kernel
theorem dX3_advance_136 : decode cX3_advance 136 = .ok (.isub, 1) := by decide +kernel
theorem dX3_advance_137 : decode cX3_advance 137 = .ok (.iconst 2, 1) := by decide +kernel
theorem dX3_advance_138 : decode cX3_advance 138 = .ok (.if_icmp .gt 7, 3) := by decide +kernel
theorem dX3_advance_141 : decode cX3_advance 141 = .ok (.iconst 2, 1) := by decide +kernel
theorem dX3_advance_142 : decode cX3_advance 142 = .ok (.goto 4, 3) := by decide +kernel
theorem dX3_advance_145 : decode cX3_advance 145 = .ok (.iconst 4, 1) := by decide +kernel
theorem dX3_advance_146 : decode cX3_advance 146 = .ok (.putfield 25, 3) := by decide +kernel
theorem dX3_advance_149 : decode cX3_advance 149 = .ok (.aload_n 0, 1) := by decide +kernel
theorem dX3_advance_150 : decode cX3_advance 150 = .ok (.aload_n 0, 1) := by decide +kernel
theorem dX3_advance_151 : decode cX3_advance 151 = .ok (.getfield 22, 3) := by decide +kernel
theorem dX3_advance_154 : decode cX3_advance 154 = .ok (.aload_n 0, 1) := by decide +kernel
theorem dX3_advance_155 : decode cX3_advance 155 = .ok (.getfield 19, 3) := by decide +kernel
theorem dX3_advance_158 : decode cX3_advance 158 = .ok (.isub, 1) := by decide +kernel
theorem dX3_advance_159 : decode cX3_advance 159 = .ok (.iconst 1, 1) := by decide +kernel
theorem dX3_advance_160 : decode cX3_advance 160 = .ok (.if_icmp .ne 10, 3) := by decide +kernel
theorem dX3_advance_163 : decode cX3_advance 163 = .ok (.iload_n 1, 1) := by decide +kernel
theorem dX3_advance_164 : decode cX3_advance 164 = .ok (.bipush 48, 2) := by decide +kernel
theorem dX3_advance_166 : decode cX3_advance 166 = .ok (.isub, 1) := by decide +kernel
theorem dX3_advance_167 : decode cX3_advance 167 = .ok (.goto 27, 3) := by decide +kernel
theorem dX3_advance_170 : decode cX3_advance 170 = .ok (.bipush 10, 2) := by decide +kernel
theorem dX3_advance_172 : decode cX3_advance 172 = .ok (.iload_n 1, 1) := by decide +kernel
theorem dX3_advance_173 : decode cX3_advance 173 = .ok (.bipush 48, 2) := by decide +kernel
theorem dX3_advance_175 : decode cX3_advance 175 = .ok (.isub, 1) := by decide +kernel
theorem dX3_advance_176 : decode cX3_advance 176 = .ok (.imul, 1) := by decide +kernel
theorem dX3_advance_177 : decode cX3_advance 177 = .ok (.aload_n 0, 1) := by decide +kernel
theorem dX3_advance_178 : decode cX3_advance 178 = .ok (.getfield 9, 3) := by decide +kernel
theorem dX3_advance_181 : decode cX3_advance 181 = .ok (.aload_n 0, 1) := by decide +kernel
theorem dX3_advance_182 : decode cX3_advance 182 = .ok (.getfield 19, 3) := by decide +kernel
theorem dX3_advance_185 : decode cX3_advance 185 = .ok (.iconst 1, 1) := by decide +kernel
theorem dX3_advance_186 : decode cX3_advance 186 = .ok (.iadd, 1) := by decide +kernel
theorem dX3_advance_187 : decode cX3_advance 187 = .ok (.invokestatic 128, 3) := by decide +kernel
theorem dX3_advance_190 : decode cX3_advance 190 = .ok (.iadd, 1) := by decide +kernel
theorem dX3_advance_191 : decode cX3_advance 191 = .ok (.bipush 48, 2) := by decide +kernel
theorem dX3_advance_193 : decode cX3_advance 193 = .ok (.isub, 1) := by decide +kernel
theorem dX3_advance_194 : decode cX3_advance 194 = .ok (.putfield 28, 3) := by decide +kernel
theorem dX3_advance_197 : decode cX3_advance 197 = .ok (.goto 18, 3) := by decide +kernel
theorem dX3_advance_200 : decode cX3_advance 200 = .ok (.aload_n 0, 1) := by decide +kernel
theorem dX3_advance_201 : decode cX3_advance 201 = .ok (.iload_n 1, 1) := by decide +kernel
theorem dX3_advance_202 : decode cX3_advance 202 = .ok (.bipush 59, 2) := by decide +kernel
theorem dX3_advance_204 : decode cX3_advance 204 = .ok (.if_icmp .ne 7, 3) := by decide +kernel
theorem dX3_advance_207 : decode cX3_advance 207 = .ok (.iconst 3, 1) := by decide +kernel
theorem dX3_advance_208 : decode cX3_advance 208 = .ok (.goto 4, 3) := by decide +kernel
theorem dX3_advance_211 : decode cX3_advance 211 = .ok (.iconst 4, 1) := by decide +kernel
theorem dX3_advance_212 : decode cX3_advance 212 = .ok (.putfield 25, 3) := by decide +kernel
theorem dX3_advance_215 : decode cX3_advance 215 = .ok (.return_, 1) := by decide +kernel
theorem dX3_runEnd_0 : decode cX3_runEnd 0 = .ok (.iload_n 1, 1) := by decide +kernel
theorem dX3_runEnd_1 : decode cX3_runEnd 1 = .ok (.istore 4, 2) := by decide +kernel
theorem dX3_runEnd_3 : decode cX3_runEnd 3 = .ok (.iload 4, 2) := by decide +kernel
theorem dX3_runEnd_5 : decode cX3_runEnd 5 = .ok (.ifCond .lt 50, 3) := by decide +kernel
theorem dX3_runEnd_8 : decode cX3_runEnd 8 = .ok (.iload 4, 2) := by decide +kernel
theorem dX3_runEnd_10 : decode cX3_runEnd 10 = .ok (.aload_n 0, 1) := by decide +kernel
theorem dX3_runEnd_11 : decode cX3_runEnd 11 = .ok (.getfield 15, 3) := by decide +kernel
theorem dX3_runEnd_14 : decode cX3_runEnd 14 = .ok (.if_icmp .ge 41, 3) := by decide +kernel
theorem dX3_runEnd_17 : decode cX3_runEnd 17 = .ok (.iload 4, 2) := by decide +kernel
theorem dX3_runEnd_19 : decode cX3_runEnd 19 = .ok (.aload_n 0, 1) := by decide +kernel
theorem dX3_runEnd_20 : decode cX3_runEnd 20 = .ok (.getfield 9, 3) := by decide +kernel
theorem dX3_runEnd_23 : decode cX3_runEnd 23 = .ok (.arraylength, 1) := by decide +kernel
theorem dX3_runEnd_24 : decode cX3_runEnd 24 = .ok (.if_icmp .ge 31, 3) := by decide +kernel
theorem dX3_runEnd_27 : decode cX3_runEnd 27 = .ok (.aload_n 0, 1) := by decide +kernel
theorem dX3_runEnd_28 : decode cX3_runEnd 28 = .ok (.getfield 9, 3) := by decide +kernel
theorem dX3_runEnd_31 : decode cX3_runEnd 31 = .ok (.iload 4, 2) := by decide +kernel
theorem dX3_runEnd_33 : decode cX3_runEnd 33 = .ok (.iaload, 1) := by decide +kernel
theorem dX3_runEnd_34 : decode cX3_runEnd 34 = .ok (.iload_n 2, 1) := by decide +kernel
theorem dX3_runEnd_35 : decode cX3_runEnd 35 = .ok (.if_icmp .lt 20, 3) := by decide +kernel
theorem dX3_runEnd_38 : decode cX3_runEnd 38 = .ok (.aload_n 0, 1) := by decide +kernel
theorem dX3_runEnd_39 : decode cX3_runEnd 39 = .ok (.getfield 9, 3) := by decide +kernel
theorem dX3_runEnd_42 : decode cX3_runEnd 42 = .ok (.iload 4, 2) := by decide +kernel
theorem dX3_runEnd_44 : decode cX3_runEnd 44 = .ok (.iaload, 1) := by decide +kernel
theorem dX3_runEnd_45 : decode cX3_runEnd 45 = .ok (.iload_n 3, 1) := by decide +kernel
theorem dX3_runEnd_46 : decode cX3_runEnd 46 = .ok (.if_icmp .gt 9, 3) := by decide +kernel
theorem dX3_runEnd_49 : decode cX3_runEnd 49 = .ok (.iinc 4 1, 3) := by decide +kernel
theorem dX3_runEnd_52 : decode cX3_runEnd 52 = .ok (.goto (-49), 3) := by decide +kernel
theorem dX3_runEnd_55 : decode cX3_runEnd 55 = .ok (.iload 4, 2) := by decide +kernel
theorem dX3_runEnd_57 : decode cX3_runEnd 57 = .ok (.ireturn, 1) := by decide +kernel
theorem dX4_init_0 : decode cX4_init 0 = .ok (.aload_n 0, 1) := by decide +kernel
theorem dX4_init_1 : decode cX4_init 1 = .ok (.invokespecial 3, 3) := by decide +kernel
theorem dX4_init_4 : decode cX4_init 4 = .ok (.aload_n 0, 1) := by decide +kernel
theorem dX4_init_5 : decode cX4_init 5 = .ok (.iconst 5, 1) := by decide +kernel
theorem dX4_init_6 : decode cX4_init 6 = .ok (.newarray .int, 2) := by decide +kernel
theorem dX4_init_8 : decode cX4_init 8 = .ok (.putfield 9, 3) := by decide +kernel
theorem dX4_init_11 : decode cX4_init 11 = .ok (.aload_n 0, 1) := by decide +kernel
theorem dX4_init_12 : decode cX4_init 12 = .ok (.iconst 0, 1) := by decide +kernel
theorem dX4_init_13 : decode cX4_init 13 = .ok (.putfield 15, 3) := by decide +kernel
theorem dX4_init_16 : decode cX4_init 16 = .ok (.aload_n 0, 1) := by decide +kernel
theorem dX4_init_17 : decode cX4_init 17 = .ok (.iconst 0, 1) := by decide +kernel
theorem dX4_init_18 : decode cX4_init 18 = .ok (.putfield 19, 3) := by decide +kernel
theorem dX4_init_21 : decode cX4_init 21 = .ok (.aload_n 0, 1) := by decide +kernel
theorem dX4_init_22 : decode cX4_init 22 = .ok (.iconst 0, 1) := by decide +kernel
theorem dX4_init_23 : decode cX4_init 23 = .ok (.putfield 22, 3) := by decide +kernel
theorem dX4_init_26 : decode cX4_init 26 = .ok (.aload_n 0, 1) := by decide +kernel
theorem dX4_init_27 : decode cX4_init 27 = .ok (.iconst 0, 1) := by decide +kernel
theorem dX4_init_28 : decode cX4_init 28 = .ok (.putfield 25, 3) := by decide +kernel
theorem dX4_init_31 : decode cX4_init 31 = .ok (.aload_n 0, 1) := by decide +kernel
theorem dX4_init_32 : decode cX4_init 32 = .ok (.iconst 0, 1) := by decide +kernel
theorem dX4_init_33 : decode cX4_init 33 = .ok (.putfield 28, 3) := by decide +kernel
theorem dX4_init_36 : decode cX4_init 36 = .ok (.aload_n 0, 1) := by decide +kernel
theorem dX4_init_37 : decode cX4_init 37 = .ok (.iconst 0, 1) := by decide +kernel
theorem dX4_init_38 : decode cX4_init 38 = .ok (.putfield 31, 3) := by decide +kernel
theorem dX4_init_41 : decode cX4_init 41 = .ok (.aload_n 0, 1) := by decide +kernel
theorem dX4_init_42 : decode cX4_init 42 = .ok (.iconst 0, 1) := by decide +kernel
theorem dX4_init_43 : decode cX4_init 43 = .ok (.putfield 34, 3) := by decide +kernel
theorem dX4_init_46 : decode cX4_init 46 = .ok (.return_, 1) := by decide +kernel
theorem dX4_fewest_0 : decode cX4_fewest 0 = .ok (.aload_n 0, 1) := by decide +kernel
theorem dX4_fewest_1 : decode cX4_fewest 1 = .ok (.iload_n 2, 1) := by decide +kernel
theorem dX4_fewest_2 : decode cX4_fewest 2 = .ok (.putfield 19, 3) := by decide +kernel
theorem dX4_fewest_5 : decode cX4_fewest 5 = .ok (.aload_n 0, 1) := by decide +kernel
theorem dX4_fewest_6 : decode cX4_fewest 6 = .ok (.iload_n 3, 1) := by decide +kernel
theorem dX4_fewest_7 : decode cX4_fewest 7 = .ok (.putfield 22, 3) := by decide +kernel
theorem dX4_fewest_10 : decode cX4_fewest 10 = .ok (.aload_n 0, 1) := by decide +kernel
theorem dX4_fewest_11 : decode cX4_fewest 11 = .ok (.aload_n 1, 1) := by decide +kernel
theorem dX4_fewest_12 : decode cX4_fewest 12 = .ok (.iload_n 2, 1) := by decide +kernel
theorem dX4_fewest_13 : decode cX4_fewest 13 = .ok (.invokevirtual 37, 3) := by decide +kernel
theorem dX4_fewest_16 : decode cX4_fewest 16 = .ok (.putfield 25, 3) := by decide +kernel
theorem dX4_fewest_19 : decode cX4_fewest 19 = .ok (.aload_n 0, 1) := by decide +kernel
theorem dX4_fewest_20 : decode cX4_fewest 20 = .ok (.iload 4, 2) := by decide +kernel
theorem dX4_fewest_22 : decode cX4_fewest 22 = .ok (.putfield 28, 3) := by decide +kernel
theorem dX4_fewest_25 : decode cX4_fewest 25 = .ok (.aload_n 0, 1) := by decide +kernel
theorem dX4_fewest_26 : decode cX4_fewest 26 = .ok (.iload 5, 2) := by decide +kernel
theorem dX4_fewest_28 : decode cX4_fewest 28 = .ok (.putfield 31, 3) := by decide +kernel
theorem dX4_fewest_31 : decode cX4_fewest 31 = .ok (.aload_n 0, 1) := by decide +kernel
theorem dX4_fewest_32 : decode cX4_fewest 32 = .ok (.aload_n 1, 1) := by decide +kernel
theorem dX4_fewest_33 : decode cX4_fewest 33 = .ok (.iload 4, 2) := by decide +kernel
theorem dX4_fewest_35 : decode cX4_fewest 35 = .ok (.invokevirtual 37, 3) := by decide +kernel
theorem dX4_fewest_38 : decode cX4_fewest 38 = .ok (.putfield 34, 3) := by decide +kernel
theorem dX4_fewest_41 : decode cX4_fewest 41 = .ok (.aload_n 1, 1) := by decide +kernel
theorem dX4_fewest_42 : decode cX4_fewest 42 = .ok (.getfield 43, 3) := by decide +kernel
theorem dX4_fewest_45 : decode cX4_fewest 45 = .ok (.astore 6, 2) := by decide +kernel
theorem dX4_fewest_47 : decode cX4_fewest 47 = .ok (.iconst 0, 1) := by decide +kernel
theorem dX4_fewest_48 : decode cX4_fewest 48 = .ok (.istore 7, 2) := by decide +kernel
theorem dX4_fewest_50 : decode cX4_fewest 50 = .ok (.iload 7, 2) := by decide +kernel
theorem dX4_fewest_52 : decode cX4_fewest 52 = .ok (.iconst 5, 1) := by decide +kernel
theorem dX4_fewest_53 : decode cX4_fewest 53 = .ok (.if_icmp .gt 49, 3) := by decide +kernel
theorem dX4_fewest_56 : decode cX4_fewest 56 = .ok (.aload_n 0, 1) := by decide +kernel
theorem dX4_fewest_57 : decode cX4_fewest 57 = .ok (.iload 7, 2) := by decide +kernel
theorem dX4_fewest_59 : decode cX4_fewest 59 = .ok (.putfield 15, 3) := by decide +kernel
theorem dX4_fewest_62 : decode cX4_fewest 62 = .ok (.aload_n 0, 1) := by decide +kernel
theorem dX4_fewest_63 : decode cX4_fewest 63 = .ok (.aload_n 1, 1) := by decide +kernel
theorem dX4_fewest_64 : decode cX4_fewest 64 = .ok (.iload 7, 2) := by decide +kernel
theorem dX4_fewest_66 : decode cX4_fewest 66 = .ok (.aload 6, 2) := by decide +kernel
theorem dX4_fewest_68 : decode cX4_fewest 68 = .ok (.getfield 47, 3) := by decide +kernel
theorem dX4_fewest_71 : decode cX4_fewest 71 = .ok (.aload 6, 2) := by decide +kernel
theorem dX4_fewest_73 : decode cX4_fewest 73 = .ok (.getfield 52, 3) := by decide +kernel
theorem dX4_fewest_76 : decode cX4_fewest 76 = .ok (.aload_n 1, 1) := by decide +kernel
theorem dX4_fewest_77 : decode cX4_fewest 77 = .ok (.iload_n 2, 1) := by decide +kernel
theorem dX4_fewest_78 : decode cX4_fewest 78 = .ok (.invokevirtual 55, 3) := by decide +kernel
theorem dX4_fewest_81 : decode cX4_fewest 81 = .ok (.aload_n 1, 1) := by decide +kernel
theorem dX4_fewest_82 : decode cX4_fewest 82 = .ok (.iload 4, 2) := by decide +kernel
theorem dX4_fewest_84 : decode cX4_fewest 84 = .ok (.invokevirtual 55, 3) := by decide +kernel
theorem dX4_fewest_87 : decode cX4_fewest 87 = .ok (.invokevirtual 58, 3) := by decide +kernel
theorem dX4_fewest_90 : decode cX4_fewest 90 = .ok (.ifCond .eq 6, 3) := by decide +kernel
theorem dX4_fewest_93 : decode cX4_fewest 93 = .ok (.iload 7, 2) := by decide +kernel
theorem dX4_fewest_95 : decode cX4_fewest 95 = .ok (.ireturn, 1) := by decide +kernel
theorem dX4_fewest_96 : decode cX4_fewest 96 = .ok (.iinc 7 1, 3) := by decide +kernel
theorem dX4_fewest_99 : decode cX4_fewest 99 = .ok (.goto (-49), 3) := by decide +kernel
theorem dX4_fewest_102 : decode cX4_fewest 102 = .ok (.iconst (-1), 1) := by decide +kernel
theorem dX4_fewest_103 : decode cX4_fewest 103 = .ok (.ireturn, 1) := by decide +kernel
theorem dX4_reaches_0 : decode cX4_reaches 0 = .ok (.iload_n 2, 1) := by decide +kernel
theorem dX4_reaches_1 : decode cX4_reaches 1 = .ok (.ifCond .le 8, 3) := by decide +kernel
theorem dX4_reaches_4 : decode cX4_reaches 4 = .ok (.iload_n 2, 1) := by decide +kernel
theorem dX4_reaches_5 : decode cX4_reaches 5 = .ok (.iconst 5, 1) := by decide +kernel
theorem dX4_reaches_6 : decode cX4_reaches 6 = .ok (.if_icmp .le 55, 3) := by decide +kernel
theorem dX4_reaches_9 : decode cX4_reaches 9 = .ok (.iload_n 2, 1) := by decide +kernel
theorem dX4_reaches_10 : decode cX4_reaches 10 = .ok (.ifCond .ne 49, 3) := by decide +kernel
theorem dX4_reaches_13 : decode cX4_reaches 13 = .ok (.aload_n 0, 1) := by decide +kernel
theorem dX4_reaches_14 : decode cX4_reaches 14 = .ok (.aload_n 1, 1) := by decide +kernel
theorem dX4_reaches_15 : decode cX4_reaches 15 = .ok (.aload_n 0, 1) := by decide +kernel
theorem dX4_reaches_16 : decode cX4_reaches 16 = .ok (.getfield 19, 3) := by decide +kernel
theorem dX4_reaches_19 : decode cX4_reaches 19 = .ok (.aload_n 0, 1) := by decide +kernel
theorem dX4_reaches_20 : decode cX4_reaches 20 = .ok (.getfield 22, 3) := by decide +kernel
theorem dX4_reaches_23 : decode cX4_reaches 23 = .ok (.iload_n 3, 1) := by decide +kernel
theorem dX4_reaches_24 : decode cX4_reaches 24 = .ok (.iload 4, 2) := by decide +kernel
theorem dX4_reaches_26 : decode cX4_reaches 26 = .ok (.iload 5, 2) := by decide +kernel
theorem dX4_reaches_28 : decode cX4_reaches 28 = .ok (.invokevirtual 62, 3) := by decide +kernel
theorem dX4_reaches_31 : decode cX4_reaches 31 = .ok (.ifCond .eq 28, 3) := by decide +kernel
theorem dX4_reaches_34 : decode cX4_reaches 34 = .ok (.aload_n 0, 1) := by decide +kernel
theorem dX4_reaches_35 : decode cX4_reaches 35 = .ok (.aload_n 1, 1) := by decide +kernel
theorem dX4_reaches_36 : decode cX4_reaches 36 = .ok (.aload_n 0, 1) := by decide +kernel
theorem dX4_reaches_37 : decode cX4_reaches 37 = .ok (.getfield 28, 3) := by decide +kernel
theorem dX4_reaches_40 : decode cX4_reaches 40 = .ok (.aload_n 0, 1) := by decide +kernel
theorem dX4_reaches_41 : decode cX4_reaches 41 = .ok (.getfield 31, 3) := by decide +kernel
theorem dX4_reaches_44 : decode cX4_reaches 44 = .ok (.iload_n 3, 1) := by decide +kernel
theorem dX4_reaches_45 : decode cX4_reaches 45 = .ok (.iload 4, 2) := by decide +kernel
theorem dX4_reaches_47 : decode cX4_reaches 47 = .ok (.iload 6, 2) := by decide +kernel
theorem dX4_reaches_49 : decode cX4_reaches 49 = .ok (.invokevirtual 62, 3) := by decide +kernel
theorem dX4_reaches_52 : decode cX4_reaches 52 = .ok (.ifCond .eq 7, 3) := by decide +kernel
theorem dX4_reaches_55 : decode cX4_reaches 55 = .ok (.iconst 1, 1) := by decide +kernel
theorem dX4_reaches_56 : decode cX4_reaches 56 = .ok (.goto 4, 3) := by decide +kernel
theorem dX4_reaches_59 : decode cX4_reaches 59 = .ok (.iconst 0, 1) := by decide +kernel
theorem dX4_reaches_60 : decode cX4_reaches 60 = .ok (.ireturn, 1) := by decide +kernel
theorem dX4_reaches_61 : decode cX4_reaches 61 = .ok (.iconst 0, 1) := by decide +kernel
theorem dX4_reaches_62 : decode cX4_reaches 62 = .ok (.istore 7, 2) := by decide +kernel
theorem dX4_reaches_64 : decode cX4_reaches 64 = .ok (.iload 7, 2) := by decide +kernel
theorem dX4_reaches_66 : decode cX4_reaches 66 = .ok (.iconst 5, 1) := by decide +kernel
theorem dX4_reaches_67 : decode cX4_reaches 67 = .ok (.if_icmp .ge 88, 3) := by decide +kernel
theorem dX4_reaches_70 : decode cX4_reaches 70 = .ok (.iload_n 3, 1) := by decide +kernel
theorem dX4_reaches_71 : decode cX4_reaches 71 = .ok (.iload 7, 2) := by decide +kernel
theorem dX4_reaches_73 : decode cX4_reaches 73 = .ok (.invokestatic 65, 3) := by decide +kernel
theorem dX4_reaches_76 : decode cX4_reaches 76 = .ok (.istore 8, 2) := by decide +kernel
theorem dX4_reaches_78 : decode cX4_reaches 78 = .ok (.iload 4, 2) := by decide +kernel
theorem dX4_reaches_80 : decode cX4_reaches 80 = .ok (.iload 7, 2) := by decide +kernel
theorem dX4_reaches_82 : decode cX4_reaches 82 = .ok (.invokestatic 69, 3) := by decide +kernel
theorem dX4_reaches_85 : decode cX4_reaches 85 = .ok (.istore 9, 2) := by decide +kernel
theorem dX4_reaches_87 : decode cX4_reaches 87 = .ok (.iload 5, 2) := by decide +kernel
theorem dX4_reaches_89 : decode cX4_reaches 89 = .ok (.aload_n 0, 1) := by decide +kernel
theorem dX4_reaches_90 : decode cX4_reaches 90 = .ok (.getfield 25, 3) := by decide +kernel
theorem dX4_reaches_93 : decode cX4_reaches 93 = .ok (.iload 9, 2) := by decide +kernel
theorem dX4_reaches_95 : decode cX4_reaches 95 = .ok (.invokestatic 72, 3) := by decide +kernel
theorem dX4_reaches_98 : decode cX4_reaches 98 = .ok (.istore 10, 2) := by decide +kernel
theorem dX4_reaches_100 : decode cX4_reaches 100 = .ok (.iload 6, 2) := by decide +kernel
theorem dX4_reaches_102 : decode cX4_reaches 102 = .ok (.aload_n 0, 1) := by decide +kernel
theorem dX4_reaches_103 : decode cX4_reaches 103 = .ok (.getfield 34, 3) := by decide +kernel
theorem dX4_reaches_106 : decode cX4_reaches 106 = .ok (.iload 9, 2) := by decide +kernel
theorem dX4_reaches_108 : decode cX4_reaches 108 = .ok (.invokestatic 72, 3) := by decide +kernel
theorem dX4_reaches_111 : decode cX4_reaches 111 = .ok (.istore 11, 2) := by decide +kernel
theorem dX4_reaches_113 : decode cX4_reaches 113 = .ok (.aload_n 0, 1) := by decide +kernel
theorem dX4_reaches_114 : decode cX4_reaches 114 = .ok (.getfield 9, 3) := by decide +kernel
theorem dX4_reaches_117 : decode cX4_reaches 117 = .ok (.aload_n 0, 1) := by decide +kernel
theorem dX4_reaches_118 : decode cX4_reaches 118 = .ok (.getfield 15, 3) := by decide +kernel
theorem dX4_reaches_121 : decode cX4_reaches 121 = .ok (.iload_n 2, 1) := by decide +kernel
theorem dX4_reaches_122 : decode cX4_reaches 122 = .ok (.isub, 1) := by decide +kernel
theorem dX4_reaches_123 : decode cX4_reaches 123 = .ok (.iload 7, 2) := by decide +kernel
theorem dX4_reaches_125 : decode cX4_reaches 125 = .ok (.invokestatic 76, 3) := by decide +kernel
theorem dX4_reaches_128 : decode cX4_reaches 128 = .ok (.aload_n 0, 1) := by decide +kernel
theorem dX4_reaches_129 : decode cX4_reaches 129 = .ok (.aload_n 1, 1) := by decide +kernel
theorem dX4_reaches_130 : decode cX4_reaches 130 = .ok (.iload_n 2, 1) := by decide +kernel
theorem dX4_reaches_131 : decode cX4_reaches 131 = .ok (.iconst 1, 1) := by decide +kernel
theorem dX4_reaches_132 : decode cX4_reaches 132 = .ok (.isub, 1) := by decide +kernel
theorem dX4_reaches_133 : decode cX4_reaches 133 = .ok (.iload 8, 2) := by decide +kernel
theorem dX4_reaches_135 : decode cX4_reaches 135 = .ok (.iload 9, 2) := by decide +kernel
theorem dX4_reaches_137 : decode cX4_reaches 137 = .ok (.iload 10, 2) := by decide +kernel
theorem dX4_reaches_139 : decode cX4_reaches 139 = .ok (.iload 11, 2) := by decide +kernel
theorem dX4_reaches_141 : decode cX4_reaches 141 = .ok (.invokevirtual 58, 3) := by decide +kernel
theorem dX4_reaches_144 : decode cX4_reaches 144 = .ok (.ifCond .eq 5, 3) := by decide +kernel
theorem dX4_reaches_147 : decode cX4_reaches 147 = .ok (.iconst 1, 1) := by decide +kernel
theorem dX4_reaches_148 : decode cX4_reaches 148 = .ok (.ireturn, 1) := by decide +kernel
theorem dX4_reaches_149 : decode cX4_reaches 149 = .ok (.iinc 7 1, 3) := by decide +kernel
theorem dX4_reaches_152 : decode cX4_reaches 152 = .ok (.goto (-88), 3) := by decide +kernel
theorem dX4_reaches_155 : decode cX4_reaches 155 = .ok (.iconst 0, 1) := by decide +kernel
theorem dX4_reaches_156 : decode cX4_reaches 156 = .ok (.ireturn, 1) := by decide +kernel
theorem dX4_isHigh_0 : decode cX4_isHigh 0 = .ok (.iload 4, 2) := by decide +kernel
theorem dX4_isHigh_2 : decode cX4_isHigh 2 = .ok (.iload 5, 2) := by decide +kernel
theorem dX4_isHigh_4 : decode cX4_isHigh 4 = .ok (.aload_n 1, 1) := by decide +kernel
theorem dX4_isHigh_5 : decode cX4_isHigh 5 = .ok (.iload_n 2, 1) := by decide +kernel
theorem dX4_isHigh_6 : decode cX4_isHigh 6 = .ok (.invokevirtual 80, 3) := by decide +kernel
theorem dX4_isHigh_9 : decode cX4_isHigh 9 = .ok (.invokestatic 83, 3) := by decide +kernel
theorem dX4_isHigh_12 : decode cX4_isHigh 12 = .ok (.istore 7, 2) := by decide +kernel
theorem dX4_isHigh_14 : decode cX4_isHigh 14 = .ok (.aload_n 1, 1) := by decide +kernel
theorem dX4_isHigh_15 : decode cX4_isHigh 15 = .ok (.iload_n 2, 1) := by decide +kernel
theorem dX4_isHigh_16 : decode cX4_isHigh 16 = .ok (.iload 7, 2) := by decide +kernel
theorem dX4_isHigh_18 : decode cX4_isHigh 18 = .ok (.iload 6, 2) := by decide +kernel
theorem dX4_isHigh_20 : decode cX4_isHigh 20 = .ok (.aload_n 1, 1) := by decide +kernel
theorem dX4_isHigh_21 : decode cX4_isHigh 21 = .ok (.getfield 43, 3) := by decide +kernel
theorem dX4_isHigh_24 : decode cX4_isHigh 24 = .ok (.getfield 86, 3) := by decide +kernel
theorem dX4_isHigh_27 : decode cX4_isHigh 27 = .ok (.aload_n 0, 1) := by decide +kernel
theorem dX4_isHigh_28 : decode cX4_isHigh 28 = .ok (.getfield 15, 3) := by decide +kernel
theorem dX4_isHigh_31 : decode cX4_isHigh 31 = .ok (.iadd, 1) := by decide +kernel
theorem dX4_isHigh_32 : decode cX4_isHigh 32 = .ok (.invokevirtual 89, 3) := by decide +kernel
theorem dX4_isHigh_35 : decode cX4_isHigh 35 = .ok (.iload_n 3, 1) := by decide +kernel
theorem dX4_isHigh_36 : decode cX4_isHigh 36 = .ok (.if_icmp .ne 7, 3) := by decide +kernel
theorem dX4_isHigh_39 : decode cX4_isHigh 39 = .ok (.iconst 1, 1) := by decide +kernel
theorem dX4_isHigh_40 : decode cX4_isHigh 40 = .ok (.goto 4, 3) := by decide +kernel
theorem dX4_isHigh_43 : decode cX4_isHigh 43 = .ok (.iconst 0, 1) := by decide +kernel
theorem dX4_isHigh_44 : decode cX4_isHigh 44 = .ok (.ireturn, 1) := by decide +kernel
theorem dX5_init_0 : decode cX5_init 0 = .ok (.aload_n 0, 1) := by decide +kernel
theorem dX5_init_1 : decode cX5_init 1 = .ok (.invokespecial 1, 3) := by decide +kernel
theorem dX5_init_4 : decode cX5_init 4 = .ok (.aload_n 0, 1) := by decide +kernel
theorem dX5_init_5 : decode cX5_init 5 = .ok (.iconst 0, 1) := by decide +kernel
theorem dX5_init_6 : decode cX5_init 6 = .ok (.putfield 7, 3) := by decide +kernel
theorem dX5_init_9 : decode cX5_init 9 = .ok (.aload_n 0, 1) := by decide +kernel
theorem dX5_init_10 : decode cX5_init 10 = .ok (.iload_n 1, 1) := by decide +kernel
theorem dX5_init_11 : decode cX5_init 11 = .ok (.iconst 0, 1) := by decide +kernel
theorem dX5_init_12 : decode cX5_init 12 = .ok (.invokestatic 13, 3) := by decide +kernel
theorem dX5_init_15 : decode cX5_init 15 = .ok (.putfield 19, 3) := by decide +kernel
theorem dX5_init_18 : decode cX5_init 18 = .ok (.aload_n 0, 1) := by decide +kernel
theorem dX5_init_19 : decode cX5_init 19 = .ok (.iload_n 2, 1) := by decide +kernel
theorem dX5_init_20 : decode cX5_init 20 = .ok (.iconst 0, 1) := by decide +kernel
theorem dX5_init_21 : decode cX5_init 21 = .ok (.invokestatic 13, 3) := by decide +kernel
theorem dX5_init_24 : decode cX5_init 24 = .ok (.putfield 22, 3) := by decide +kernel
theorem dX5_init_27 : decode cX5_init 27 = .ok (.aload_n 0, 1) := by decide +kernel
theorem dX5_init_28 : decode cX5_init 28 = .ok (.aload_n 0, 1) := by decide +kernel
theorem dX5_init_29 : decode cX5_init 29 = .ok (.getfield 19, 3) := by decide +kernel
theorem dX5_init_32 : decode cX5_init 32 = .ok (.aload_n 0, 1) := by decide +kernel
theorem dX5_init_33 : decode cX5_init 33 = .ok (.getfield 22, 3) := by decide +kernel
theorem dX5_init_36 : decode cX5_init 36 = .ok (.imul, 1) := by decide +kernel
theorem dX5_init_37 : decode cX5_init 37 = .ok (.newarray .int, 2) := by decide +kernel
theorem dX5_init_39 : decode cX5_init 39 = .ok (.putfield 25, 3) := by decide +kernel
theorem dX5_init_42 : decode cX5_init 42 = .ok (.return_, 1) := by decide +kernel
theorem dX5_isFull_0 : decode cX5_isFull 0 = .ok (.aload_n 0, 1) := by decide +kernel
theorem dX5_isFull_1 : decode cX5_isFull 1 = .ok (.getfield 7, 3) := by decide +kernel
theorem dX5_isFull_4 : decode cX5_isFull 4 = .ok (.aload_n 0, 1) := by decide +kernel
theorem dX5_isFull_5 : decode cX5_isFull 5 = .ok (.getfield 22, 3) := by decide +kernel
theorem dX5_isFull_8 : decode cX5_isFull 8 = .ok (.if_icmp .lt 7, 3) := by decide +kernel
theorem dX5_isFull_11 : decode cX5_isFull 11 = .ok (.iconst 1, 1) := by decide +kernel
theorem dX5_isFull_12 : decode cX5_isFull 12 = .ok (.goto 4, 3) := by decide +kernel
theorem dX5_isFull_15 : decode cX5_isFull 15 = .ok (.iconst 0, 1) := by decide +kernel
theorem dX5_isFull_16 : decode cX5_isFull 16 = .ok (.ireturn, 1) := by decide +kernel
theorem dX5_append_0 : decode cX5_append 0 = .ok (.aload_n 0, 1) := by decide +kernel
theorem dX5_append_1 : decode cX5_append 1 = .ok (.getfield 7, 3) := by decide +kernel
theorem dX5_append_4 : decode cX5_append 4 = .ok (.aload_n 0, 1) := by decide +kernel
theorem dX5_append_5 : decode cX5_append 5 = .ok (.getfield 19, 3) := by decide +kernel
theorem dX5_append_8 : decode cX5_append 8 = .ok (.imul, 1) := by decide +kernel
theorem dX5_append_9 : decode cX5_append 9 = .ok (.istore 6, 2) := by decide +kernel
theorem dX5_append_11 : decode cX5_append 11 = .ok (.aload_n 0, 1) := by decide +kernel
theorem dX5_append_12 : decode cX5_append 12 = .ok (.getfield 25, 3) := by decide +kernel
theorem dX5_append_15 : decode cX5_append 15 = .ok (.iload 6, 2) := by decide +kernel
theorem dX5_append_17 : decode cX5_append 17 = .ok (.iload_n 1, 1) := by decide +kernel
theorem dX5_append_18 : decode cX5_append 18 = .ok (.invokestatic 29, 3) := by decide +kernel
theorem dX5_append_21 : decode cX5_append 21 = .ok (.aload_n 0, 1) := by decide +kernel
theorem dX5_append_22 : decode cX5_append 22 = .ok (.getfield 25, 3) := by decide +kernel
theorem dX5_append_25 : decode cX5_append 25 = .ok (.iload 6, 2) := by decide +kernel
theorem dX5_append_27 : decode cX5_append 27 = .ok (.iconst 1, 1) := by decide +kernel
theorem dX5_append_28 : decode cX5_append 28 = .ok (.iadd, 1) := by decide +kernel
theorem dX5_append_29 : decode cX5_append 29 = .ok (.iload_n 2, 1) := by decide +kernel
theorem dX5_append_30 : decode cX5_append 30 = .ok (.invokestatic 29, 3) := by decide +kernel
theorem dX5_append_33 : decode cX5_append 33 = .ok (.aload_n 0, 1) := by decide +kernel
theorem dX5_append_34 : decode cX5_append 34 = .ok (.getfield 25, 3) := by decide +kernel
theorem dX5_append_37 : decode cX5_append 37 = .ok (.iload 6, 2) := by decide +kernel
theorem dX5_append_39 : decode cX5_append 39 = .ok (.iconst 2, 1) := by decide +kernel
theorem dX5_append_40 : decode cX5_append 40 = .ok (.iadd, 1) := by decide +kernel
theorem dX5_append_41 : decode cX5_append 41 = .ok (.iload_n 3, 1) := by decide +kernel
theorem dX5_append_42 : decode cX5_append 42 = .ok (.invokestatic 29, 3) := by decide +kernel
theorem dX5_append_45 : decode cX5_append 45 = .ok (.aload_n 0, 1) := by decide +kernel
theorem dX5_append_46 : decode cX5_append 46 = .ok (.getfield 25, 3) := by decide +kernel
theorem dX5_append_49 : decode cX5_append 49 = .ok (.iload 6, 2) := by decide +kernel
theorem dX5_append_51 : decode cX5_append 51 = .ok (.iconst 3, 1) := by decide +kernel
theorem dX5_append_52 : decode cX5_append 52 = .ok (.iadd, 1) := by decide +kernel
theorem dX5_append_53 : decode cX5_append 53 = .ok (.iload 4, 2) := by decide +kernel
theorem dX5_append_55 : decode cX5_append 55 = .ok (.invokestatic 29, 3) := by decide +kernel
theorem dX5_append_58 : decode cX5_append 58 = .ok (.aload_n 0, 1) := by decide +kernel
theorem dX5_append_59 : decode cX5_append 59 = .ok (.getfield 19, 3) := by decide +kernel
theorem dX5_append_62 : decode cX5_append 62 = .ok (.iconst 4, 1) := by decide +kernel
theorem dX5_append_63 : decode cX5_append 63 = .ok (.if_icmp .le 16, 3) := by decide +kernel
theorem dX5_append_66 : decode cX5_append 66 = .ok (.aload_n 0, 1) := by decide +kernel
theorem dX5_append_67 : decode cX5_append 67 = .ok (.getfield 25, 3) := by decide +kernel
theorem dX5_append_70 : decode cX5_append 70 = .ok (.iload 6, 2) := by decide +kernel
theorem dX5_append_72 : decode cX5_append 72 = .ok (.iconst 4, 1) := by decide +kernel
theorem dX5_append_73 : decode cX5_append 73 = .ok (.iadd, 1) := by decide +kernel
theorem dX5_append_74 : decode cX5_append 74 = .ok (.iload 5, 2) := by decide +kernel
theorem dX5_append_76 : decode cX5_append 76 = .ok (.invokestatic 29, 3) := by decide +kernel
theorem dX5_append_79 : decode cX5_append 79 = .ok (.aload_n 0, 1) := by decide +kernel
theorem dX5_append_80 : decode cX5_append 80 = .ok (.dup, 1) := by decide +kernel
theorem dX5_append_81 : decode cX5_append 81 = .ok (.getfield 7, 3) := by decide +kernel
theorem dX5_append_84 : decode cX5_append 84 = .ok (.iconst 1, 1) := by decide +kernel
theorem dX5_append_85 : decode cX5_append 85 = .ok (.iadd, 1) := by decide +kernel
theorem dX5_append_86 : decode cX5_append 86 = .ok (.putfield 7, 3) := by decide +kernel
theorem dX5_append_89 : decode cX5_append 89 = .ok (.aload_n 0, 1) := by decide +kernel
theorem dX5_append_90 : decode cX5_append 90 = .ok (.getfield 7, 3) := by decide +kernel
theorem dX5_append_93 : decode cX5_append 93 = .ok (.ireturn, 1) := by decide +kernel
theorem dX5_value_0 : decode cX5_value 0 = .ok (.aload_n 0, 1) := by decide +kernel
theorem dX5_value_1 : decode cX5_value 1 = .ok (.getfield 25, 3) := by decide +kernel
theorem dX5_value_4 : decode cX5_value 4 = .ok (.iload_n 1, 1) := by decide +kernel
theorem dX5_value_5 : decode cX5_value 5 = .ok (.aload_n 0, 1) := by decide +kernel
theorem dX5_value_6 : decode cX5_value 6 = .ok (.getfield 19, 3) := by decide +kernel
theorem dX5_value_9 : decode cX5_value 9 = .ok (.imul, 1) := by decide +kernel
theorem dX5_value_10 : decode cX5_value 10 = .ok (.iload_n 2, 1) := by decide +kernel
theorem dX5_value_11 : decode cX5_value 11 = .ok (.iadd, 1) := by decide +kernel
theorem dX5_value_12 : decode cX5_value 12 = .ok (.invokestatic 35, 3) := by decide +kernel
theorem dX5_value_15 : decode cX5_value 15 = .ok (.ireturn, 1) := by decide +kernel
theorem dX5_drain_0 : decode cX5_drain 0 = .ok (.aload_n 0, 1) := by decide +kernel
theorem dX5_drain_1 : decode cX5_drain 1 = .ok (.getfield 7, 3) := by decide +kernel
theorem dX5_drain_4 : decode cX5_drain 4 = .ok (.istore_n 1, 1) := by decide +kernel
theorem dX5_drain_5 : decode cX5_drain 5 = .ok (.aload_n 0, 1) := by decide +kernel
theorem dX5_drain_6 : decode cX5_drain 6 = .ok (.iconst 0, 1) := by decide +kernel
theorem dX5_drain_7 : decode cX5_drain 7 = .ok (.putfield 7, 3) := by decide +kernel
theorem dX5_drain_10 : decode cX5_drain 10 = .ok (.iload_n 1, 1) := by decide +kernel
theorem dX5_drain_11 : decode cX5_drain 11 = .ok (.ireturn, 1) := by decide +kernel
theorem dX5_become_0 : decode cX5_become 0 = .ok (.aload_n 1, 1) := by decide +kernel
theorem dX5_become_1 : decode cX5_become 1 = .ok (.getfield 25, 3) := by decide +kernel
theorem dX5_become_4 : decode cX5_become 4 = .ok (.aload_n 0, 1) := by decide +kernel
theorem dX5_become_5 : decode cX5_become 5 = .ok (.getfield 25, 3) := by decide +kernel
theorem dX5_become_8 : decode cX5_become 8 = .ok (.invokestatic 39, 3) := by decide +kernel
theorem dX5_become_11 : decode cX5_become 11 = .ok (.aload_n 0, 1) := by decide +kernel
theorem dX5_become_12 : decode cX5_become 12 = .ok (.aload_n 1, 1) := by decide +kernel
theorem dX5_become_13 : decode cX5_become 13 = .ok (.getfield 7, 3) := by decide +kernel
theorem dX5_become_16 : decode cX5_become 16 = .ok (.putfield 7, 3) := by decide +kernel
theorem dX5_become_19 : decode cX5_become 19 = .ok (.return_, 1) := by decide +kernel
theorem dX5_digestOn_0 : decode cX5_digestOn 0 = .ok (.lload_n 1, 1) := by decide +kernel
theorem dX5_digestOn_1 : decode cX5_digestOn 1 = .ok (.lstore_n 3, 1) := by decide +kernel
theorem dX5_digestOn_2 : decode cX5_digestOn 2 = .ok (.iconst 0, 1) := by decide +kernel
theorem dX5_digestOn_3 : decode cX5_digestOn 3 = .ok (.istore 5, 2) := by decide +kernel
theorem dX5_digestOn_5 : decode cX5_digestOn 5 = .ok (.iload 5, 2) := by decide +kernel
theorem dX5_digestOn_7 : decode cX5_digestOn 7 = .ok (.aload_n 0, 1) := by decide +kernel
theorem dX5_digestOn_8 : decode cX5_digestOn 8 = .ok (.getfield 7, 3) := by decide +kernel
theorem dX5_digestOn_11 : decode cX5_digestOn 11 = .ok (.aload_n 0, 1) := by decide +kernel
theorem dX5_digestOn_12 : decode cX5_digestOn 12 = .ok (.getfield 19, 3) := by decide +kernel
theorem dX5_digestOn_15 : decode cX5_digestOn 15 = .ok (.imul, 1) := by decide +kernel
theorem dX5_digestOn_16 : decode cX5_digestOn 16 = .ok (.if_icmp .ge 26, 3) := by decide +kernel
theorem dX5_digestOn_19 : decode cX5_digestOn 19 = .ok (.ldc2_w 43, 3) := by decide +kernel
theorem dX5_digestOn_22 : decode cX5_digestOn 22 = .ok (.lload_n 3, 1) := by decide +kernel
theorem dX5_digestOn_23 : decode cX5_digestOn 23 = .ok (.lmul, 1) := by decide +kernel
theorem dX5_digestOn_24 : decode cX5_digestOn 24 = .ok (.aload_n 0, 1) := by decide +kernel
theorem dX5_digestOn_25 : decode cX5_digestOn 25 = .ok (.getfield 25, 3) := by decide +kernel
theorem dX5_digestOn_28 : decode cX5_digestOn 28 = .ok (.iload 5, 2) := by decide +kernel
theorem dX5_digestOn_30 : decode cX5_digestOn 30 = .ok (.invokestatic 35, 3) := by decide +kernel
theorem dX5_digestOn_33 : decode cX5_digestOn 33 = .ok (.i2l, 1) := by decide +kernel
theorem dX5_digestOn_34 : decode cX5_digestOn 34 = .ok (.ladd, 1) := by decide +kernel
theorem dX5_digestOn_35 : decode cX5_digestOn 35 = .ok (.lstore_n 3, 1) := by decide +kernel
theorem dX5_digestOn_36 : decode cX5_digestOn 36 = .ok (.iinc 5 1, 3) := by decide +kernel
theorem dX5_digestOn_39 : decode cX5_digestOn 39 = .ok (.goto (-34), 3) := by decide +kernel
theorem dX5_digestOn_42 : decode cX5_digestOn 42 = .ok (.lload_n 3, 1) := by decide +kernel
theorem dX5_digestOn_43 : decode cX5_digestOn 43 = .ok (.lreturn, 1) := by decide +kernel
end
section
theorem dX6_init_0 : decode cX6_init 0 = .ok (.aload_n 0, 1) := by decide +kernel
theorem dX6_init_1 : decode cX6_init 1 = .ok (.invokespecial 1, 3) := by decide +kernel
theorem dX6_init_4 : decode cX6_init 4 = .ok (.aload_n 0, 1) := by decide +kernel
theorem dX6_init_5 : decode cX6_init 5 = .ok (.new 7, 3) := by decide +kernel
theorem dX6_init_8 : decode cX6_init 8 = .ok (.dup, 1) := by decide +kernel
theorem dX6_init_9 : decode cX6_init 9 = .ok (.invokespecial 9, 3) := by decide +kernel
theorem dX6_init_12 : decode cX6_init 12 = .ok (.putfield 10, 3) := by decide +kernel
theorem dX6_init_15 : decode cX6_init 15 = .ok (.aload_n 0, 1) := by decide +kernel
theorem dX6_init_16 : decode cX6_init 16 = .ok (.new 7, 3) := by decide +kernel
theorem dX6_init_19 : decode cX6_init 19 = .ok (.dup, 1) := by decide +kernel
theorem dX6_init_20 : decode cX6_init 20 = .ok (.invokespecial 9, 3) := by decide +kernel
theorem dX6_init_23 : decode cX6_init 23 = .ok (.putfield 16, 3) := by decide +kernel
theorem dX6_init_26 : decode cX6_init 26 = .ok (.aload_n 0, 1) := by decide +kernel
theorem dX6_init_27 : decode cX6_init 27 = .ok (.new 7, 3) := by decide +kernel
theorem dX6_init_30 : decode cX6_init 30 = .ok (.dup, 1) := by decide +kernel
theorem dX6_init_31 : decode cX6_init 31 = .ok (.invokespecial 9, 3) := by decide +kernel
theorem dX6_init_34 : decode cX6_init 34 = .ok (.putfield 19, 3) := by decide +kernel
theorem dX6_init_37 : decode cX6_init 37 = .ok (.aload_n 0, 1) := by decide +kernel
theorem dX6_init_38 : decode cX6_init 38 = .ok (.new 7, 3) := by decide +kernel
theorem dX6_init_41 : decode cX6_init 41 = .ok (.dup, 1) := by decide +kernel
theorem dX6_init_42 : decode cX6_init 42 = .ok (.invokespecial 9, 3) := by decide +kernel
theorem dX6_init_45 : decode cX6_init 45 = .ok (.putfield 22, 3) := by decide +kernel
theorem dX6_init_48 : decode cX6_init 48 = .ok (.aload_n 0, 1) := by decide +kernel
theorem dX6_init_49 : decode cX6_init 49 = .ok (.iconst 0, 1) := by decide +kernel
theorem dX6_init_50 : decode cX6_init 50 = .ok (.putfield 25, 3) := by decide +kernel
theorem dX6_init_53 : decode cX6_init 53 = .ok (.aload_n 0, 1) := by decide +kernel
theorem dX6_init_54 : decode cX6_init 54 = .ok (.iconst 0, 1) := by decide +kernel
theorem dX6_init_55 : decode cX6_init 55 = .ok (.putfield 29, 3) := by decide +kernel
theorem dX6_init_58 : decode cX6_init 58 = .ok (.aload_n 0, 1) := by decide +kernel
theorem dX6_init_59 : decode cX6_init 59 = .ok (.new 32, 3) := by decide +kernel
theorem dX6_init_62 : decode cX6_init 62 = .ok (.dup, 1) := by decide +kernel
theorem dX6_init_63 : decode cX6_init 63 = .ok (.invokespecial 34, 3) := by decide +kernel
theorem dX6_init_66 : decode cX6_init 66 = .ok (.putfield 35, 3) := by decide +kernel
theorem dX6_init_69 : decode cX6_init 69 = .ok (.aload_n 0, 1) := by decide +kernel
theorem dX6_init_70 : decode cX6_init 70 = .ok (.new 39, 3) := by decide +kernel
theorem dX6_init_73 : decode cX6_init 73 = .ok (.dup, 1) := by decide +kernel
theorem dX6_init_74 : decode cX6_init 74 = .ok (.invokespecial 41, 3) := by decide +kernel
theorem dX6_init_77 : decode cX6_init 77 = .ok (.putfield 42, 3) := by decide +kernel
theorem dX6_init_80 : decode cX6_init 80 = .ok (.aload_n 0, 1) := by decide +kernel
theorem dX6_init_81 : decode cX6_init 81 = .ok (.new 46, 3) := by decide +kernel
theorem dX6_init_84 : decode cX6_init 84 = .ok (.dup, 1) := by decide +kernel
theorem dX6_init_85 : decode cX6_init 85 = .ok (.invokespecial 48, 3) := by decide +kernel
theorem dX6_init_88 : decode cX6_init 88 = .ok (.putfield 49, 3) := by decide +kernel
theorem dX6_init_91 : decode cX6_init 91 = .ok (.aload_n 0, 1) := by decide +kernel
theorem dX6_init_92 : decode cX6_init 92 = .ok (.new 53, 3) := by decide +kernel
theorem dX6_init_95 : decode cX6_init 95 = .ok (.dup, 1) := by decide +kernel
theorem dX6_init_96 : decode cX6_init 96 = .ok (.invokespecial 55, 3) := by decide +kernel
theorem dX6_init_99 : decode cX6_init 99 = .ok (.putfield 56, 3) := by decide +kernel
theorem dX6_init_102 : decode cX6_init 102 = .ok (.aload_n 0, 1) := by decide +kernel
theorem dX6_init_103 : decode cX6_init 103 = .ok (.bipush 9, 2) := by decide +kernel
theorem dX6_init_105 : decode cX6_init 105 = .ok (.newarray .int, 2) := by decide +kernel
theorem dX6_init_107 : decode cX6_init 107 = .ok (.putfield 60, 3) := by decide +kernel
theorem dX6_init_110 : decode cX6_init 110 = .ok (.aload_n 0, 1) := by decide +kernel
theorem dX6_init_111 : decode cX6_init 111 = .ok (.lconst 0, 1) := by decide +kernel
theorem dX6_init_112 : decode cX6_init 112 = .ok (.putfield 64, 3) := by decide +kernel
theorem dX6_init_115 : decode cX6_init 115 = .ok (.aload_n 0, 1) := by decide +kernel
theorem dX6_init_116 : decode cX6_init 116 = .ok (.lconst 1, 1) := by decide +kernel
theorem dX6_init_117 : decode cX6_init 117 = .ok (.putfield 68, 3) := by decide +kernel
theorem dX6_init_120 : decode cX6_init 120 = .ok (.aload_n 0, 1) := by decide +kernel
theorem dX6_init_121 : decode cX6_init 121 = .ok (.iconst 0, 1) := by decide +kernel
theorem dX6_init_122 : decode cX6_init 122 = .ok (.putfield 71, 3) := by decide +kernel
theorem dX6_init_125 : decode cX6_init 125 = .ok (.aload_n 0, 1) := by decide +kernel
theorem dX6_init_126 : decode cX6_init 126 = .ok (.iconst 0, 1) := by decide +kernel
theorem dX6_init_127 : decode cX6_init 127 = .ok (.putfield 75, 3) := by decide +kernel
theorem dX6_init_130 : decode cX6_init 130 = .ok (.aload_n 0, 1) := by decide +kernel
theorem dX6_init_131 : decode cX6_init 131 = .ok (.iconst 0, 1) := by decide +kernel
theorem dX6_init_132 : decode cX6_init 132 = .ok (.putfield 78, 3) := by decide +kernel
theorem dX6_init_135 : decode cX6_init 135 = .ok (.return_, 1) := by decide +kernel
theorem dX6_puppet_0 : decode cX6_puppet 0 = .ok (.iload_n 1, 1) := by decide +kernel
theorem dX6_puppet_1 : decode cX6_puppet 1 = .ok (.iconst 0, 1) := by decide +kernel
theorem dX6_puppet_2 : decode cX6_puppet 2 = .ok (.bipush 40, 2) := by decide +kernel
theorem dX6_puppet_4 : decode cX6_puppet 4 = .ok (.invokestatic 81, 3) := by decide +kernel
theorem dX6_puppet_7 : decode cX6_puppet 7 = .ok (.ifCond .eq 11, 3) := by decide +kernel
theorem dX6_puppet_10 : decode cX6_puppet 10 = .ok (.aload_n 0, 1) := by decide +kernel
theorem dX6_puppet_11 : decode cX6_puppet 11 = .ok (.sipush (-1002), 3) := by decide +kernel
theorem dX6_puppet_14 : decode cX6_puppet 14 = .ok (.invokevirtual 85, 3) := by decide +kernel
theorem dX6_puppet_17 : decode cX6_puppet 17 = .ok (.ireturn, 1) := by decide +kernel
theorem dX6_puppet_18 : decode cX6_puppet 18 = .ok (.aload_n 0, 1) := by decide +kernel
theorem dX6_puppet_19 : decode cX6_puppet 19 = .ok (.getfield 10, 3) := by decide +kernel
theorem dX6_puppet_22 : decode cX6_puppet 22 = .ok (.getfield 89, 3) := by decide +kernel
theorem dX6_puppet_25 : decode cX6_puppet 25 = .ok (.istore_n 2, 1) := by decide +kernel
theorem dX6_puppet_26 : decode cX6_puppet 26 = .ok (.aload_n 0, 1) := by decide +kernel
theorem dX6_puppet_27 : decode cX6_puppet 27 = .ok (.getfield 10, 3) := by decide +kernel
theorem dX6_puppet_30 : decode cX6_puppet 30 = .ok (.iload_n 1, 1) := by decide +kernel
theorem dX6_puppet_31 : decode cX6_puppet 31 = .ok (.invokevirtual 92, 3) := by decide +kernel
theorem dX6_puppet_34 : decode cX6_puppet 34 = .ok (.iload_n 2, 1) := by decide +kernel
theorem dX6_puppet_35 : decode cX6_puppet 35 = .ok (.ireturn, 1) := by decide +kernel
theorem dX6_limb_0 : decode cX6_limb 0 = .ok (.iload_n 1, 1) := by decide +kernel
theorem dX6_limb_1 : decode cX6_limb 1 = .ok (.iconst 0, 1) := by decide +kernel
theorem dX6_limb_2 : decode cX6_limb 2 = .ok (.iconst 5, 1) := by decide +kernel
theorem dX6_limb_3 : decode cX6_limb 3 = .ok (.invokestatic 81, 3) := by decide +kernel
theorem dX6_limb_6 : decode cX6_limb 6 = .ok (.ifCond .ne 44, 3) := by decide +kernel
theorem dX6_limb_9 : decode cX6_limb 9 = .ok (.iload_n 2, 1) := by decide +kernel
theorem dX6_limb_10 : decode cX6_limb 10 = .ok (.iconst 0, 1) := by decide +kernel
theorem dX6_limb_11 : decode cX6_limb 11 = .ok (.iconst 5, 1) := by decide +kernel
theorem dX6_limb_12 : decode cX6_limb 12 = .ok (.invokestatic 81, 3) := by decide +kernel
theorem dX6_limb_15 : decode cX6_limb 15 = .ok (.ifCond .ne 35, 3) := by decide +kernel
theorem dX6_limb_18 : decode cX6_limb 18 = .ok (.iload_n 3, 1) := by decide +kernel
theorem dX6_limb_19 : decode cX6_limb 19 = .ok (.iconst 1, 1) := by decide +kernel
theorem dX6_limb_20 : decode cX6_limb 20 = .ok (.bipush 9, 2) := by decide +kernel
theorem dX6_limb_22 : decode cX6_limb 22 = .ok (.invokestatic 81, 3) := by decide +kernel
theorem dX6_limb_25 : decode cX6_limb 25 = .ok (.ifCond .ne 25, 3) := by decide +kernel
theorem dX6_limb_28 : decode cX6_limb 28 = .ok (.iload 4, 2) := by decide +kernel
theorem dX6_limb_30 : decode cX6_limb 30 = .ok (.iconst 1, 1) := by decide +kernel
theorem dX6_limb_31 : decode cX6_limb 31 = .ok (.bipush 20, 2) := by decide +kernel
theorem dX6_limb_33 : decode cX6_limb 33 = .ok (.invokestatic 81, 3) := by decide +kernel
theorem dX6_limb_36 : decode cX6_limb 36 = .ok (.ifCond .ne 14, 3) := by decide +kernel
theorem dX6_limb_39 : decode cX6_limb 39 = .ok (.iload 5, 2) := by decide +kernel
theorem dX6_limb_41 : decode cX6_limb 41 = .ok (.iconst 0, 1) := by decide +kernel
theorem dX6_limb_42 : decode cX6_limb 42 = .ok (.bipush 8, 2) := by decide +kernel
theorem dX6_limb_44 : decode cX6_limb 44 = .ok (.invokestatic 81, 3) := by decide +kernel
theorem dX6_limb_47 : decode cX6_limb 47 = .ok (.ifCond .eq 11, 3) := by decide +kernel
theorem dX6_limb_50 : decode cX6_limb 50 = .ok (.aload_n 0, 1) := by decide +kernel
theorem dX6_limb_51 : decode cX6_limb 51 = .ok (.sipush (-1002), 3) := by decide +kernel
theorem dX6_limb_54 : decode cX6_limb 54 = .ok (.invokevirtual 85, 3) := by decide +kernel
theorem dX6_limb_57 : decode cX6_limb 57 = .ok (.ireturn, 1) := by decide +kernel
theorem dX6_limb_58 : decode cX6_limb 58 = .ok (.aload_n 0, 1) := by decide +kernel
theorem dX6_limb_59 : decode cX6_limb 59 = .ok (.getfield 10, 3) := by decide +kernel
theorem dX6_limb_62 : decode cX6_limb 62 = .ok (.getfield 89, 3) := by decide +kernel
theorem dX6_limb_65 : decode cX6_limb 65 = .ok (.bipush 7, 2) := by decide +kernel
theorem dX6_limb_67 : decode cX6_limb 67 = .ok (.if_icmp .lt 8, 3) := by decide +kernel
theorem dX6_limb_70 : decode cX6_limb 70 = .ok (.aload_n 0, 1) := by decide +kernel
theorem dX6_limb_71 : decode cX6_limb 71 = .ok (.invokevirtual 96, 3) := by decide +kernel
theorem dX6_limb_74 : decode cX6_limb 74 = .ok (.ireturn, 1) := by decide +kernel
theorem dX6_limb_75 : decode cX6_limb 75 = .ok (.aload_n 0, 1) := by decide +kernel
theorem dX6_limb_76 : decode cX6_limb 76 = .ok (.getfield 10, 3) := by decide +kernel
theorem dX6_limb_79 : decode cX6_limb 79 = .ok (.iload_n 1, 1) := by decide +kernel
theorem dX6_limb_80 : decode cX6_limb 80 = .ok (.iload_n 2, 1) := by decide +kernel
theorem dX6_limb_81 : decode cX6_limb 81 = .ok (.iload_n 3, 1) := by decide +kernel
theorem dX6_limb_82 : decode cX6_limb 82 = .ok (.iload 4, 2) := by decide +kernel
theorem dX6_limb_84 : decode cX6_limb 84 = .ok (.iload 5, 2) := by decide +kernel
theorem dX6_limb_86 : decode cX6_limb 86 = .ok (.invokevirtual 100, 3) := by decide +kernel
theorem dX6_limb_89 : decode cX6_limb 89 = .ok (.ireturn, 1) := by decide +kernel
theorem dX6_type_0 : decode cX6_type 0 = .ok (.iload_n 1, 1) := by decide +kernel
theorem dX6_type_1 : decode cX6_type 1 = .ok (.iconst 0, 1) := by decide +kernel
theorem dX6_type_2 : decode cX6_type 2 = .ok (.bipush 127, 2) := by decide +kernel
theorem dX6_type_4 : decode cX6_type 4 = .ok (.invokestatic 81, 3) := by decide +kernel
theorem dX6_type_7 : decode cX6_type 7 = .ok (.ifCond .eq 11, 3) := by decide +kernel
theorem dX6_type_10 : decode cX6_type 10 = .ok (.aload_n 0, 1) := by decide +kernel
theorem dX6_type_11 : decode cX6_type 11 = .ok (.sipush (-1002), 3) := by decide +kernel
theorem dX6_type_14 : decode cX6_type 14 = .ok (.invokevirtual 85, 3) := by decide +kernel
theorem dX6_type_17 : decode cX6_type 17 = .ok (.ireturn, 1) := by decide +kernel
theorem dX6_type_18 : decode cX6_type 18 = .ok (.aload_n 0, 1) := by decide +kernel
theorem dX6_type_19 : decode cX6_type 19 = .ok (.getfield 35, 3) := by decide +kernel
theorem dX6_type_22 : decode cX6_type 22 = .ok (.getfield 104, 3) := by decide +kernel
theorem dX6_type_25 : decode cX6_type 25 = .ok (.sipush 150, 3) := by decide +kernel
theorem dX6_type_28 : decode cX6_type 28 = .ok (.if_icmp .lt 8, 3) := by decide +kernel
theorem dX6_type_31 : decode cX6_type 31 = .ok (.aload_n 0, 1) := by decide +kernel
theorem dX6_type_32 : decode cX6_type 32 = .ok (.invokevirtual 96, 3) := by decide +kernel
theorem dX6_type_35 : decode cX6_type 35 = .ok (.ireturn, 1) := by decide +kernel
theorem dX6_type_36 : decode cX6_type 36 = .ok (.aload_n 0, 1) := by decide +kernel
theorem dX6_type_37 : decode cX6_type 37 = .ok (.getfield 35, 3) := by decide +kernel
theorem dX6_type_40 : decode cX6_type 40 = .ok (.iload_n 1, 1) := by decide +kernel
theorem dX6_type_41 : decode cX6_type 41 = .ok (.invokevirtual 107, 3) := by decide +kernel
theorem dX6_type_44 : decode cX6_type 44 = .ok (.ireturn, 1) := by decide +kernel
theorem dX6_clear_0 : decode cX6_clear 0 = .ok (.aload_n 0, 1) := by decide +kernel
theorem dX6_clear_1 : decode cX6_clear 1 = .ok (.getfield 35, 3) := by decide +kernel
theorem dX6_clear_4 : decode cX6_clear 4 = .ok (.getfield 104, 3) := by decide +kernel
theorem dX6_clear_7 : decode cX6_clear 7 = .ok (.istore_n 1, 1) := by decide +kernel
theorem dX6_clear_8 : decode cX6_clear 8 = .ok (.aload_n 0, 1) := by decide +kernel
theorem dX6_clear_9 : decode cX6_clear 9 = .ok (.getfield 35, 3) := by decide +kernel
theorem dX6_clear_12 : decode cX6_clear 12 = .ok (.iconst 0, 1) := by decide +kernel
theorem dX6_clear_13 : decode cX6_clear 13 = .ok (.putfield 104, 3) := by decide +kernel
theorem dX6_clear_16 : decode cX6_clear 16 = .ok (.iload_n 1, 1) := by decide +kernel
theorem dX6_clear_17 : decode cX6_clear 17 = .ok (.ireturn, 1) := by decide +kernel
theorem dX6_read_0 : decode cX6_read 0 = .ok (.aload_n 0, 1) := by decide +kernel
theorem dX6_read_1 : decode cX6_read 1 = .ok (.getfield 35, 3) := by decide +kernel
theorem dX6_read_4 : decode cX6_read 4 = .ok (.aload_n 0, 1) := by decide +kernel
theorem dX6_read_5 : decode cX6_read 5 = .ok (.getfield 16, 3) := by decide +kernel
theorem dX6_read_8 : decode cX6_read 8 = .ok (.invokevirtual 110, 3) := by decide +kernel
theorem dX6_read_11 : decode cX6_read 11 = .ok (.istore_n 1, 1) := by decide +kernel
theorem dX6_read_12 : decode cX6_read 12 = .ok (.iload_n 1, 1) := by decide +kernel
theorem dX6_read_13 : decode cX6_read 13 = .ok (.ifCond .lt 14, 3) := by decide +kernel
theorem dX6_read_16 : decode cX6_read 16 = .ok (.aload_n 0, 1) := by decide +kernel
theorem dX6_read_17 : decode cX6_read 17 = .ok (.getfield 10, 3) := by decide +kernel
theorem dX6_read_20 : decode cX6_read 20 = .ok (.aload_n 0, 1) := by decide +kernel
theorem dX6_read_21 : decode cX6_read 21 = .ok (.getfield 16, 3) := by decide +kernel
theorem dX6_read_24 : decode cX6_read 24 = .ok (.invokevirtual 114, 3) := by decide +kernel
theorem dX6_read_27 : decode cX6_read 27 = .ok (.iload_n 1, 1) := by decide +kernel
theorem dX6_read_28 : decode cX6_read 28 = .ok (.ireturn, 1) := by decide +kernel
theorem dX6_moves_0 : decode cX6_moves 0 = .ok (.iload_n 1, 1) := by decide +kernel
theorem dX6_moves_1 : decode cX6_moves 1 = .ok (.iconst 0, 1) := by decide +kernel
theorem dX6_moves_2 : decode cX6_moves 2 = .ok (.iconst 4, 1) := by decide +kernel
theorem dX6_moves_3 : decode cX6_moves 3 = .ok (.invokestatic 81, 3) := by decide +kernel
theorem dX6_moves_6 : decode cX6_moves 6 = .ok (.ifCond .eq 11, 3) := by decide +kernel
theorem dX6_moves_9 : decode cX6_moves 9 = .ok (.aload_n 0, 1) := by decide +kernel
theorem dX6_moves_10 : decode cX6_moves 10 = .ok (.sipush (-1002), 3) := by decide +kernel
theorem dX6_moves_13 : decode cX6_moves 13 = .ok (.invokevirtual 85, 3) := by decide +kernel
theorem dX6_moves_16 : decode cX6_moves 16 = .ok (.ireturn, 1) := by decide +kernel
theorem dX6_moves_17 : decode cX6_moves 17 = .ok (.aload_n 0, 1) := by decide +kernel
theorem dX6_moves_18 : decode cX6_moves 18 = .ok (.getfield 10, 3) := by decide +kernel
theorem dX6_moves_21 : decode cX6_moves 21 = .ok (.getfield 118, 3) := by decide +kernel
theorem dX6_moves_24 : decode cX6_moves 24 = .ok (.getfield 121, 3) := by decide +kernel
theorem dX6_moves_27 : decode cX6_moves 27 = .ok (.sipush 9999, 3) := by decide +kernel
theorem dX6_moves_30 : decode cX6_moves 30 = .ok (.if_icmp .lt 8, 3) := by decide +kernel
theorem dX6_moves_33 : decode cX6_moves 33 = .ok (.aload_n 0, 1) := by decide +kernel
theorem dX6_moves_34 : decode cX6_moves 34 = .ok (.invokevirtual 124, 3) := by decide +kernel
theorem dX6_moves_37 : decode cX6_moves 37 = .ok (.ireturn, 1) := by decide +kernel
theorem dX6_moves_38 : decode cX6_moves 38 = .ok (.aload_n 0, 1) := by decide +kernel
theorem dX6_moves_39 : decode cX6_moves 39 = .ok (.getfield 10, 3) := by decide +kernel
theorem dX6_moves_42 : decode cX6_moves 42 = .ok (.invokevirtual 127, 3) := by decide +kernel
theorem dX6_moves_45 : decode cX6_moves 45 = .ok (.aload_n 0, 1) := by decide +kernel
theorem dX6_moves_46 : decode cX6_moves 46 = .ok (.getfield 10, 3) := by decide +kernel
theorem dX6_moves_49 : decode cX6_moves 49 = .ok (.aload_n 0, 1) := by decide +kernel
theorem dX6_moves_50 : decode cX6_moves 50 = .ok (.getfield 10, 3) := by decide +kernel
theorem dX6_moves_53 : decode cX6_moves 53 = .ok (.getfield 118, 3) := by decide +kernel
theorem dX6_moves_56 : decode cX6_moves 56 = .ok (.iload_n 1, 1) := by decide +kernel
theorem dX6_moves_57 : decode cX6_moves 57 = .ok (.invokevirtual 130, 3) := by decide +kernel
theorem dX6_moves_60 : decode cX6_moves 60 = .ok (.aload_n 0, 1) := by decide +kernel
theorem dX6_moves_61 : decode cX6_moves 61 = .ok (.getfield 10, 3) := by decide +kernel
theorem dX6_moves_64 : decode cX6_moves 64 = .ok (.aload_n 0, 1) := by decide +kernel
theorem dX6_moves_65 : decode cX6_moves 65 = .ok (.getfield 10, 3) := by decide +kernel
theorem dX6_moves_68 : decode cX6_moves 68 = .ok (.getfield 118, 3) := by decide +kernel
theorem dX6_moves_71 : decode cX6_moves 71 = .ok (.invokevirtual 134, 3) := by decide +kernel
theorem dX6_moves_74 : decode cX6_moves 74 = .ok (.ireturn, 1) := by decide +kernel
theorem dX6_ties_0 : decode cX6_ties 0 = .ok (.aload_n 0, 1) := by decide +kernel
theorem dX6_ties_1 : decode cX6_ties 1 = .ok (.iload_n 1, 1) := by decide +kernel
theorem dX6_ties_2 : decode cX6_ties 2 = .ok (.invokevirtual 138, 3) := by decide +kernel
theorem dX6_ties_5 : decode cX6_ties 5 = .ok (.ifCond .eq 11, 3) := by decide +kernel
theorem dX6_ties_8 : decode cX6_ties 8 = .ok (.aload_n 0, 1) := by decide +kernel
theorem dX6_ties_9 : decode cX6_ties 9 = .ok (.sipush (-1002), 3) := by decide +kernel
theorem dX6_ties_12 : decode cX6_ties 12 = .ok (.invokevirtual 85, 3) := by decide +kernel
theorem dX6_ties_15 : decode cX6_ties 15 = .ok (.ireturn, 1) := by decide +kernel
theorem dX6_ties_16 : decode cX6_ties 16 = .ok (.aload_n 0, 1) := by decide +kernel
theorem dX6_ties_17 : decode cX6_ties 17 = .ok (.getfield 10, 3) := by decide +kernel
theorem dX6_ties_20 : decode cX6_ties 20 = .ok (.iload_n 1, 1) := by decide +kernel
theorem dX6_ties_21 : decode cX6_ties 21 = .ok (.invokevirtual 142, 3) := by decide +kernel
theorem dX6_ties_24 : decode cX6_ties 24 = .ok (.invokestatic 145, 3) := by decide +kernel
theorem dX6_ties_27 : decode cX6_ties 27 = .ok (.ifCond .ne 8, 3) := by decide +kernel
theorem dX6_ties_30 : decode cX6_ties 30 = .ok (.aload_n 0, 1) := by decide +kernel
theorem dX6_ties_31 : decode cX6_ties 31 = .ok (.invokevirtual 124, 3) := by decide +kernel
theorem dX6_ties_34 : decode cX6_ties 34 = .ok (.ireturn, 1) := by decide +kernel
theorem dX6_ties_35 : decode cX6_ties 35 = .ok (.aload_n 0, 1) := by decide +kernel
theorem dX6_ties_36 : decode cX6_ties 36 = .ok (.getfield 10, 3) := by decide +kernel
theorem dX6_ties_39 : decode cX6_ties 39 = .ok (.iload_n 1, 1) := by decide +kernel
theorem dX6_ties_40 : decode cX6_ties 40 = .ok (.invokevirtual 142, 3) := by decide +kernel
theorem dX6_ties_43 : decode cX6_ties 43 = .ok (.istore_n 2, 1) := by decide +kernel
theorem dX6_ties_44 : decode cX6_ties 44 = .ok (.aload_n 0, 1) := by decide +kernel
theorem dX6_ties_45 : decode cX6_ties 45 = .ok (.getfield 10, 3) := by decide +kernel
theorem dX6_ties_48 : decode cX6_ties 48 = .ok (.invokevirtual 127, 3) := by decide +kernel
theorem dX6_ties_51 : decode cX6_ties 51 = .ok (.aload_n 0, 1) := by decide +kernel
theorem dX6_ties_52 : decode cX6_ties 52 = .ok (.getfield 10, 3) := by decide +kernel
theorem dX6_ties_55 : decode cX6_ties 55 = .ok (.getfield 118, 3) := by decide +kernel
theorem dX6_ties_58 : decode cX6_ties 58 = .ok (.getfield 148, 3) := by decide +kernel
theorem dX6_ties_61 : decode cX6_ties 61 = .ok (.iload_n 1, 1) := by decide +kernel
theorem dX6_ties_62 : decode cX6_ties 62 = .ok (.iconst 0, 1) := by decide +kernel
theorem dX6_ties_63 : decode cX6_ties 63 = .ok (.invokestatic 151, 3) := by decide +kernel
theorem dX6_ties_66 : decode cX6_ties 66 = .ok (.iload_n 2, 1) := by decide +kernel
theorem dX6_ties_67 : decode cX6_ties 67 = .ok (.ireturn, 1) := by decide +kernel
theorem dX6_hangs_0 : decode cX6_hangs 0 = .ok (.aload_n 0, 1) := by decide +kernel
theorem dX6_hangs_1 : decode cX6_hangs 1 = .ok (.iload_n 1, 1) := by decide +kernel
theorem dX6_hangs_2 : decode cX6_hangs 2 = .ok (.invokevirtual 138, 3) := by decide +kernel
theorem dX6_hangs_5 : decode cX6_hangs 5 = .ok (.ifCond .ne 13, 3) := by decide +kernel
theorem dX6_hangs_8 : decode cX6_hangs 8 = .ok (.iload_n 2, 1) := by decide +kernel
theorem dX6_hangs_9 : decode cX6_hangs 9 = .ok (.iconst 0, 1) := by decide +kernel
theorem dX6_hangs_10 : decode cX6_hangs 10 = .ok (.bipush 8, 2) := by decide +kernel
theorem dX6_hangs_12 : decode cX6_hangs 12 = .ok (.invokestatic 81, 3) := by decide +kernel
theorem dX6_hangs_15 : decode cX6_hangs 15 = .ok (.ifCond .eq 11, 3) := by decide +kernel
theorem dX6_hangs_18 : decode cX6_hangs 18 = .ok (.aload_n 0, 1) := by decide +kernel
theorem dX6_hangs_19 : decode cX6_hangs 19 = .ok (.sipush (-1002), 3) := by decide +kernel
theorem dX6_hangs_22 : decode cX6_hangs 22 = .ok (.invokevirtual 85, 3) := by decide +kernel
theorem dX6_hangs_25 : decode cX6_hangs 25 = .ok (.ireturn, 1) := by decide +kernel
theorem dX6_hangs_26 : decode cX6_hangs 26 = .ok (.aload_n 0, 1) := by decide +kernel
theorem dX6_hangs_27 : decode cX6_hangs 27 = .ok (.getfield 10, 3) := by decide +kernel
theorem dX6_hangs_30 : decode cX6_hangs 30 = .ok (.iload_n 1, 1) := by decide +kernel
theorem dX6_hangs_31 : decode cX6_hangs 31 = .ok (.invokevirtual 155, 3) := by decide +kernel
theorem dX6_hangs_34 : decode cX6_hangs 34 = .ok (.istore_n 3, 1) := by decide +kernel
theorem dX6_hangs_35 : decode cX6_hangs 35 = .ok (.iload_n 3, 1) := by decide +kernel
theorem dX6_hangs_36 : decode cX6_hangs 36 = .ok (.iload_n 2, 1) := by decide +kernel
theorem dX6_hangs_37 : decode cX6_hangs 37 = .ok (.if_icmp .ne 8, 3) := by decide +kernel
theorem dX6_hangs_40 : decode cX6_hangs 40 = .ok (.aload_n 0, 1) := by decide +kernel
theorem dX6_hangs_41 : decode cX6_hangs 41 = .ok (.invokevirtual 124, 3) := by decide +kernel
theorem dX6_hangs_44 : decode cX6_hangs 44 = .ok (.ireturn, 1) := by decide +kernel
theorem dX6_hangs_45 : decode cX6_hangs 45 = .ok (.aload_n 0, 1) := by decide +kernel
theorem dX6_hangs_46 : decode cX6_hangs 46 = .ok (.getfield 10, 3) := by decide +kernel
theorem dX6_hangs_49 : decode cX6_hangs 49 = .ok (.invokevirtual 127, 3) := by decide +kernel
theorem dX6_hangs_52 : decode cX6_hangs 52 = .ok (.aload_n 0, 1) := by decide +kernel
theorem dX6_hangs_53 : decode cX6_hangs 53 = .ok (.getfield 10, 3) := by decide +kernel
theorem dX6_hangs_56 : decode cX6_hangs 56 = .ok (.getfield 118, 3) := by decide +kernel
theorem dX6_hangs_59 : decode cX6_hangs 59 = .ok (.getfield 158, 3) := by decide +kernel
theorem dX6_hangs_62 : decode cX6_hangs 62 = .ok (.iload_n 1, 1) := by decide +kernel
theorem dX6_hangs_63 : decode cX6_hangs 63 = .ok (.iload_n 2, 1) := by decide +kernel
theorem dX6_hangs_64 : decode cX6_hangs 64 = .ok (.invokestatic 151, 3) := by decide +kernel
theorem dX6_hangs_67 : decode cX6_hangs 67 = .ok (.iload_n 3, 1) := by decide +kernel
theorem dX6_hangs_68 : decode cX6_hangs 68 = .ok (.ireturn, 1) := by decide +kernel
theorem dX6_undo_0 : decode cX6_undo 0 = .ok (.aload_n 0, 1) := by decide +kernel
theorem dX6_undo_1 : decode cX6_undo 1 = .ok (.getfield 10, 3) := by decide +kernel
theorem dX6_undo_4 : decode cX6_undo 4 = .ok (.getfield 161, 3) := by decide +kernel
theorem dX6_undo_7 : decode cX6_undo 7 = .ok (.ifCond .gt 8, 3) := by decide +kernel
theorem dX6_undo_10 : decode cX6_undo 10 = .ok (.aload_n 0, 1) := by decide +kernel
theorem dX6_undo_11 : decode cX6_undo 11 = .ok (.invokevirtual 124, 3) := by decide +kernel
theorem dX6_undo_14 : decode cX6_undo 14 = .ok (.ireturn, 1) := by decide +kernel
theorem dX6_undo_15 : decode cX6_undo 15 = .ok (.aload_n 0, 1) := by decide +kernel
theorem dX6_undo_16 : decode cX6_undo 16 = .ok (.getfield 10, 3) := by decide +kernel
theorem dX6_undo_19 : decode cX6_undo 19 = .ok (.invokevirtual 164, 3) := by decide +kernel
theorem dX6_undo_22 : decode cX6_undo 22 = .ok (.aload_n 0, 1) := by decide +kernel
theorem dX6_undo_23 : decode cX6_undo 23 = .ok (.getfield 10, 3) := by decide +kernel
theorem dX6_undo_26 : decode cX6_undo 26 = .ok (.getfield 118, 3) := by decide +kernel
theorem dX6_undo_29 : decode cX6_undo 29 = .ok (.getfield 121, 3) := by decide +kernel
theorem dX6_undo_32 : decode cX6_undo 32 = .ok (.ireturn, 1) := by decide +kernel
theorem dX6_of_0 : decode cX6_of 0 = .ok (.aload_n 0, 1) := by decide +kernel
theorem dX6_of_1 : decode cX6_of 1 = .ok (.iload_n 1, 1) := by decide +kernel
theorem dX6_of_2 : decode cX6_of 2 = .ok (.invokevirtual 138, 3) := by decide +kernel
theorem dX6_of_5 : decode cX6_of 5 = .ok (.ifCond .ne 13, 3) := by decide +kernel
theorem dX6_of_8 : decode cX6_of 8 = .ok (.iload_n 2, 1) := by decide +kernel
theorem dX6_of_9 : decode cX6_of 9 = .ok (.iconst 0, 1) := by decide +kernel
theorem dX6_of_10 : decode cX6_of 10 = .ok (.bipush 7, 2) := by decide +kernel
theorem dX6_of_12 : decode cX6_of 12 = .ok (.invokestatic 81, 3) := by decide +kernel
theorem dX6_of_15 : decode cX6_of 15 = .ok (.ifCond .eq 11, 3) := by decide +kernel
theorem dX6_of_18 : decode cX6_of 18 = .ok (.aload_n 0, 1) := by decide +kernel
theorem dX6_of_19 : decode cX6_of 19 = .ok (.sipush (-1002), 3) := by decide +kernel
theorem dX6_of_22 : decode cX6_of 22 = .ok (.invokevirtual 85, 3) := by decide +kernel
theorem dX6_of_25 : decode cX6_of 25 = .ok (.ireturn, 1) := by decide +kernel
theorem dX6_of_26 : decode cX6_of 26 = .ok (.aload_n 0, 1) := by decide +kernel
theorem dX6_of_27 : decode cX6_of 27 = .ok (.getfield 10, 3) := by decide +kernel
theorem dX6_of_30 : decode cX6_of 30 = .ok (.iload_n 1, 1) := by decide +kernel
theorem dX6_of_31 : decode cX6_of 31 = .ok (.iload_n 2, 1) := by decide +kernel
theorem dX6_of_32 : decode cX6_of 32 = .ok (.invokevirtual 167, 3) := by decide +kernel
theorem dX6_of_35 : decode cX6_of 35 = .ok (.ireturn, 1) := by decide +kernel
theorem dX6_touch_0 : decode cX6_touch 0 = .ok (.iload_n 1, 1) := by decide +kernel
theorem dX6_touch_1 : decode cX6_touch 1 = .ok (.iconst (-1), 1) := by decide +kernel
theorem dX6_touch_2 : decode cX6_touch 2 = .ok (.if_icmp .ge 10, 3) := by decide +kernel
theorem dX6_touch_5 : decode cX6_touch 5 = .ok (.aload_n 0, 1) := by decide +kernel
theorem dX6_touch_6 : decode cX6_touch 6 = .ok (.bipush (-10), 2) := by decide +kernel
theorem dX6_touch_8 : decode cX6_touch 8 = .ok (.invokevirtual 85, 3) := by decide +kernel
theorem dX6_touch_11 : decode cX6_touch 11 = .ok (.ireturn, 1) := by decide +kernel
theorem dX6_touch_12 : decode cX6_touch 12 = .ok (.iconst 0, 1) := by decide +kernel
theorem dX6_touch_13 : decode cX6_touch 13 = .ok (.istore_n 2, 1) := by decide +kernel
theorem dX6_touch_14 : decode cX6_touch 14 = .ok (.iconst 0, 1) := by decide +kernel
theorem dX6_touch_15 : decode cX6_touch 15 = .ok (.istore_n 3, 1) := by decide +kernel
theorem dX6_touch_16 : decode cX6_touch 16 = .ok (.iload_n 3, 1) := by decide +kernel
theorem dX6_touch_17 : decode cX6_touch 17 = .ok (.aload_n 0, 1) := by decide +kernel
theorem dX6_touch_18 : decode cX6_touch 18 = .ok (.getfield 10, 3) := by decide +kernel
theorem dX6_touch_21 : decode cX6_touch 21 = .ok (.getfield 89, 3) := by decide +kernel
theorem dX6_touch_24 : decode cX6_touch 24 = .ok (.if_icmp .ge 58, 3) := by decide +kernel
theorem dX6_touch_27 : decode cX6_touch 27 = .ok (.iload_n 3, 1) := by decide +kernel
theorem dX6_touch_28 : decode cX6_touch 28 = .ok (.iconst 1, 1) := by decide +kernel
theorem dX6_touch_29 : decode cX6_touch 29 = .ok (.iadd, 1) := by decide +kernel
theorem dX6_touch_30 : decode cX6_touch 30 = .ok (.istore 4, 2) := by decide +kernel
theorem dX6_touch_32 : decode cX6_touch 32 = .ok (.iload 4, 2) := by decide +kernel
theorem dX6_touch_34 : decode cX6_touch 34 = .ok (.aload_n 0, 1) := by decide +kernel
theorem dX6_touch_35 : decode cX6_touch 35 = .ok (.getfield 10, 3) := by decide +kernel
theorem dX6_touch_38 : decode cX6_touch 38 = .ok (.getfield 89, 3) := by decide +kernel
theorem dX6_touch_41 : decode cX6_touch 41 = .ok (.if_icmp .ge 35, 3) := by decide +kernel
theorem dX6_touch_44 : decode cX6_touch 44 = .ok (.aload_n 0, 1) := by decide +kernel
theorem dX6_touch_45 : decode cX6_touch 45 = .ok (.iload_n 3, 1) := by decide +kernel
theorem dX6_touch_46 : decode cX6_touch 46 = .ok (.iload 4, 2) := by decide +kernel
theorem dX6_touch_48 : decode cX6_touch 48 = .ok (.invokevirtual 171, 3) := by decide +kernel
theorem dX6_touch_51 : decode cX6_touch 51 = .ok (.ifCond .eq 19, 3) := by decide +kernel
theorem dX6_touch_54 : decode cX6_touch 54 = .ok (.iload_n 2, 1) := by decide +kernel
theorem dX6_touch_55 : decode cX6_touch 55 = .ok (.iload_n 1, 1) := by decide +kernel
theorem dX6_touch_56 : decode cX6_touch 56 = .ok (.if_icmp .ne 11, 3) := by decide +kernel
theorem dX6_touch_59 : decode cX6_touch 59 = .ok (.bipush 10, 2) := by decide +kernel
theorem dX6_touch_61 : decode cX6_touch 61 = .ok (.iload_n 3, 1) := by decide +kernel
theorem dX6_touch_62 : decode cX6_touch 62 = .ok (.imul, 1) := by decide +kernel
theorem dX6_touch_63 : decode cX6_touch 63 = .ok (.iload 4, 2) := by decide +kernel
theorem dX6_touch_65 : decode cX6_touch 65 = .ok (.iadd, 1) := by decide +kernel
theorem dX6_touch_66 : decode cX6_touch 66 = .ok (.ireturn, 1) := by decide +kernel
theorem dX6_touch_67 : decode cX6_touch 67 = .ok (.iinc 2 1, 3) := by decide +kernel
theorem dX6_touch_70 : decode cX6_touch 70 = .ok (.iinc 4 1, 3) := by decide +kernel
theorem dX6_touch_73 : decode cX6_touch 73 = .ok (.goto (-41), 3) := by decide +kernel
theorem dX6_touch_76 : decode cX6_touch 76 = .ok (.iinc 3 1, 3) := by decide +kernel
theorem dX6_touch_79 : decode cX6_touch 79 = .ok (.goto (-63), 3) := by decide +kernel
theorem dX6_touch_82 : decode cX6_touch 82 = .ok (.iload_n 1, 1) := by decide +kernel
theorem dX6_touch_83 : decode cX6_touch 83 = .ok (.iconst (-1), 1) := by decide +kernel
theorem dX6_touch_84 : decode cX6_touch 84 = .ok (.if_icmp .ne 7, 3) := by decide +kernel
theorem dX6_touch_87 : decode cX6_touch 87 = .ok (.iload_n 2, 1) := by decide +kernel
theorem dX6_touch_88 : decode cX6_touch 88 = .ok (.goto 5, 3) := by decide +kernel
theorem dX6_touch_91 : decode cX6_touch 91 = .ok (.bipush (-5), 2) := by decide +kernel
theorem dX6_touch_93 : decode cX6_touch 93 = .ok (.ireturn, 1) := by decide +kernel
theorem dX6_safe_0 : decode cX6_safe 0 = .ok (.aload_n 0, 1) := by decide +kernel
theorem dX6_safe_1 : decode cX6_safe 1 = .ok (.iload_n 1, 1) := by decide +kernel
theorem dX6_safe_2 : decode cX6_safe 2 = .ok (.invokevirtual 138, 3) := by decide +kernel
theorem dX6_safe_5 : decode cX6_safe 5 = .ok (.ifCond .eq 11, 3) := by decide +kernel
theorem dX6_safe_8 : decode cX6_safe 8 = .ok (.aload_n 0, 1) := by decide +kernel
theorem dX6_safe_9 : decode cX6_safe 9 = .ok (.sipush (-1002), 3) := by decide +kernel
theorem dX6_safe_12 : decode cX6_safe 12 = .ok (.invokevirtual 85, 3) := by decide +kernel
theorem dX6_safe_15 : decode cX6_safe 15 = .ok (.ireturn, 1) := by decide +kernel
theorem dX6_safe_16 : decode cX6_safe 16 = .ok (.aload_n 0, 1) := by decide +kernel
theorem dX6_safe_17 : decode cX6_safe 17 = .ok (.getfield 10, 3) := by decide +kernel
theorem dX6_safe_20 : decode cX6_safe 20 = .ok (.iload_n 1, 1) := by decide +kernel
theorem dX6_safe_21 : decode cX6_safe 21 = .ok (.invokevirtual 142, 3) := by decide +kernel
theorem dX6_safe_24 : decode cX6_safe 24 = .ok (.istore_n 2, 1) := by decide +kernel
theorem dX6_safe_25 : decode cX6_safe 25 = .ok (.iconst 0, 1) := by decide +kernel
theorem dX6_safe_26 : decode cX6_safe 26 = .ok (.istore_n 3, 1) := by decide +kernel
theorem dX6_safe_27 : decode cX6_safe 27 = .ok (.iload_n 3, 1) := by decide +kernel
theorem dX6_safe_28 : decode cX6_safe 28 = .ok (.bipush 60, 2) := by decide +kernel
theorem dX6_safe_30 : decode cX6_safe 30 = .ok (.if_icmp .gt 41, 3) := by decide +kernel
theorem dX6_safe_33 : decode cX6_safe 33 = .ok (.iload_n 2, 1) := by decide +kernel
theorem dX6_safe_34 : decode cX6_safe 34 = .ok (.invokestatic 145, 3) := by decide +kernel
theorem dX6_safe_37 : decode cX6_safe 37 = .ok (.ifCond .eq 5, 3) := by decide +kernel
theorem dX6_safe_40 : decode cX6_safe 40 = .ok (.iload_n 3, 1) := by decide +kernel
theorem dX6_safe_41 : decode cX6_safe 41 = .ok (.ireturn, 1) := by decide +kernel
theorem dX6_safe_42 : decode cX6_safe 42 = .ok (.iload_n 2, 1) := by decide +kernel
theorem dX6_safe_43 : decode cX6_safe 43 = .ok (.aload_n 0, 1) := by decide +kernel
theorem dX6_safe_44 : decode cX6_safe 44 = .ok (.getfield 10, 3) := by decide +kernel
theorem dX6_safe_47 : decode cX6_safe 47 = .ok (.iload_n 1, 1) := by decide +kernel
theorem dX6_safe_48 : decode cX6_safe 48 = .ok (.invokevirtual 175, 3) := by decide +kernel
theorem dX6_safe_51 : decode cX6_safe 51 = .ok (.aload_n 0, 1) := by decide +kernel
theorem dX6_safe_52 : decode cX6_safe 52 = .ok (.getfield 10, 3) := by decide +kernel
theorem dX6_safe_55 : decode cX6_safe 55 = .ok (.getfield 118, 3) := by decide +kernel
theorem dX6_safe_58 : decode cX6_safe 58 = .ok (.getfield 178, 3) := by decide +kernel
theorem dX6_safe_61 : decode cX6_safe 61 = .ok (.invokestatic 181, 3) := by decide +kernel
theorem dX6_safe_64 : decode cX6_safe 64 = .ok (.istore_n 2, 1) := by decide +kernel
theorem dX6_safe_65 : decode cX6_safe 65 = .ok (.iinc 3 1, 3) := by decide +kernel
theorem dX6_safe_68 : decode cX6_safe 68 = .ok (.goto (-41), 3) := by decide +kernel
theorem dX6_safe_71 : decode cX6_safe 71 = .ok (.sipush (-1001), 3) := by decide +kernel
theorem dX6_safe_74 : decode cX6_safe 74 = .ok (.ireturn, 1) := by decide +kernel
theorem dX6_few_0 : decode cX6_few 0 = .ok (.aload_n 0, 1) := by decide +kernel
theorem dX6_few_1 : decode cX6_few 1 = .ok (.iload_n 1, 1) := by decide +kernel
theorem dX6_few_2 : decode cX6_few 2 = .ok (.invokevirtual 138, 3) := by decide +kernel
theorem dX6_few_5 : decode cX6_few 5 = .ok (.ifCond .ne 15, 3) := by decide +kernel
theorem dX6_few_8 : decode cX6_few 8 = .ok (.iload_n 2, 1) := by decide +kernel
theorem dX6_few_9 : decode cX6_few 9 = .ok (.invokestatic 185, 3) := by decide +kernel
theorem dX6_few_12 : decode cX6_few 12 = .ok (.ifCond .ne 8, 3) := by decide +kernel
theorem dX6_few_15 : decode cX6_few 15 = .ok (.iload_n 3, 1) := by decide +kernel
theorem dX6_few_16 : decode cX6_few 16 = .ok (.iconst (-1), 1) := by decide +kernel
theorem dX6_few_17 : decode cX6_few 17 = .ok (.if_icmp .ge 10, 3) := by decide +kernel
theorem dX6_few_20 : decode cX6_few 20 = .ok (.aload_n 0, 1) := by decide +kernel
theorem dX6_few_21 : decode cX6_few 21 = .ok (.bipush (-10), 2) := by decide +kernel
theorem dX6_few_23 : decode cX6_few 23 = .ok (.invokevirtual 85, 3) := by decide +kernel
theorem dX6_few_26 : decode cX6_few 26 = .ok (.ireturn, 1) := by decide +kernel
theorem dX6_few_27 : decode cX6_few 27 = .ok (.aload_n 0, 1) := by decide +kernel
theorem dX6_few_28 : decode cX6_few 28 = .ok (.getfield 42, 3) := by decide +kernel
theorem dX6_few_31 : decode cX6_few 31 = .ok (.aload_n 0, 1) := by decide +kernel
theorem dX6_few_32 : decode cX6_few 32 = .ok (.getfield 10, 3) := by decide +kernel
theorem dX6_few_35 : decode cX6_few 35 = .ok (.iload_n 1, 1) := by decide +kernel
theorem dX6_few_36 : decode cX6_few 36 = .ok (.iload_n 2, 1) := by decide +kernel
theorem dX6_few_37 : decode cX6_few 37 = .ok (.iload_n 1, 1) := by decide +kernel
theorem dX6_few_38 : decode cX6_few 38 = .ok (.iload_n 2, 1) := by decide +kernel
theorem dX6_few_39 : decode cX6_few 39 = .ok (.invokevirtual 188, 3) := by decide +kernel
theorem dX6_few_42 : decode cX6_few 42 = .ok (.istore 4, 2) := by decide +kernel
theorem dX6_few_44 : decode cX6_few 44 = .ok (.iload 4, 2) := by decide +kernel
theorem dX6_few_46 : decode cX6_few 46 = .ok (.ifCond .ge 6, 3) := by decide +kernel
theorem dX6_few_49 : decode cX6_few 49 = .ok (.bipush (-6), 2) := by decide +kernel
theorem dX6_few_51 : decode cX6_few 51 = .ok (.ireturn, 1) := by decide +kernel
theorem dX6_few_52 : decode cX6_few 52 = .ok (.iload_n 3, 1) := by decide +kernel
theorem dX6_few_53 : decode cX6_few 53 = .ok (.iconst (-1), 1) := by decide +kernel
theorem dX6_few_54 : decode cX6_few 54 = .ok (.if_icmp .ne 6, 3) := by decide +kernel
theorem dX6_few_57 : decode cX6_few 57 = .ok (.iload 4, 2) := by decide +kernel
theorem dX6_few_59 : decode cX6_few 59 = .ok (.ireturn, 1) := by decide +kernel
theorem dX6_few_60 : decode cX6_few 60 = .ok (.iload_n 3, 1) := by decide +kernel
theorem dX6_few_61 : decode cX6_few 61 = .ok (.iload 4, 2) := by decide +kernel
theorem dX6_few_63 : decode cX6_few 63 = .ok (.if_icmp .ge 17, 3) := by decide +kernel
theorem dX6_few_66 : decode cX6_few 66 = .ok (.aload_n 0, 1) := by decide +kernel
theorem dX6_few_67 : decode cX6_few 67 = .ok (.getfield 42, 3) := by decide +kernel
theorem dX6_few_70 : decode cX6_few 70 = .ok (.getfield 192, 3) := by decide +kernel
theorem dX6_few_73 : decode cX6_few 73 = .ok (.iload_n 3, 1) := by decide +kernel
theorem dX6_few_74 : decode cX6_few 74 = .ok (.invokestatic 195, 3) := by decide +kernel
theorem dX6_few_77 : decode cX6_few 77 = .ok (.goto 5, 3) := by decide +kernel
theorem dX6_few_80 : decode cX6_few 80 = .ok (.bipush (-5), 2) := by decide +kernel
theorem dX6_few_82 : decode cX6_few 82 = .ok (.ireturn, 1) := by decide +kernel
theorem dX6_both_0 : decode cX6_both 0 = .ok (.aload_n 0, 1) := by decide +kernel
theorem dX6_both_1 : decode cX6_both 1 = .ok (.iload_n 1, 1) := by decide +kernel
theorem dX6_both_2 : decode cX6_both 2 = .ok (.invokevirtual 138, 3) := by decide +kernel
theorem dX6_both_5 : decode cX6_both 5 = .ok (.ifCond .ne 31, 3) := by decide +kernel
theorem dX6_both_8 : decode cX6_both 8 = .ok (.iload_n 2, 1) := by decide +kernel
theorem dX6_both_9 : decode cX6_both 9 = .ok (.invokestatic 185, 3) := by decide +kernel
theorem dX6_both_12 : decode cX6_both 12 = .ok (.ifCond .ne 24, 3) := by decide +kernel
theorem dX6_both_15 : decode cX6_both 15 = .ok (.aload_n 0, 1) := by decide +kernel
theorem dX6_both_16 : decode cX6_both 16 = .ok (.iload_n 3, 1) := by decide +kernel
theorem dX6_both_17 : decode cX6_both 17 = .ok (.invokevirtual 138, 3) := by decide +kernel
theorem dX6_both_20 : decode cX6_both 20 = .ok (.ifCond .ne 16, 3) := by decide +kernel
theorem dX6_both_23 : decode cX6_both 23 = .ok (.iload 4, 2) := by decide +kernel
theorem dX6_both_25 : decode cX6_both 25 = .ok (.invokestatic 185, 3) := by decide +kernel
theorem dX6_both_28 : decode cX6_both 28 = .ok (.ifCond .ne 8, 3) := by decide +kernel
theorem dX6_both_31 : decode cX6_both 31 = .ok (.iload_n 1, 1) := by decide +kernel
theorem dX6_both_32 : decode cX6_both 32 = .ok (.iload_n 3, 1) := by decide +kernel
theorem dX6_both_33 : decode cX6_both 33 = .ok (.if_icmp .ne 11, 3) := by decide +kernel
theorem dX6_both_36 : decode cX6_both 36 = .ok (.aload_n 0, 1) := by decide +kernel
theorem dX6_both_37 : decode cX6_both 37 = .ok (.sipush (-1002), 3) := by decide +kernel
theorem dX6_both_40 : decode cX6_both 40 = .ok (.invokevirtual 85, 3) := by decide +kernel
theorem dX6_both_43 : decode cX6_both 43 = .ok (.ireturn, 1) := by decide +kernel
theorem dX6_both_44 : decode cX6_both 44 = .ok (.aload_n 0, 1) := by decide +kernel
theorem dX6_both_45 : decode cX6_both 45 = .ok (.getfield 42, 3) := by decide +kernel
theorem dX6_both_48 : decode cX6_both 48 = .ok (.aload_n 0, 1) := by decide +kernel
theorem dX6_both_49 : decode cX6_both 49 = .ok (.getfield 10, 3) := by decide +kernel
theorem dX6_both_52 : decode cX6_both 52 = .ok (.iload_n 1, 1) := by decide +kernel
theorem dX6_both_53 : decode cX6_both 53 = .ok (.iload_n 2, 1) := by decide +kernel
theorem dX6_both_54 : decode cX6_both 54 = .ok (.iload_n 3, 1) := by decide +kernel
theorem dX6_both_55 : decode cX6_both 55 = .ok (.iload 4, 2) := by decide +kernel
theorem dX6_both_57 : decode cX6_both 57 = .ok (.invokevirtual 188, 3) := by decide +kernel
theorem dX6_both_60 : decode cX6_both 60 = .ok (.istore 5, 2) := by decide +kernel
theorem dX6_both_62 : decode cX6_both 62 = .ok (.iload 5, 2) := by decide +kernel
theorem dX6_both_64 : decode cX6_both 64 = .ok (.ifCond .ge 9, 3) := by decide +kernel
theorem dX6_both_67 : decode cX6_both 67 = .ok (.sipush (-1001), 3) := by decide +kernel
theorem dX6_both_70 : decode cX6_both 70 = .ok (.goto 5, 3) := by decide +kernel
theorem dX6_both_73 : decode cX6_both 73 = .ok (.iload 5, 2) := by decide +kernel
theorem dX6_both_75 : decode cX6_both 75 = .ok (.ireturn, 1) := by decide +kernel
theorem dX6_hole_0 : decode cX6_hole 0 = .ok (.aload_n 0, 1) := by decide +kernel
theorem dX6_hole_1 : decode cX6_hole 1 = .ok (.iload_n 1, 1) := by decide +kernel
theorem dX6_hole_2 : decode cX6_hole 2 = .ok (.invokevirtual 138, 3) := by decide +kernel
theorem dX6_hole_5 : decode cX6_hole 5 = .ok (.ifCond .ne 19, 3) := by decide +kernel
theorem dX6_hole_8 : decode cX6_hole 8 = .ok (.iload_n 2, 1) := by decide +kernel
theorem dX6_hole_9 : decode cX6_hole 9 = .ok (.invokestatic 185, 3) := by decide +kernel
theorem dX6_hole_12 : decode cX6_hole 12 = .ok (.ifCond .ne 12, 3) := by decide +kernel
theorem dX6_hole_15 : decode cX6_hole 15 = .ok (.iload_n 3, 1) := by decide +kernel
theorem dX6_hole_16 : decode cX6_hole 16 = .ok (.iconst 0, 1) := by decide +kernel
theorem dX6_hole_17 : decode cX6_hole 17 = .ok (.iconst 1, 1) := by decide +kernel
theorem dX6_hole_18 : decode cX6_hole 18 = .ok (.invokestatic 81, 3) := by decide +kernel
theorem dX6_hole_21 : decode cX6_hole 21 = .ok (.ifCond .eq 11, 3) := by decide +kernel
theorem dX6_hole_24 : decode cX6_hole 24 = .ok (.aload_n 0, 1) := by decide +kernel
theorem dX6_hole_25 : decode cX6_hole 25 = .ok (.sipush (-1002), 3) := by decide +kernel
theorem dX6_hole_28 : decode cX6_hole 28 = .ok (.invokevirtual 85, 3) := by decide +kernel
theorem dX6_hole_31 : decode cX6_hole 31 = .ok (.ireturn, 1) := by decide +kernel
theorem dX6_hole_32 : decode cX6_hole 32 = .ok (.iconst 0, 1) := by decide +kernel
theorem dX6_hole_33 : decode cX6_hole 33 = .ok (.istore 4, 2) := by decide +kernel
theorem dX6_hole_35 : decode cX6_hole 35 = .ok (.aload_n 0, 1) := by decide +kernel
theorem dX6_hole_36 : decode cX6_hole 36 = .ok (.iload_n 1, 1) := by decide +kernel
theorem dX6_hole_37 : decode cX6_hole 37 = .ok (.iload_n 2, 1) := by decide +kernel
theorem dX6_hole_38 : decode cX6_hole 38 = .ok (.iconst 0, 1) := by decide +kernel
theorem dX6_hole_39 : decode cX6_hole 39 = .ok (.invokevirtual 199, 3) := by decide +kernel
theorem dX6_hole_42 : decode cX6_hole 42 = .ok (.istore 5, 2) := by decide +kernel
theorem dX6_hole_44 : decode cX6_hole 44 = .ok (.iconst 1, 1) := by decide +kernel
theorem dX6_hole_45 : decode cX6_hole 45 = .ok (.istore 6, 2) := by decide +kernel
theorem dX6_hole_47 : decode cX6_hole 47 = .ok (.iload 6, 2) := by decide +kernel
theorem dX6_hole_49 : decode cX6_hole 49 = .ok (.bipush 8, 2) := by decide +kernel
theorem dX6_hole_51 : decode cX6_hole 51 = .ok (.if_icmp .gt 34, 3) := by decide +kernel
theorem dX6_hole_54 : decode cX6_hole 54 = .ok (.aload_n 0, 1) := by decide +kernel
theorem dX6_hole_55 : decode cX6_hole 55 = .ok (.iload_n 1, 1) := by decide +kernel
theorem dX6_hole_56 : decode cX6_hole 56 = .ok (.iload_n 2, 1) := by decide +kernel
theorem dX6_hole_57 : decode cX6_hole 57 = .ok (.iload 6, 2) := by decide +kernel
theorem dX6_hole_59 : decode cX6_hole 59 = .ok (.invokevirtual 199, 3) := by decide +kernel
theorem dX6_hole_62 : decode cX6_hole 62 = .ok (.istore 7, 2) := by decide +kernel
theorem dX6_hole_64 : decode cX6_hole 64 = .ok (.iload 7, 2) := by decide +kernel
theorem dX6_hole_66 : decode cX6_hole 66 = .ok (.iload 5, 2) := by decide +kernel
theorem dX6_hole_68 : decode cX6_hole 68 = .ok (.if_icmp .ge 11, 3) := by decide +kernel
theorem dX6_hole_71 : decode cX6_hole 71 = .ok (.iload 6, 2) := by decide +kernel
theorem dX6_hole_73 : decode cX6_hole 73 = .ok (.istore 4, 2) := by decide +kernel
theorem dX6_hole_75 : decode cX6_hole 75 = .ok (.iload 7, 2) := by decide +kernel
theorem dX6_hole_77 : decode cX6_hole 77 = .ok (.istore 5, 2) := by decide +kernel
theorem dX6_hole_79 : decode cX6_hole 79 = .ok (.iinc 6 1, 3) := by decide +kernel
theorem dX6_hole_82 : decode cX6_hole 82 = .ok (.goto (-35), 3) := by decide +kernel
theorem dX6_hole_85 : decode cX6_hole 85 = .ok (.iload_n 3, 1) := by decide +kernel
theorem dX6_hole_86 : decode cX6_hole 86 = .ok (.ifCond .ne 8, 3) := by decide +kernel
theorem dX6_hole_89 : decode cX6_hole 89 = .ok (.iload 4, 2) := by decide +kernel
theorem dX6_hole_91 : decode cX6_hole 91 = .ok (.goto 5, 3) := by decide +kernel
theorem dX6_hole_94 : decode cX6_hole 94 = .ok (.iload 5, 2) := by decide +kernel
theorem dX6_hole_96 : decode cX6_hole 96 = .ok (.ireturn, 1) := by decide +kernel
theorem dX6_beat_0 : decode cX6_beat 0 = .ok (.iload_n 1, 1) := by decide +kernel
theorem dX6_beat_1 : decode cX6_beat 1 = .ok (.iconst 0, 1) := by decide +kernel
theorem dX6_beat_2 : decode cX6_beat 2 = .ok (.bipush 7, 2) := by decide +kernel
theorem dX6_beat_4 : decode cX6_beat 4 = .ok (.invokestatic 81, 3) := by decide +kernel
theorem dX6_beat_7 : decode cX6_beat 7 = .ok (.ifCond .ne 19, 3) := by decide +kernel
theorem dX6_beat_10 : decode cX6_beat 10 = .ok (.iload_n 2, 1) := by decide +kernel
theorem dX6_beat_11 : decode cX6_beat 11 = .ok (.iconst 0, 1) := by decide +kernel
theorem dX6_beat_12 : decode cX6_beat 12 = .ok (.iconst 4, 1) := by decide +kernel
theorem dX6_beat_13 : decode cX6_beat 13 = .ok (.invokestatic 81, 3) := by decide +kernel
theorem dX6_beat_16 : decode cX6_beat 16 = .ok (.ifCond .ne 10, 3) := by decide +kernel
theorem dX6_beat_19 : decode cX6_beat 19 = .ok (.iload_n 3, 1) := by decide +kernel
theorem dX6_beat_20 : decode cX6_beat 20 = .ok (.invokestatic 185, 3) := by decide +kernel
theorem dX6_beat_23 : decode cX6_beat 23 = .ok (.ifCond .eq 11, 3) := by decide +kernel
theorem dX6_beat_26 : decode cX6_beat 26 = .ok (.aload_n 0, 1) := by decide +kernel
theorem dX6_beat_27 : decode cX6_beat 27 = .ok (.sipush (-1002), 3) := by decide +kernel
theorem dX6_beat_30 : decode cX6_beat 30 = .ok (.invokevirtual 85, 3) := by decide +kernel
theorem dX6_beat_33 : decode cX6_beat 33 = .ok (.ireturn, 1) := by decide +kernel
theorem dX6_beat_34 : decode cX6_beat 34 = .ok (.aload_n 0, 1) := by decide +kernel
theorem dX6_beat_35 : decode cX6_beat 35 = .ok (.getfield 10, 3) := by decide +kernel
theorem dX6_beat_38 : decode cX6_beat 38 = .ok (.getfield 202, 3) := by decide +kernel
theorem dX6_beat_41 : decode cX6_beat 41 = .ok (.iload_n 1, 1) := by decide +kernel
theorem dX6_beat_42 : decode cX6_beat 42 = .ok (.invokestatic 195, 3) := by decide +kernel
theorem dX6_beat_45 : decode cX6_beat 45 = .ok (.istore 4, 2) := by decide +kernel
theorem dX6_beat_47 : decode cX6_beat 47 = .ok (.aload_n 0, 1) := by decide +kernel
theorem dX6_beat_48 : decode cX6_beat 48 = .ok (.getfield 10, 3) := by decide +kernel
theorem dX6_beat_51 : decode cX6_beat 51 = .ok (.getfield 202, 3) := by decide +kernel
theorem dX6_beat_54 : decode cX6_beat 54 = .ok (.iload_n 1, 1) := by decide +kernel
theorem dX6_beat_55 : decode cX6_beat 55 = .ok (.iload_n 2, 1) := by decide +kernel
theorem dX6_beat_56 : decode cX6_beat 56 = .ok (.invokestatic 151, 3) := by decide +kernel
theorem dX6_beat_59 : decode cX6_beat 59 = .ok (.aload_n 0, 1) := by decide +kernel
theorem dX6_beat_60 : decode cX6_beat 60 = .ok (.getfield 10, 3) := by decide +kernel
theorem dX6_beat_63 : decode cX6_beat 63 = .ok (.getfield 205, 3) := by decide +kernel
theorem dX6_beat_66 : decode cX6_beat 66 = .ok (.iload_n 1, 1) := by decide +kernel
theorem dX6_beat_67 : decode cX6_beat 67 = .ok (.iload_n 3, 1) := by decide +kernel
theorem dX6_beat_68 : decode cX6_beat 68 = .ok (.invokestatic 151, 3) := by decide +kernel
theorem dX6_beat_71 : decode cX6_beat 71 = .ok (.iload 4, 2) := by decide +kernel
theorem dX6_beat_73 : decode cX6_beat 73 = .ok (.ireturn, 1) := by decide +kernel
theorem dX6_dance_0 : decode cX6_dance 0 = .ok (.iload_n 1, 1) := by decide +kernel
theorem dX6_dance_1 : decode cX6_dance 1 = .ok (.iconst 0, 1) := by decide +kernel
theorem dX6_dance_2 : decode cX6_dance 2 = .ok (.bipush 6, 2) := by decide +kernel
theorem dX6_dance_4 : decode cX6_dance 4 = .ok (.invokestatic 81, 3) := by decide +kernel
theorem dX6_dance_7 : decode cX6_dance 7 = .ok (.ifCond .eq 11, 3) := by decide +kernel
theorem dX6_dance_10 : decode cX6_dance 10 = .ok (.aload_n 0, 1) := by decide +kernel
theorem dX6_dance_11 : decode cX6_dance 11 = .ok (.sipush (-1002), 3) := by decide +kernel
theorem dX6_dance_14 : decode cX6_dance 14 = .ok (.invokevirtual 85, 3) := by decide +kernel
theorem dX6_dance_17 : decode cX6_dance 17 = .ok (.ireturn, 1) := by decide +kernel
theorem dX6_dance_18 : decode cX6_dance 18 = .ok (.aload_n 0, 1) := by decide +kernel
theorem dX6_dance_19 : decode cX6_dance 19 = .ok (.getfield 10, 3) := by decide +kernel
theorem dX6_dance_22 : decode cX6_dance 22 = .ok (.getfield 208, 3) := by decide +kernel
theorem dX6_dance_25 : decode cX6_dance 25 = .ok (.istore_n 2, 1) := by decide +kernel
theorem dX6_dance_26 : decode cX6_dance 26 = .ok (.aload_n 0, 1) := by decide +kernel
theorem dX6_dance_27 : decode cX6_dance 27 = .ok (.getfield 10, 3) := by decide +kernel
theorem dX6_dance_30 : decode cX6_dance 30 = .ok (.iload_n 1, 1) := by decide +kernel
theorem dX6_dance_31 : decode cX6_dance 31 = .ok (.putfield 208, 3) := by decide +kernel
theorem dX6_dance_34 : decode cX6_dance 34 = .ok (.iload_n 2, 1) := by decide +kernel
theorem dX6_dance_35 : decode cX6_dance 35 = .ok (.ireturn, 1) := by decide +kernel
theorem dX6_comesOut_0 : decode cX6_comesOut 0 = .ok (.aload_n 0, 1) := by decide +kernel
theorem dX6_comesOut_1 : decode cX6_comesOut 1 = .ok (.aload_n 0, 1) := by decide +kernel
theorem dX6_comesOut_2 : decode cX6_comesOut 2 = .ok (.getfield 10, 3) := by decide +kernel
theorem dX6_comesOut_5 : decode cX6_comesOut 5 = .ok (.getfield 208, 3) := by decide +kernel
theorem dX6_comesOut_8 : decode cX6_comesOut 8 = .ok (.invokevirtual 138, 3) := by decide +kernel
theorem dX6_comesOut_11 : decode cX6_comesOut 11 = .ok (.ifCond .eq 5, 3) := by decide +kernel
theorem dX6_comesOut_14 : decode cX6_comesOut 14 = .ok (.iconst 0, 1) := by decide +kernel
theorem dX6_comesOut_15 : decode cX6_comesOut 15 = .ok (.ireturn, 1) := by decide +kernel
theorem dX6_comesOut_16 : decode cX6_comesOut 16 = .ok (.iconst 0, 1) := by decide +kernel
theorem dX6_comesOut_17 : decode cX6_comesOut 17 = .ok (.istore_n 1, 1) := by decide +kernel
theorem dX6_comesOut_18 : decode cX6_comesOut 18 = .ok (.aload_n 0, 1) := by decide +kernel
theorem dX6_comesOut_19 : decode cX6_comesOut 19 = .ok (.getfield 56, 3) := by decide +kernel
theorem dX6_comesOut_22 : decode cX6_comesOut 22 = .ok (.aload_n 0, 1) := by decide +kernel
theorem dX6_comesOut_23 : decode cX6_comesOut 23 = .ok (.getfield 10, 3) := by decide +kernel
theorem dX6_comesOut_26 : decode cX6_comesOut 26 = .ok (.getfield 118, 3) := by decide +kernel
theorem dX6_comesOut_29 : decode cX6_comesOut 29 = .ok (.invokevirtual 211, 3) := by decide +kernel
theorem dX6_comesOut_32 : decode cX6_comesOut 32 = .ok (.iconst 0, 1) := by decide +kernel
theorem dX6_comesOut_33 : decode cX6_comesOut 33 = .ok (.istore_n 2, 1) := by decide +kernel
theorem dX6_comesOut_34 : decode cX6_comesOut 34 = .ok (.iload_n 2, 1) := by decide +kernel
theorem dX6_comesOut_35 : decode cX6_comesOut 35 = .ok (.bipush 8, 2) := by decide +kernel
theorem dX6_comesOut_37 : decode cX6_comesOut 37 = .ok (.if_icmp .ge 66, 3) := by decide +kernel
theorem dX6_comesOut_40 : decode cX6_comesOut 40 = .ok (.aload_n 0, 1) := by decide +kernel
theorem dX6_comesOut_41 : decode cX6_comesOut 41 = .ok (.getfield 10, 3) := by decide +kernel
theorem dX6_comesOut_44 : decode cX6_comesOut 44 = .ok (.aload_n 0, 1) := by decide +kernel
theorem dX6_comesOut_45 : decode cX6_comesOut 45 = .ok (.getfield 56, 3) := by decide +kernel
theorem dX6_comesOut_48 : decode cX6_comesOut 48 = .ok (.aload_n 0, 1) := by decide +kernel
theorem dX6_comesOut_49 : decode cX6_comesOut 49 = .ok (.getfield 10, 3) := by decide +kernel
theorem dX6_comesOut_52 : decode cX6_comesOut 52 = .ok (.getfield 202, 3) := by decide +kernel
theorem dX6_comesOut_55 : decode cX6_comesOut 55 = .ok (.iload_n 2, 1) := by decide +kernel
theorem dX6_comesOut_56 : decode cX6_comesOut 56 = .ok (.invokestatic 195, 3) := by decide +kernel
theorem dX6_comesOut_59 : decode cX6_comesOut 59 = .ok (.invokevirtual 130, 3) := by decide +kernel
theorem dX6_comesOut_62 : decode cX6_comesOut 62 = .ok (.aload_n 0, 1) := by decide +kernel
theorem dX6_comesOut_63 : decode cX6_comesOut 63 = .ok (.getfield 10, 3) := by decide +kernel
theorem dX6_comesOut_66 : decode cX6_comesOut 66 = .ok (.aload_n 0, 1) := by decide +kernel
theorem dX6_comesOut_67 : decode cX6_comesOut 67 = .ok (.getfield 56, 3) := by decide +kernel
theorem dX6_comesOut_70 : decode cX6_comesOut 70 = .ok (.aload_n 0, 1) := by decide +kernel
theorem dX6_comesOut_71 : decode cX6_comesOut 71 = .ok (.getfield 10, 3) := by decide +kernel
theorem dX6_comesOut_74 : decode cX6_comesOut 74 = .ok (.getfield 208, 3) := by decide +kernel
theorem dX6_comesOut_77 : decode cX6_comesOut 77 = .ok (.invokevirtual 214, 3) := by decide +kernel
theorem dX6_comesOut_80 : decode cX6_comesOut 80 = .ok (.aload_n 0, 1) := by decide +kernel
theorem dX6_comesOut_81 : decode cX6_comesOut 81 = .ok (.getfield 10, 3) := by decide +kernel
theorem dX6_comesOut_84 : decode cX6_comesOut 84 = .ok (.getfield 205, 3) := by decide +kernel
theorem dX6_comesOut_87 : decode cX6_comesOut 87 = .ok (.iload_n 2, 1) := by decide +kernel
theorem dX6_comesOut_88 : decode cX6_comesOut 88 = .ok (.invokestatic 195, 3) := by decide +kernel
theorem dX6_comesOut_91 : decode cX6_comesOut 91 = .ok (.if_icmp .ne 6, 3) := by decide +kernel
theorem dX6_comesOut_94 : decode cX6_comesOut 94 = .ok (.iinc 1 1, 3) := by decide +kernel
theorem dX6_comesOut_97 : decode cX6_comesOut 97 = .ok (.iinc 2 1, 3) := by decide +kernel
theorem dX6_comesOut_100 : decode cX6_comesOut 100 = .ok (.goto (-66), 3) := by decide +kernel
theorem dX6_comesOut_103 : decode cX6_comesOut 103 = .ok (.iload_n 1, 1) := by decide +kernel
theorem dX6_comesOut_104 : decode cX6_comesOut 104 = .ok (.ireturn, 1) := by decide +kernel
theorem dX6_snaps_0 : decode cX6_snaps 0 = .ok (.aload_n 0, 1) := by decide +kernel
theorem dX6_snaps_1 : decode cX6_snaps 1 = .ok (.getfield 56, 3) := by decide +kernel
theorem dX6_snaps_4 : decode cX6_snaps 4 = .ok (.aload_n 0, 1) := by decide +kernel
theorem dX6_snaps_5 : decode cX6_snaps 5 = .ok (.getfield 10, 3) := by decide +kernel
theorem dX6_snaps_8 : decode cX6_snaps 8 = .ok (.getfield 118, 3) := by decide +kernel
theorem dX6_snaps_11 : decode cX6_snaps 11 = .ok (.invokevirtual 211, 3) := by decide +kernel
theorem dX6_snaps_14 : decode cX6_snaps 14 = .ok (.aload_n 0, 1) := by decide +kernel
theorem dX6_snaps_15 : decode cX6_snaps 15 = .ok (.getfield 10, 3) := by decide +kernel
theorem dX6_snaps_18 : decode cX6_snaps 18 = .ok (.aload_n 0, 1) := by decide +kernel
theorem dX6_snaps_19 : decode cX6_snaps 19 = .ok (.getfield 56, 3) := by decide +kernel
theorem dX6_snaps_22 : decode cX6_snaps 22 = .ok (.invokevirtual 134, 3) := by decide +kernel
theorem dX6_snaps_25 : decode cX6_snaps 25 = .ok (.istore_n 1, 1) := by decide +kernel
theorem dX6_snaps_26 : decode cX6_snaps 26 = .ok (.iconst 0, 1) := by decide +kernel
theorem dX6_snaps_27 : decode cX6_snaps 27 = .ok (.istore_n 2, 1) := by decide +kernel
theorem dX6_snaps_28 : decode cX6_snaps 28 = .ok (.iload_n 2, 1) := by decide +kernel
theorem dX6_snaps_29 : decode cX6_snaps 29 = .ok (.bipush 8, 2) := by decide +kernel
theorem dX6_snaps_31 : decode cX6_snaps 31 = .ok (.if_icmp .ge 48, 3) := by decide +kernel
theorem dX6_snaps_34 : decode cX6_snaps 34 = .ok (.aload_n 0, 1) := by decide +kernel
theorem dX6_snaps_35 : decode cX6_snaps 35 = .ok (.getfield 10, 3) := by decide +kernel
theorem dX6_snaps_38 : decode cX6_snaps 38 = .ok (.aload_n 0, 1) := by decide +kernel
theorem dX6_snaps_39 : decode cX6_snaps 39 = .ok (.getfield 56, 3) := by decide +kernel
theorem dX6_snaps_42 : decode cX6_snaps 42 = .ok (.aload_n 0, 1) := by decide +kernel
theorem dX6_snaps_43 : decode cX6_snaps 43 = .ok (.getfield 10, 3) := by decide +kernel
theorem dX6_snaps_46 : decode cX6_snaps 46 = .ok (.getfield 202, 3) := by decide +kernel
theorem dX6_snaps_49 : decode cX6_snaps 49 = .ok (.iload_n 2, 1) := by decide +kernel
theorem dX6_snaps_50 : decode cX6_snaps 50 = .ok (.invokestatic 195, 3) := by decide +kernel
theorem dX6_snaps_53 : decode cX6_snaps 53 = .ok (.invokevirtual 130, 3) := by decide +kernel
theorem dX6_snaps_56 : decode cX6_snaps 56 = .ok (.aload_n 0, 1) := by decide +kernel
theorem dX6_snaps_57 : decode cX6_snaps 57 = .ok (.getfield 10, 3) := by decide +kernel
theorem dX6_snaps_60 : decode cX6_snaps 60 = .ok (.aload_n 0, 1) := by decide +kernel
theorem dX6_snaps_61 : decode cX6_snaps 61 = .ok (.getfield 56, 3) := by decide +kernel
theorem dX6_snaps_64 : decode cX6_snaps 64 = .ok (.invokevirtual 134, 3) := by decide +kernel
theorem dX6_snaps_67 : decode cX6_snaps 67 = .ok (.iload_n 1, 1) := by decide +kernel
theorem dX6_snaps_68 : decode cX6_snaps 68 = .ok (.if_icmp .le 5, 3) := by decide +kernel
theorem dX6_snaps_71 : decode cX6_snaps 71 = .ok (.iload_n 2, 1) := by decide +kernel
theorem dX6_snaps_72 : decode cX6_snaps 72 = .ok (.ireturn, 1) := by decide +kernel
theorem dX6_snaps_73 : decode cX6_snaps 73 = .ok (.iinc 2 1, 3) := by decide +kernel
theorem dX6_snaps_76 : decode cX6_snaps 76 = .ok (.goto (-48), 3) := by decide +kernel
theorem dX6_snaps_79 : decode cX6_snaps 79 = .ok (.sipush (-1001), 3) := by decide +kernel
theorem dX6_snaps_82 : decode cX6_snaps 82 = .ok (.ireturn, 1) := by decide +kernel
theorem dX6_seen_0 : decode cX6_seen 0 = .ok (.aload_n 0, 1) := by decide +kernel
theorem dX6_seen_1 : decode cX6_seen 1 = .ok (.iload_n 1, 1) := by decide +kernel
theorem dX6_seen_2 : decode cX6_seen 2 = .ok (.invokevirtual 138, 3) := by decide +kernel
theorem dX6_seen_5 : decode cX6_seen 5 = .ok (.ifCond .ne 31, 3) := by decide +kernel
theorem dX6_seen_8 : decode cX6_seen 8 = .ok (.iload_n 2, 1) := by decide +kernel
theorem dX6_seen_9 : decode cX6_seen 9 = .ok (.iconst 1, 1) := by decide +kernel
theorem dX6_seen_10 : decode cX6_seen 10 = .ok (.bipush 20, 2) := by decide +kernel
theorem dX6_seen_12 : decode cX6_seen 12 = .ok (.invokestatic 81, 3) := by decide +kernel
theorem dX6_seen_15 : decode cX6_seen 15 = .ok (.ifCond .ne 21, 3) := by decide +kernel
theorem dX6_seen_18 : decode cX6_seen 18 = .ok (.iload_n 3, 1) := by decide +kernel
theorem dX6_seen_19 : decode cX6_seen 19 = .ok (.iconst 0, 1) := by decide +kernel
theorem dX6_seen_20 : decode cX6_seen 20 = .ok (.bipush 60, 2) := by decide +kernel
theorem dX6_seen_22 : decode cX6_seen 22 = .ok (.invokestatic 81, 3) := by decide +kernel
theorem dX6_seen_25 : decode cX6_seen 25 = .ok (.ifCond .ne 11, 3) := by decide +kernel
theorem dX6_seen_28 : decode cX6_seen 28 = .ok (.iload 4, 2) := by decide +kernel
theorem dX6_seen_30 : decode cX6_seen 30 = .ok (.invokestatic 185, 3) := by decide +kernel
theorem dX6_seen_33 : decode cX6_seen 33 = .ok (.ifCond .eq 11, 3) := by decide +kernel
theorem dX6_seen_36 : decode cX6_seen 36 = .ok (.aload_n 0, 1) := by decide +kernel
theorem dX6_seen_37 : decode cX6_seen 37 = .ok (.sipush (-1002), 3) := by decide +kernel
theorem dX6_seen_40 : decode cX6_seen 40 = .ok (.invokevirtual 85, 3) := by decide +kernel
theorem dX6_seen_43 : decode cX6_seen 43 = .ok (.ireturn, 1) := by decide +kernel
theorem dX6_seen_44 : decode cX6_seen 44 = .ok (.aload_n 0, 1) := by decide +kernel
theorem dX6_seen_45 : decode cX6_seen 45 = .ok (.getfield 10, 3) := by decide +kernel
theorem dX6_seen_48 : decode cX6_seen 48 = .ok (.getfield 218, 3) := by decide +kernel
theorem dX6_seen_51 : decode cX6_seen 51 = .ok (.invokevirtual 222, 3) := by decide +kernel
theorem dX6_seen_54 : decode cX6_seen 54 = .ok (.ifCond .eq 8, 3) := by decide +kernel
theorem dX6_seen_57 : decode cX6_seen 57 = .ok (.aload_n 0, 1) := by decide +kernel
theorem dX6_seen_58 : decode cX6_seen 58 = .ok (.invokevirtual 96, 3) := by decide +kernel
theorem dX6_seen_61 : decode cX6_seen 61 = .ok (.ireturn, 1) := by decide +kernel
theorem dX6_seen_62 : decode cX6_seen 62 = .ok (.aload_n 0, 1) := by decide +kernel
theorem dX6_seen_63 : decode cX6_seen 63 = .ok (.getfield 10, 3) := by decide +kernel
theorem dX6_seen_66 : decode cX6_seen 66 = .ok (.getfield 218, 3) := by decide +kernel
theorem dX6_seen_69 : decode cX6_seen 69 = .ok (.iload_n 1, 1) := by decide +kernel
theorem dX6_seen_70 : decode cX6_seen 70 = .ok (.iload_n 2, 1) := by decide +kernel
theorem dX6_seen_71 : decode cX6_seen 71 = .ok (.iload_n 3, 1) := by decide +kernel
theorem dX6_seen_72 : decode cX6_seen 72 = .ok (.iload 4, 2) := by decide +kernel
theorem dX6_seen_74 : decode cX6_seen 74 = .ok (.iconst 0, 1) := by decide +kernel
theorem dX6_seen_75 : decode cX6_seen 75 = .ok (.invokevirtual 228, 3) := by decide +kernel
theorem dX6_seen_78 : decode cX6_seen 78 = .ok (.ireturn, 1) := by decide +kernel
theorem dX6_heavy_0 : decode cX6_heavy 0 = .ok (.aload_n 0, 1) := by decide +kernel
theorem dX6_heavy_1 : decode cX6_heavy 1 = .ok (.iload_n 1, 1) := by decide +kernel
theorem dX6_heavy_2 : decode cX6_heavy 2 = .ok (.invokevirtual 138, 3) := by decide +kernel
theorem dX6_heavy_5 : decode cX6_heavy 5 = .ok (.ifCond .ne 12, 3) := by decide +kernel
theorem dX6_heavy_8 : decode cX6_heavy 8 = .ok (.iload_n 2, 1) := by decide +kernel
theorem dX6_heavy_9 : decode cX6_heavy 9 = .ok (.iconst 0, 1) := by decide +kernel
theorem dX6_heavy_10 : decode cX6_heavy 10 = .ok (.iconst 2, 1) := by decide +kernel
theorem dX6_heavy_11 : decode cX6_heavy 11 = .ok (.invokestatic 81, 3) := by decide +kernel
theorem dX6_heavy_14 : decode cX6_heavy 14 = .ok (.ifCond .eq 11, 3) := by decide +kernel
theorem dX6_heavy_17 : decode cX6_heavy 17 = .ok (.aload_n 0, 1) := by decide +kernel
theorem dX6_heavy_18 : decode cX6_heavy 18 = .ok (.sipush (-1002), 3) := by decide +kernel
theorem dX6_heavy_21 : decode cX6_heavy 21 = .ok (.invokevirtual 85, 3) := by decide +kernel
theorem dX6_heavy_24 : decode cX6_heavy 24 = .ok (.ireturn, 1) := by decide +kernel
theorem dX6_heavy_25 : decode cX6_heavy 25 = .ok (.aload_n 0, 1) := by decide +kernel
theorem dX6_heavy_26 : decode cX6_heavy 26 = .ok (.iload_n 1, 1) := by decide +kernel
theorem dX6_heavy_27 : decode cX6_heavy 27 = .ok (.invokevirtual 230, 3) := by decide +kernel
theorem dX6_heavy_30 : decode cX6_heavy 30 = .ok (.istore_n 3, 1) := by decide +kernel
theorem dX6_heavy_31 : decode cX6_heavy 31 = .ok (.iload_n 2, 1) := by decide +kernel
theorem dX6_heavy_32 : decode cX6_heavy 32 = .ok (.ifCond .ne 8, 3) := by decide +kernel
theorem dX6_heavy_35 : decode cX6_heavy 35 = .ok (.iload_n 3, 1) := by decide +kernel
theorem dX6_heavy_36 : decode cX6_heavy 36 = .ok (.invokestatic 233, 3) := by decide +kernel
theorem dX6_heavy_39 : decode cX6_heavy 39 = .ok (.ireturn, 1) := by decide +kernel
theorem dX6_heavy_40 : decode cX6_heavy 40 = .ok (.iload_n 3, 1) := by decide +kernel
theorem dX6_heavy_41 : decode cX6_heavy 41 = .ok (.ifCond .ne 7, 3) := by decide +kernel
theorem dX6_heavy_44 : decode cX6_heavy 44 = .ok (.sipush (-1001), 3) := by decide +kernel
theorem dX6_heavy_47 : decode cX6_heavy 47 = .ok (.ireturn, 1) := by decide +kernel
theorem dX6_heavy_48 : decode cX6_heavy 48 = .ok (.iload_n 2, 1) := by decide +kernel
theorem dX6_heavy_49 : decode cX6_heavy 49 = .ok (.iconst 1, 1) := by decide +kernel
theorem dX6_heavy_50 : decode cX6_heavy 50 = .ok (.if_icmp .ne 10, 3) := by decide +kernel
theorem dX6_heavy_53 : decode cX6_heavy 53 = .ok (.iload_n 3, 1) := by decide +kernel
theorem dX6_heavy_54 : decode cX6_heavy 54 = .ok (.invokestatic 238, 3) := by decide +kernel
theorem dX6_heavy_57 : decode cX6_heavy 57 = .ok (.goto 7, 3) := by decide +kernel
theorem dX6_heavy_60 : decode cX6_heavy 60 = .ok (.iload_n 3, 1) := by decide +kernel
theorem dX6_heavy_61 : decode cX6_heavy 61 = .ok (.invokestatic 241, 3) := by decide +kernel
theorem dX6_heavy_64 : decode cX6_heavy 64 = .ok (.ireturn, 1) := by decide +kernel
theorem dX6_tell_0 : decode cX6_tell 0 = .ok (.aload_n 0, 1) := by decide +kernel
theorem dX6_tell_1 : decode cX6_tell 1 = .ok (.iload_n 1, 1) := by decide +kernel
theorem dX6_tell_2 : decode cX6_tell 2 = .ok (.invokevirtual 138, 3) := by decide +kernel
theorem dX6_tell_5 : decode cX6_tell 5 = .ok (.ifCond .eq 11, 3) := by decide +kernel
theorem dX6_tell_8 : decode cX6_tell 8 = .ok (.aload_n 0, 1) := by decide +kernel
theorem dX6_tell_9 : decode cX6_tell 9 = .ok (.sipush (-1002), 3) := by decide +kernel
theorem dX6_tell_12 : decode cX6_tell 12 = .ok (.invokevirtual 85, 3) := by decide +kernel
theorem dX6_tell_15 : decode cX6_tell 15 = .ok (.ireturn, 1) := by decide +kernel
theorem dX6_tell_16 : decode cX6_tell 16 = .ok (.aload_n 0, 1) := by decide +kernel
theorem dX6_tell_17 : decode cX6_tell 17 = .ok (.iload_n 1, 1) := by decide +kernel
theorem dX6_tell_18 : decode cX6_tell 18 = .ok (.invokevirtual 230, 3) := by decide +kernel
theorem dX6_tell_21 : decode cX6_tell 21 = .ok (.istore_n 2, 1) := by decide +kernel
theorem dX6_tell_22 : decode cX6_tell 22 = .ok (.iload_n 2, 1) := by decide +kernel
theorem dX6_tell_23 : decode cX6_tell 23 = .ok (.ifCond .ne 7, 3) := by decide +kernel
theorem dX6_tell_26 : decode cX6_tell 26 = .ok (.sipush (-1001), 3) := by decide +kernel
theorem dX6_tell_29 : decode cX6_tell 29 = .ok (.ireturn, 1) := by decide +kernel
theorem dX6_tell_30 : decode cX6_tell 30 = .ok (.iconst 1, 1) := by decide +kernel
theorem dX6_tell_31 : decode cX6_tell 31 = .ok (.istore_n 3, 1) := by decide +kernel
theorem dX6_tell_32 : decode cX6_tell 32 = .ok (.aload_n 0, 1) := by decide +kernel
theorem dX6_tell_33 : decode cX6_tell 33 = .ok (.iload_n 1, 1) := by decide +kernel
theorem dX6_tell_34 : decode cX6_tell 34 = .ok (.iload_n 2, 1) := by decide +kernel
theorem dX6_tell_35 : decode cX6_tell 35 = .ok (.iconst 1, 1) := by decide +kernel
theorem dX6_tell_36 : decode cX6_tell 36 = .ok (.invokevirtual 244, 3) := by decide +kernel
theorem dX6_tell_39 : decode cX6_tell 39 = .ok (.istore 4, 2) := by decide +kernel
theorem dX6_tell_41 : decode cX6_tell 41 = .ok (.iconst 2, 1) := by decide +kernel
theorem dX6_tell_42 : decode cX6_tell 42 = .ok (.istore 5, 2) := by decide +kernel
theorem dX6_tell_44 : decode cX6_tell 44 = .ok (.iload 5, 2) := by decide +kernel
theorem dX6_tell_46 : decode cX6_tell 46 = .ok (.bipush 20, 2) := by decide +kernel
theorem dX6_tell_48 : decode cX6_tell 48 = .ok (.if_icmp .gt 33, 3) := by decide +kernel
theorem dX6_tell_51 : decode cX6_tell 51 = .ok (.aload_n 0, 1) := by decide +kernel
theorem dX6_tell_52 : decode cX6_tell 52 = .ok (.iload_n 1, 1) := by decide +kernel
theorem dX6_tell_53 : decode cX6_tell 53 = .ok (.iload_n 2, 1) := by decide +kernel
theorem dX6_tell_54 : decode cX6_tell 54 = .ok (.iload 5, 2) := by decide +kernel
theorem dX6_tell_56 : decode cX6_tell 56 = .ok (.invokevirtual 244, 3) := by decide +kernel
theorem dX6_tell_59 : decode cX6_tell 59 = .ok (.istore 6, 2) := by decide +kernel
theorem dX6_tell_61 : decode cX6_tell 61 = .ok (.iload 6, 2) := by decide +kernel
theorem dX6_tell_63 : decode cX6_tell 63 = .ok (.iload 4, 2) := by decide +kernel
theorem dX6_tell_65 : decode cX6_tell 65 = .ok (.if_icmp .ge 10, 3) := by decide +kernel
theorem dX6_tell_68 : decode cX6_tell 68 = .ok (.iload 5, 2) := by decide +kernel
theorem dX6_tell_70 : decode cX6_tell 70 = .ok (.istore_n 3, 1) := by decide +kernel
theorem dX6_tell_71 : decode cX6_tell 71 = .ok (.iload 6, 2) := by decide +kernel
theorem dX6_tell_73 : decode cX6_tell 73 = .ok (.istore 4, 2) := by decide +kernel
theorem dX6_tell_75 : decode cX6_tell 75 = .ok (.iinc 5 1, 3) := by decide +kernel
theorem dX6_tell_78 : decode cX6_tell 78 = .ok (.goto (-34), 3) := by decide +kernel
theorem dX6_tell_81 : decode cX6_tell 81 = .ok (.iload_n 3, 1) := by decide +kernel
theorem dX6_tell_82 : decode cX6_tell 82 = .ok (.ireturn, 1) := by decide +kernel
theorem dX6_note_0 : decode cX6_note 0 = .ok (.aload_n 0, 1) := by decide +kernel
theorem dX6_note_1 : decode cX6_note 1 = .ok (.iload_n 1, 1) := by decide +kernel
theorem dX6_note_2 : decode cX6_note 2 = .ok (.invokevirtual 138, 3) := by decide +kernel
theorem dX6_note_5 : decode cX6_note 5 = .ok (.ifCond .ne 45, 3) := by decide +kernel
theorem dX6_note_8 : decode cX6_note 8 = .ok (.iload_n 2, 1) := by decide +kernel
theorem dX6_note_9 : decode cX6_note 9 = .ok (.iconst 1, 1) := by decide +kernel
theorem dX6_note_10 : decode cX6_note 10 = .ok (.bipush 20, 2) := by decide +kernel
theorem dX6_note_12 : decode cX6_note 12 = .ok (.invokestatic 81, 3) := by decide +kernel
theorem dX6_note_15 : decode cX6_note 15 = .ok (.ifCond .ne 35, 3) := by decide +kernel
theorem dX6_note_18 : decode cX6_note 18 = .ok (.iload_n 3, 1) := by decide +kernel
theorem dX6_note_19 : decode cX6_note 19 = .ok (.iconst 1, 1) := by decide +kernel
theorem dX6_note_20 : decode cX6_note 20 = .ok (.bipush 9, 2) := by decide +kernel
theorem dX6_note_22 : decode cX6_note 22 = .ok (.invokestatic 81, 3) := by decide +kernel
theorem dX6_note_25 : decode cX6_note 25 = .ok (.ifCond .ne 25, 3) := by decide +kernel
theorem dX6_note_28 : decode cX6_note 28 = .ok (.iload 4, 2) := by decide +kernel
theorem dX6_note_30 : decode cX6_note 30 = .ok (.iconst 0, 1) := by decide +kernel
theorem dX6_note_31 : decode cX6_note 31 = .ok (.bipush 99, 2) := by decide +kernel
theorem dX6_note_33 : decode cX6_note 33 = .ok (.invokestatic 81, 3) := by decide +kernel
theorem dX6_note_36 : decode cX6_note 36 = .ok (.ifCond .ne 14, 3) := by decide +kernel
theorem dX6_note_39 : decode cX6_note 39 = .ok (.iload 5, 2) := by decide +kernel
theorem dX6_note_41 : decode cX6_note 41 = .ok (.iconst 0, 1) := by decide +kernel
theorem dX6_note_42 : decode cX6_note 42 = .ok (.bipush 60, 2) := by decide +kernel
theorem dX6_note_44 : decode cX6_note 44 = .ok (.invokestatic 81, 3) := by decide +kernel
theorem dX6_note_47 : decode cX6_note 47 = .ok (.ifCond .eq 11, 3) := by decide +kernel
theorem dX6_note_50 : decode cX6_note 50 = .ok (.aload_n 0, 1) := by decide +kernel
theorem dX6_note_51 : decode cX6_note 51 = .ok (.sipush (-1002), 3) := by decide +kernel
theorem dX6_note_54 : decode cX6_note 54 = .ok (.invokevirtual 85, 3) := by decide +kernel
theorem dX6_note_57 : decode cX6_note 57 = .ok (.ireturn, 1) := by decide +kernel
theorem dX6_note_58 : decode cX6_note 58 = .ok (.aload_n 0, 1) := by decide +kernel
theorem dX6_note_59 : decode cX6_note 59 = .ok (.getfield 10, 3) := by decide +kernel
theorem dX6_note_62 : decode cX6_note 62 = .ok (.getfield 247, 3) := by decide +kernel
theorem dX6_note_65 : decode cX6_note 65 = .ok (.invokevirtual 222, 3) := by decide +kernel
theorem dX6_note_68 : decode cX6_note 68 = .ok (.ifCond .eq 8, 3) := by decide +kernel
theorem dX6_note_71 : decode cX6_note 71 = .ok (.aload_n 0, 1) := by decide +kernel
theorem dX6_note_72 : decode cX6_note 72 = .ok (.invokevirtual 96, 3) := by decide +kernel
theorem dX6_note_75 : decode cX6_note 75 = .ok (.ireturn, 1) := by decide +kernel
theorem dX6_note_76 : decode cX6_note 76 = .ok (.aload_n 0, 1) := by decide +kernel
theorem dX6_note_77 : decode cX6_note 77 = .ok (.getfield 10, 3) := by decide +kernel
theorem dX6_note_80 : decode cX6_note 80 = .ok (.getfield 247, 3) := by decide +kernel
theorem dX6_note_83 : decode cX6_note 83 = .ok (.iload_n 1, 1) := by decide +kernel
theorem dX6_note_84 : decode cX6_note 84 = .ok (.iload_n 2, 1) := by decide +kernel
theorem dX6_note_85 : decode cX6_note 85 = .ok (.iload_n 3, 1) := by decide +kernel
theorem dX6_note_86 : decode cX6_note 86 = .ok (.iload 4, 2) := by decide +kernel
theorem dX6_note_88 : decode cX6_note 88 = .ok (.iload 5, 2) := by decide +kernel
theorem dX6_note_90 : decode cX6_note 90 = .ok (.invokevirtual 228, 3) := by decide +kernel
theorem dX6_note_93 : decode cX6_note 93 = .ok (.ireturn, 1) := by decide +kernel
theorem dX6_mark_0 : decode cX6_mark 0 = .ok (.aload_n 0, 1) := by decide +kernel
theorem dX6_mark_1 : decode cX6_mark 1 = .ok (.iload_n 1, 1) := by decide +kernel
theorem dX6_mark_2 : decode cX6_mark 2 = .ok (.invokevirtual 138, 3) := by decide +kernel
theorem dX6_mark_5 : decode cX6_mark 5 = .ok (.ifCond .ne 28, 3) := by decide +kernel
theorem dX6_mark_8 : decode cX6_mark 8 = .ok (.iload_n 2, 1) := by decide +kernel
theorem dX6_mark_9 : decode cX6_mark 9 = .ok (.invokestatic 185, 3) := by decide +kernel
theorem dX6_mark_12 : decode cX6_mark 12 = .ok (.ifCond .ne 21, 3) := by decide +kernel
theorem dX6_mark_15 : decode cX6_mark 15 = .ok (.iload_n 3, 1) := by decide +kernel
theorem dX6_mark_16 : decode cX6_mark 16 = .ok (.iconst 0, 1) := by decide +kernel
theorem dX6_mark_17 : decode cX6_mark 17 = .ok (.bipush 99, 2) := by decide +kernel
theorem dX6_mark_19 : decode cX6_mark 19 = .ok (.invokestatic 81, 3) := by decide +kernel
theorem dX6_mark_22 : decode cX6_mark 22 = .ok (.ifCond .ne 11, 3) := by decide +kernel
theorem dX6_mark_25 : decode cX6_mark 25 = .ok (.iload 4, 2) := by decide +kernel
theorem dX6_mark_27 : decode cX6_mark 27 = .ok (.invokestatic 185, 3) := by decide +kernel
theorem dX6_mark_30 : decode cX6_mark 30 = .ok (.ifCond .eq 11, 3) := by decide +kernel
theorem dX6_mark_33 : decode cX6_mark 33 = .ok (.aload_n 0, 1) := by decide +kernel
theorem dX6_mark_34 : decode cX6_mark 34 = .ok (.sipush (-1002), 3) := by decide +kernel
theorem dX6_mark_37 : decode cX6_mark 37 = .ok (.invokevirtual 85, 3) := by decide +kernel
theorem dX6_mark_40 : decode cX6_mark 40 = .ok (.ireturn, 1) := by decide +kernel
theorem dX6_mark_41 : decode cX6_mark 41 = .ok (.aload_n 0, 1) := by decide +kernel
theorem dX6_mark_42 : decode cX6_mark 42 = .ok (.getfield 10, 3) := by decide +kernel
theorem dX6_mark_45 : decode cX6_mark 45 = .ok (.getfield 250, 3) := by decide +kernel
theorem dX6_mark_48 : decode cX6_mark 48 = .ok (.invokevirtual 222, 3) := by decide +kernel
theorem dX6_mark_51 : decode cX6_mark 51 = .ok (.ifCond .eq 8, 3) := by decide +kernel
theorem dX6_mark_54 : decode cX6_mark 54 = .ok (.aload_n 0, 1) := by decide +kernel
theorem dX6_mark_55 : decode cX6_mark 55 = .ok (.invokevirtual 96, 3) := by decide +kernel
theorem dX6_mark_58 : decode cX6_mark 58 = .ok (.ireturn, 1) := by decide +kernel
theorem dX6_mark_59 : decode cX6_mark 59 = .ok (.aload_n 0, 1) := by decide +kernel
theorem dX6_mark_60 : decode cX6_mark 60 = .ok (.getfield 10, 3) := by decide +kernel
theorem dX6_mark_63 : decode cX6_mark 63 = .ok (.getfield 250, 3) := by decide +kernel
theorem dX6_mark_66 : decode cX6_mark 66 = .ok (.iload_n 1, 1) := by decide +kernel
theorem dX6_mark_67 : decode cX6_mark 67 = .ok (.iload_n 2, 1) := by decide +kernel
theorem dX6_mark_68 : decode cX6_mark 68 = .ok (.iload_n 3, 1) := by decide +kernel
theorem dX6_mark_69 : decode cX6_mark 69 = .ok (.iload 4, 2) := by decide +kernel
theorem dX6_mark_71 : decode cX6_mark 71 = .ok (.iconst 0, 1) := by decide +kernel
theorem dX6_mark_72 : decode cX6_mark 72 = .ok (.invokevirtual 228, 3) := by decide +kernel
theorem dX6_mark_75 : decode cX6_mark 75 = .ok (.ireturn, 1) := by decide +kernel
theorem dX6_forget_0 : decode cX6_forget 0 = .ok (.iload_n 1, 1) := by decide +kernel
theorem dX6_forget_1 : decode cX6_forget 1 = .ok (.tableswitch 60 0 2 #[27, 38, 49], 27) := by decide +kernel
theorem dX6_forget_28 : decode cX6_forget 28 = .ok (.aload_n 0, 1) := by decide +kernel
theorem dX6_forget_29 : decode cX6_forget 29 = .ok (.getfield 10, 3) := by decide +kernel
theorem dX6_forget_32 : decode cX6_forget 32 = .ok (.getfield 218, 3) := by decide +kernel
theorem dX6_forget_35 : decode cX6_forget 35 = .ok (.invokevirtual 253, 3) := by decide +kernel
theorem dX6_forget_38 : decode cX6_forget 38 = .ok (.ireturn, 1) := by decide +kernel
theorem dX6_forget_39 : decode cX6_forget 39 = .ok (.aload_n 0, 1) := by decide +kernel
theorem dX6_forget_40 : decode cX6_forget 40 = .ok (.getfield 10, 3) := by decide +kernel
theorem dX6_forget_43 : decode cX6_forget 43 = .ok (.getfield 247, 3) := by decide +kernel
theorem dX6_forget_46 : decode cX6_forget 46 = .ok (.invokevirtual 253, 3) := by decide +kernel
theorem dX6_forget_49 : decode cX6_forget 49 = .ok (.ireturn, 1) := by decide +kernel
theorem dX6_forget_50 : decode cX6_forget 50 = .ok (.aload_n 0, 1) := by decide +kernel
theorem dX6_forget_51 : decode cX6_forget 51 = .ok (.getfield 10, 3) := by decide +kernel
theorem dX6_forget_54 : decode cX6_forget 54 = .ok (.getfield 250, 3) := by decide +kernel
theorem dX6_forget_57 : decode cX6_forget 57 = .ok (.invokevirtual 253, 3) := by decide +kernel
theorem dX6_forget_60 : decode cX6_forget 60 = .ok (.ireturn, 1) := by decide +kernel
theorem dX6_forget_61 : decode cX6_forget 61 = .ok (.aload_n 0, 1) := by decide +kernel
theorem dX6_forget_62 : decode cX6_forget 62 = .ok (.sipush (-1002), 3) := by decide +kernel
theorem dX6_forget_65 : decode cX6_forget 65 = .ok (.invokevirtual 85, 3) := by decide +kernel
theorem dX6_forget_68 : decode cX6_forget 68 = .ok (.ireturn, 1) := by decide +kernel
theorem dX6_is_0 : decode cX6_is 0 = .ok (.aload_n 0, 1) := by decide +kernel
theorem dX6_is_1 : decode cX6_is 1 = .ok (.iload_n 1, 1) := by decide +kernel
theorem dX6_is_2 : decode cX6_is 2 = .ok (.invokevirtual 138, 3) := by decide +kernel
theorem dX6_is_5 : decode cX6_is 5 = .ok (.ifCond .eq 11, 3) := by decide +kernel
theorem dX6_is_8 : decode cX6_is 8 = .ok (.aload_n 0, 1) := by decide +kernel
theorem dX6_is_9 : decode cX6_is 9 = .ok (.sipush (-1002), 3) := by decide +kernel
theorem dX6_is_12 : decode cX6_is 12 = .ok (.invokevirtual 85, 3) := by decide +kernel
theorem dX6_is_15 : decode cX6_is 15 = .ok (.ireturn, 1) := by decide +kernel
theorem dX6_is_16 : decode cX6_is 16 = .ok (.aload_n 0, 1) := by decide +kernel
theorem dX6_is_17 : decode cX6_is 17 = .ok (.iload_n 1, 1) := by decide +kernel
theorem dX6_is_18 : decode cX6_is 18 = .ok (.invokevirtual 256, 3) := by decide +kernel
theorem dX6_is_21 : decode cX6_is 21 = .ok (.ireturn, 1) := by decide +kernel
theorem dX6_look_0 : decode cX6_look 0 = .ok (.aload_n 0, 1) := by decide +kernel
theorem dX6_look_1 : decode cX6_look 1 = .ok (.iload_n 1, 1) := by decide +kernel
theorem dX6_look_2 : decode cX6_look 2 = .ok (.invokevirtual 138, 3) := by decide +kernel
theorem dX6_look_5 : decode cX6_look 5 = .ok (.ifCond .eq 11, 3) := by decide +kernel
theorem dX6_look_8 : decode cX6_look 8 = .ok (.aload_n 0, 1) := by decide +kernel
theorem dX6_look_9 : decode cX6_look 9 = .ok (.sipush (-1002), 3) := by decide +kernel
theorem dX6_look_12 : decode cX6_look 12 = .ok (.invokevirtual 85, 3) := by decide +kernel
theorem dX6_look_15 : decode cX6_look 15 = .ok (.ireturn, 1) := by decide +kernel
theorem dX6_look_16 : decode cX6_look 16 = .ok (.aload_n 0, 1) := by decide +kernel
theorem dX6_look_17 : decode cX6_look 17 = .ok (.iload_n 1, 1) := by decide +kernel
theorem dX6_look_18 : decode cX6_look 18 = .ok (.invokevirtual 256, 3) := by decide +kernel
theorem dX6_look_21 : decode cX6_look 21 = .ok (.istore_n 2, 1) := by decide +kernel
theorem dX6_look_22 : decode cX6_look 22 = .ok (.iload_n 2, 1) := by decide +kernel
theorem dX6_look_23 : decode cX6_look 23 = .ok (.ifCond .ne 7, 3) := by decide +kernel
theorem dX6_look_26 : decode cX6_look 26 = .ok (.sipush (-1001), 3) := by decide +kernel
theorem dX6_look_29 : decode cX6_look 29 = .ok (.ireturn, 1) := by decide +kernel
theorem dX6_look_30 : decode cX6_look 30 = .ok (.sipush (-1001), 3) := by decide +kernel
theorem dX6_look_33 : decode cX6_look 33 = .ok (.istore_n 3, 1) := by decide +kernel
theorem dX6_look_34 : decode cX6_look 34 = .ok (.bipush 7, 2) := by decide +kernel
theorem dX6_look_36 : decode cX6_look 36 = .ok (.istore 4, 2) := by decide +kernel
theorem dX6_look_38 : decode cX6_look 38 = .ok (.iconst 1, 1) := by decide +kernel
theorem dX6_look_39 : decode cX6_look 39 = .ok (.istore 5, 2) := by decide +kernel
theorem dX6_look_41 : decode cX6_look 41 = .ok (.iload 5, 2) := by decide +kernel
theorem dX6_look_43 : decode cX6_look 43 = .ok (.bipush 9, 2) := by decide +kernel
theorem dX6_look_45 : decode cX6_look 45 = .ok (.if_icmp .gt 64, 3) := by decide +kernel
theorem dX6_look_48 : decode cX6_look 48 = .ok (.iconst 1, 1) := by decide +kernel
theorem dX6_look_49 : decode cX6_look 49 = .ok (.istore 6, 2) := by decide +kernel
theorem dX6_look_51 : decode cX6_look 51 = .ok (.iload 6, 2) := by decide +kernel
theorem dX6_look_53 : decode cX6_look 53 = .ok (.bipush 20, 2) := by decide +kernel
theorem dX6_look_55 : decode cX6_look 55 = .ok (.if_icmp .gt 48, 3) := by decide +kernel
theorem dX6_look_58 : decode cX6_look 58 = .ok (.aload_n 0, 1) := by decide +kernel
theorem dX6_look_59 : decode cX6_look 59 = .ok (.iload_n 2, 1) := by decide +kernel
theorem dX6_look_60 : decode cX6_look 60 = .ok (.iload 6, 2) := by decide +kernel
theorem dX6_look_62 : decode cX6_look 62 = .ok (.iload 5, 2) := by decide +kernel
theorem dX6_look_64 : decode cX6_look 64 = .ok (.aload_n 0, 1) := by decide +kernel
theorem dX6_look_65 : decode cX6_look 65 = .ok (.getfield 10, 3) := by decide +kernel
theorem dX6_look_68 : decode cX6_look 68 = .ok (.iload_n 1, 1) := by decide +kernel
theorem dX6_look_69 : decode cX6_look 69 = .ok (.invokevirtual 142, 3) := by decide +kernel
theorem dX6_look_72 : decode cX6_look 72 = .ok (.invokevirtual 259, 3) := by decide +kernel
theorem dX6_look_75 : decode cX6_look 75 = .ok (.istore 7, 2) := by decide +kernel
theorem dX6_look_77 : decode cX6_look 77 = .ok (.iload 7, 2) := by decide +kernel
theorem dX6_look_79 : decode cX6_look 79 = .ok (.iload 4, 2) := by decide +kernel
theorem dX6_look_81 : decode cX6_look 81 = .ok (.if_icmp .ge 16, 3) := by decide +kernel
theorem dX6_look_84 : decode cX6_look 84 = .ok (.bipush 100, 2) := by decide +kernel
theorem dX6_look_86 : decode cX6_look 86 = .ok (.iload 5, 2) := by decide +kernel
theorem dX6_look_88 : decode cX6_look 88 = .ok (.imul, 1) := by decide +kernel
theorem dX6_look_89 : decode cX6_look 89 = .ok (.iload 6, 2) := by decide +kernel
theorem dX6_look_91 : decode cX6_look 91 = .ok (.iadd, 1) := by decide +kernel
theorem dX6_look_92 : decode cX6_look 92 = .ok (.istore_n 3, 1) := by decide +kernel
theorem dX6_look_93 : decode cX6_look 93 = .ok (.iload 7, 2) := by decide +kernel
theorem dX6_look_95 : decode cX6_look 95 = .ok (.istore 4, 2) := by decide +kernel
theorem dX6_look_97 : decode cX6_look 97 = .ok (.iinc 6 1, 3) := by decide +kernel
theorem dX6_look_100 : decode cX6_look 100 = .ok (.goto (-49), 3) := by decide +kernel
theorem dX6_look_103 : decode cX6_look 103 = .ok (.iinc 5 1, 3) := by decide +kernel
theorem dX6_look_106 : decode cX6_look 106 = .ok (.goto (-65), 3) := by decide +kernel
theorem dX6_look_109 : decode cX6_look 109 = .ok (.iload_n 3, 1) := by decide +kernel
theorem dX6_look_110 : decode cX6_look 110 = .ok (.ireturn, 1) := by decide +kernel
theorem dX6_kinds_0 : decode cX6_kinds 0 = .ok (.aload_n 0, 1) := by decide +kernel
theorem dX6_kinds_1 : decode cX6_kinds 1 = .ok (.iload_n 1, 1) := by decide +kernel
theorem dX6_kinds_2 : decode cX6_kinds 2 = .ok (.invokevirtual 138, 3) := by decide +kernel
theorem dX6_kinds_5 : decode cX6_kinds 5 = .ok (.ifCond .eq 11, 3) := by decide +kernel
theorem dX6_kinds_8 : decode cX6_kinds 8 = .ok (.aload_n 0, 1) := by decide +kernel
theorem dX6_kinds_9 : decode cX6_kinds 9 = .ok (.sipush (-1002), 3) := by decide +kernel
theorem dX6_kinds_12 : decode cX6_kinds 12 = .ok (.invokevirtual 85, 3) := by decide +kernel
theorem dX6_kinds_15 : decode cX6_kinds 15 = .ok (.ireturn, 1) := by decide +kernel
theorem dX6_kinds_16 : decode cX6_kinds 16 = .ok (.aload_n 0, 1) := by decide +kernel
theorem dX6_kinds_17 : decode cX6_kinds 17 = .ok (.iload_n 1, 1) := by decide +kernel
theorem dX6_kinds_18 : decode cX6_kinds 18 = .ok (.invokevirtual 263, 3) := by decide +kernel
theorem dX6_kinds_21 : decode cX6_kinds 21 = .ok (.ireturn, 1) := by decide +kernel
theorem dX6_ask_0 : decode cX6_ask 0 = .ok (.aload_n 0, 1) := by decide +kernel
theorem dX6_ask_1 : decode cX6_ask 1 = .ok (.iload_n 1, 1) := by decide +kernel
theorem dX6_ask_2 : decode cX6_ask 2 = .ok (.invokevirtual 138, 3) := by decide +kernel
theorem dX6_ask_5 : decode cX6_ask 5 = .ok (.ifCond .eq 11, 3) := by decide +kernel
theorem dX6_ask_8 : decode cX6_ask 8 = .ok (.aload_n 0, 1) := by decide +kernel
theorem dX6_ask_9 : decode cX6_ask 9 = .ok (.sipush (-1002), 3) := by decide +kernel
theorem dX6_ask_12 : decode cX6_ask 12 = .ok (.invokevirtual 85, 3) := by decide +kernel
theorem dX6_ask_15 : decode cX6_ask 15 = .ok (.ireturn, 1) := by decide +kernel
theorem dX6_ask_16 : decode cX6_ask 16 = .ok (.aload_n 0, 1) := by decide +kernel
theorem dX6_ask_17 : decode cX6_ask 17 = .ok (.iload_n 1, 1) := by decide +kernel
theorem dX6_ask_18 : decode cX6_ask 18 = .ok (.invokevirtual 263, 3) := by decide +kernel
theorem dX6_ask_21 : decode cX6_ask 21 = .ok (.istore_n 2, 1) := by decide +kernel
theorem dX6_ask_22 : decode cX6_ask 22 = .ok (.iload_n 2, 1) := by decide +kernel
theorem dX6_ask_23 : decode cX6_ask 23 = .ok (.ifCond .ne 7, 3) := by decide +kernel
theorem dX6_ask_26 : decode cX6_ask 26 = .ok (.sipush (-1001), 3) := by decide +kernel
theorem dX6_ask_29 : decode cX6_ask 29 = .ok (.ireturn, 1) := by decide +kernel
theorem dX6_ask_30 : decode cX6_ask 30 = .ok (.sipush (-1001), 3) := by decide +kernel
theorem dX6_ask_33 : decode cX6_ask 33 = .ok (.istore_n 3, 1) := by decide +kernel
theorem dX6_ask_34 : decode cX6_ask 34 = .ok (.bipush 7, 2) := by decide +kernel
theorem dX6_ask_36 : decode cX6_ask 36 = .ok (.istore 4, 2) := by decide +kernel
theorem dX6_ask_38 : decode cX6_ask 38 = .ok (.iconst 0, 1) := by decide +kernel
theorem dX6_ask_39 : decode cX6_ask 39 = .ok (.istore 5, 2) := by decide +kernel
theorem dX6_ask_41 : decode cX6_ask 41 = .ok (.iload 5, 2) := by decide +kernel
theorem dX6_ask_43 : decode cX6_ask 43 = .ok (.bipush 20, 2) := by decide +kernel
theorem dX6_ask_45 : decode cX6_ask 45 = .ok (.if_icmp .gt 55, 3) := by decide +kernel
theorem dX6_ask_48 : decode cX6_ask 48 = .ok (.iconst 0, 1) := by decide +kernel
theorem dX6_ask_49 : decode cX6_ask 49 = .ok (.istore 6, 2) := by decide +kernel
theorem dX6_ask_51 : decode cX6_ask 51 = .ok (.iload 6, 2) := by decide +kernel
theorem dX6_ask_53 : decode cX6_ask 53 = .ok (.iconst 1, 1) := by decide +kernel
theorem dX6_ask_54 : decode cX6_ask 54 = .ok (.if_icmp .gt 40, 3) := by decide +kernel
theorem dX6_ask_57 : decode cX6_ask 57 = .ok (.aload_n 0, 1) := by decide +kernel
theorem dX6_ask_58 : decode cX6_ask 58 = .ok (.iload_n 2, 1) := by decide +kernel
theorem dX6_ask_59 : decode cX6_ask 59 = .ok (.iload 5, 2) := by decide +kernel
theorem dX6_ask_61 : decode cX6_ask 61 = .ok (.iload 6, 2) := by decide +kernel
theorem dX6_ask_63 : decode cX6_ask 63 = .ok (.invokevirtual 266, 3) := by decide +kernel
theorem dX6_ask_66 : decode cX6_ask 66 = .ok (.istore 7, 2) := by decide +kernel
theorem dX6_ask_68 : decode cX6_ask 68 = .ok (.iload 7, 2) := by decide +kernel
theorem dX6_ask_70 : decode cX6_ask 70 = .ok (.iload 4, 2) := by decide +kernel
theorem dX6_ask_72 : decode cX6_ask 72 = .ok (.if_icmp .ge 16, 3) := by decide +kernel
theorem dX6_ask_75 : decode cX6_ask 75 = .ok (.bipush 10, 2) := by decide +kernel
theorem dX6_ask_77 : decode cX6_ask 77 = .ok (.iload 5, 2) := by decide +kernel
theorem dX6_ask_79 : decode cX6_ask 79 = .ok (.imul, 1) := by decide +kernel
theorem dX6_ask_80 : decode cX6_ask 80 = .ok (.iload 6, 2) := by decide +kernel
theorem dX6_ask_82 : decode cX6_ask 82 = .ok (.iadd, 1) := by decide +kernel
theorem dX6_ask_83 : decode cX6_ask 83 = .ok (.istore_n 3, 1) := by decide +kernel
theorem dX6_ask_84 : decode cX6_ask 84 = .ok (.iload 7, 2) := by decide +kernel
theorem dX6_ask_86 : decode cX6_ask 86 = .ok (.istore 4, 2) := by decide +kernel
theorem dX6_ask_88 : decode cX6_ask 88 = .ok (.iinc 6 1, 3) := by decide +kernel
theorem dX6_ask_91 : decode cX6_ask 91 = .ok (.goto (-40), 3) := by decide +kernel
theorem dX6_ask_94 : decode cX6_ask 94 = .ok (.iinc 5 1, 3) := by decide +kernel
theorem dX6_ask_97 : decode cX6_ask 97 = .ok (.goto (-56), 3) := by decide +kernel
theorem dX6_ask_100 : decode cX6_ask 100 = .ok (.iload_n 3, 1) := by decide +kernel
theorem dX6_ask_101 : decode cX6_ask 101 = .ok (.ireturn, 1) := by decide +kernel
theorem dX6_hands_0 : decode cX6_hands 0 = .ok (.aload_n 0, 1) := by decide +kernel
theorem dX6_hands_1 : decode cX6_hands 1 = .ok (.iload_n 1, 1) := by decide +kernel
theorem dX6_hands_2 : decode cX6_hands 2 = .ok (.invokevirtual 138, 3) := by decide +kernel
theorem dX6_hands_5 : decode cX6_hands 5 = .ok (.ifCond .ne 21, 3) := by decide +kernel
theorem dX6_hands_8 : decode cX6_hands 8 = .ok (.aload_n 0, 1) := by decide +kernel
theorem dX6_hands_9 : decode cX6_hands 9 = .ok (.iload_n 2, 1) := by decide +kernel
theorem dX6_hands_10 : decode cX6_hands 10 = .ok (.invokevirtual 138, 3) := by decide +kernel
theorem dX6_hands_13 : decode cX6_hands 13 = .ok (.ifCond .ne 13, 3) := by decide +kernel
theorem dX6_hands_16 : decode cX6_hands 16 = .ok (.iload_n 1, 1) := by decide +kernel
theorem dX6_hands_17 : decode cX6_hands 17 = .ok (.iload_n 2, 1) := by decide +kernel
theorem dX6_hands_18 : decode cX6_hands 18 = .ok (.if_icmp .eq 8, 3) := by decide +kernel
theorem dX6_hands_21 : decode cX6_hands 21 = .ok (.iload_n 3, 1) := by decide +kernel
theorem dX6_hands_22 : decode cX6_hands 22 = .ok (.iconst (-1), 1) := by decide +kernel
theorem dX6_hands_23 : decode cX6_hands 23 = .ok (.if_icmp .ge 10, 3) := by decide +kernel
theorem dX6_hands_26 : decode cX6_hands 26 = .ok (.aload_n 0, 1) := by decide +kernel
theorem dX6_hands_27 : decode cX6_hands 27 = .ok (.bipush (-10), 2) := by decide +kernel
theorem dX6_hands_29 : decode cX6_hands 29 = .ok (.invokevirtual 85, 3) := by decide +kernel
theorem dX6_hands_32 : decode cX6_hands 32 = .ok (.ireturn, 1) := by decide +kernel
theorem dX6_hands_33 : decode cX6_hands 33 = .ok (.aload_n 0, 1) := by decide +kernel
theorem dX6_hands_34 : decode cX6_hands 34 = .ok (.getfield 49, 3) := by decide +kernel
theorem dX6_hands_37 : decode cX6_hands 37 = .ok (.aload_n 0, 1) := by decide +kernel
theorem dX6_hands_38 : decode cX6_hands 38 = .ok (.getfield 10, 3) := by decide +kernel
theorem dX6_hands_41 : decode cX6_hands 41 = .ok (.aload_n 0, 1) := by decide +kernel
theorem dX6_hands_42 : decode cX6_hands 42 = .ok (.getfield 56, 3) := by decide +kernel
theorem dX6_hands_45 : decode cX6_hands 45 = .ok (.iload_n 1, 1) := by decide +kernel
theorem dX6_hands_46 : decode cX6_hands 46 = .ok (.iload_n 2, 1) := by decide +kernel
theorem dX6_hands_47 : decode cX6_hands 47 = .ok (.invokevirtual 269, 3) := by decide +kernel
theorem dX6_hands_50 : decode cX6_hands 50 = .ok (.iconst 0, 1) := by decide +kernel
theorem dX6_hands_51 : decode cX6_hands 51 = .ok (.istore 4, 2) := by decide +kernel
theorem dX6_hands_53 : decode cX6_hands 53 = .ok (.iconst 0, 1) := by decide +kernel
theorem dX6_hands_54 : decode cX6_hands 54 = .ok (.istore 5, 2) := by decide +kernel
theorem dX6_hands_56 : decode cX6_hands 56 = .ok (.iload 5, 2) := by decide +kernel
theorem dX6_hands_58 : decode cX6_hands 58 = .ok (.iconst 5, 1) := by decide +kernel
theorem dX6_hands_59 : decode cX6_hands 59 = .ok (.if_icmp .ge 56, 3) := by decide +kernel
theorem dX6_hands_62 : decode cX6_hands 62 = .ok (.iconst 0, 1) := by decide +kernel
theorem dX6_hands_63 : decode cX6_hands 63 = .ok (.istore 6, 2) := by decide +kernel
theorem dX6_hands_65 : decode cX6_hands 65 = .ok (.iload 6, 2) := by decide +kernel
theorem dX6_hands_67 : decode cX6_hands 67 = .ok (.iconst 5, 1) := by decide +kernel
theorem dX6_hands_68 : decode cX6_hands 68 = .ok (.if_icmp .ge 41, 3) := by decide +kernel
theorem dX6_hands_71 : decode cX6_hands 71 = .ok (.aload_n 0, 1) := by decide +kernel
theorem dX6_hands_72 : decode cX6_hands 72 = .ok (.getfield 49, 3) := by decide +kernel
theorem dX6_hands_75 : decode cX6_hands 75 = .ok (.iload 5, 2) := by decide +kernel
theorem dX6_hands_77 : decode cX6_hands 77 = .ok (.iload 6, 2) := by decide +kernel
theorem dX6_hands_79 : decode cX6_hands 79 = .ok (.invokevirtual 273, 3) := by decide +kernel
theorem dX6_hands_82 : decode cX6_hands 82 = .ok (.ifCond .eq 21, 3) := by decide +kernel
theorem dX6_hands_85 : decode cX6_hands 85 = .ok (.iload 4, 2) := by decide +kernel
theorem dX6_hands_87 : decode cX6_hands 87 = .ok (.iload_n 3, 1) := by decide +kernel
theorem dX6_hands_88 : decode cX6_hands 88 = .ok (.if_icmp .ne 12, 3) := by decide +kernel
theorem dX6_hands_91 : decode cX6_hands 91 = .ok (.bipush 10, 2) := by decide +kernel
theorem dX6_hands_93 : decode cX6_hands 93 = .ok (.iload 5, 2) := by decide +kernel
theorem dX6_hands_95 : decode cX6_hands 95 = .ok (.imul, 1) := by decide +kernel
theorem dX6_hands_96 : decode cX6_hands 96 = .ok (.iload 6, 2) := by decide +kernel
theorem dX6_hands_98 : decode cX6_hands 98 = .ok (.iadd, 1) := by decide +kernel
theorem dX6_hands_99 : decode cX6_hands 99 = .ok (.ireturn, 1) := by decide +kernel
theorem dX6_hands_100 : decode cX6_hands 100 = .ok (.iinc 4 1, 3) := by decide +kernel
theorem dX6_hands_103 : decode cX6_hands 103 = .ok (.iinc 6 1, 3) := by decide +kernel
theorem dX6_hands_106 : decode cX6_hands 106 = .ok (.goto (-41), 3) := by decide +kernel
theorem dX6_hands_109 : decode cX6_hands 109 = .ok (.iinc 5 1, 3) := by decide +kernel
theorem dX6_hands_112 : decode cX6_hands 112 = .ok (.goto (-56), 3) := by decide +kernel
theorem dX6_hands_115 : decode cX6_hands 115 = .ok (.iload_n 3, 1) := by decide +kernel
theorem dX6_hands_116 : decode cX6_hands 116 = .ok (.iconst (-1), 1) := by decide +kernel
theorem dX6_hands_117 : decode cX6_hands 117 = .ok (.if_icmp .ne 8, 3) := by decide +kernel
theorem dX6_hands_120 : decode cX6_hands 120 = .ok (.iload 4, 2) := by decide +kernel
theorem dX6_hands_122 : decode cX6_hands 122 = .ok (.goto 5, 3) := by decide +kernel
theorem dX6_hands_125 : decode cX6_hands 125 = .ok (.bipush (-5), 2) := by decide +kernel
theorem dX6_hands_127 : decode cX6_hands 127 = .ok (.ireturn, 1) := by decide +kernel
theorem dX6_slack_0 : decode cX6_slack 0 = .ok (.iload_n 1, 1) := by decide +kernel
theorem dX6_slack_1 : decode cX6_slack 1 = .ok (.iconst 0, 1) := by decide +kernel
theorem dX6_slack_2 : decode cX6_slack 2 = .ok (.bipush 6, 2) := by decide +kernel
theorem dX6_slack_4 : decode cX6_slack 4 = .ok (.invokestatic 81, 3) := by decide +kernel
theorem dX6_slack_7 : decode cX6_slack 7 = .ok (.ifCond .ne 13, 3) := by decide +kernel
theorem dX6_slack_10 : decode cX6_slack 10 = .ok (.iload_n 2, 1) := by decide +kernel
theorem dX6_slack_11 : decode cX6_slack 11 = .ok (.iconst 0, 1) := by decide +kernel
theorem dX6_slack_12 : decode cX6_slack 12 = .ok (.bipush 10, 2) := by decide +kernel
theorem dX6_slack_14 : decode cX6_slack 14 = .ok (.invokestatic 81, 3) := by decide +kernel
theorem dX6_slack_17 : decode cX6_slack 17 = .ok (.ifCond .eq 11, 3) := by decide +kernel
theorem dX6_slack_20 : decode cX6_slack 20 = .ok (.aload_n 0, 1) := by decide +kernel
theorem dX6_slack_21 : decode cX6_slack 21 = .ok (.sipush (-1002), 3) := by decide +kernel
theorem dX6_slack_24 : decode cX6_slack 24 = .ok (.invokevirtual 85, 3) := by decide +kernel
theorem dX6_slack_27 : decode cX6_slack 27 = .ok (.ireturn, 1) := by decide +kernel
theorem dX6_slack_28 : decode cX6_slack 28 = .ok (.lconst 1, 1) := by decide +kernel
theorem dX6_slack_29 : decode cX6_slack 29 = .ok (.lstore_n 3, 1) := by decide +kernel
theorem dX6_slack_30 : decode cX6_slack 30 = .ok (.iconst 0, 1) := by decide +kernel
theorem dX6_slack_31 : decode cX6_slack 31 = .ok (.istore 5, 2) := by decide +kernel
theorem dX6_slack_33 : decode cX6_slack 33 = .ok (.iload 5, 2) := by decide +kernel
theorem dX6_slack_35 : decode cX6_slack 35 = .ok (.iload_n 1, 1) := by decide +kernel
theorem dX6_slack_36 : decode cX6_slack 36 = .ok (.if_icmp .ge 15, 3) := by decide +kernel
theorem dX6_slack_39 : decode cX6_slack 39 = .ok (.lload_n 3, 1) := by decide +kernel
theorem dX6_slack_40 : decode cX6_slack 40 = .ok (.ldc2_w 276, 3) := by decide +kernel
theorem dX6_slack_43 : decode cX6_slack 43 = .ok (.lmul, 1) := by decide +kernel
theorem dX6_slack_44 : decode cX6_slack 44 = .ok (.lstore_n 3, 1) := by decide +kernel
theorem dX6_slack_45 : decode cX6_slack 45 = .ok (.iinc 5 1, 3) := by decide +kernel
theorem dX6_slack_48 : decode cX6_slack 48 = .ok (.goto (-15), 3) := by decide +kernel
theorem dX6_slack_51 : decode cX6_slack 51 = .ok (.aload_n 0, 1) := by decide +kernel
theorem dX6_slack_52 : decode cX6_slack 52 = .ok (.iload_n 1, 1) := by decide +kernel
theorem dX6_slack_53 : decode cX6_slack 53 = .ok (.ifCond .ne 7, 3) := by decide +kernel
theorem dX6_slack_56 : decode cX6_slack 56 = .ok (.lconst 1, 1) := by decide +kernel
theorem dX6_slack_57 : decode cX6_slack 57 = .ok (.goto 9, 3) := by decide +kernel
theorem dX6_slack_60 : decode cX6_slack 60 = .ok (.aload_n 0, 1) := by decide +kernel
theorem dX6_slack_61 : decode cX6_slack 61 = .ok (.iload_n 1, 1) := by decide +kernel
theorem dX6_slack_62 : decode cX6_slack 62 = .ok (.iload_n 2, 1) := by decide +kernel
theorem dX6_slack_63 : decode cX6_slack 63 = .ok (.invokevirtual 278, 3) := by decide +kernel
theorem dX6_slack_66 : decode cX6_slack 66 = .ok (.lload_n 3, 1) := by decide +kernel
theorem dX6_slack_67 : decode cX6_slack 67 = .ok (.invokevirtual 282, 3) := by decide +kernel
theorem dX6_slack_70 : decode cX6_slack 70 = .ok (.iconst 1, 1) := by decide +kernel
theorem dX6_slack_71 : decode cX6_slack 71 = .ok (.ireturn, 1) := by decide +kernel
theorem dX6_nights_0 : decode cX6_nights 0 = .ok (.iload_n 1, 1) := by decide +kernel
theorem dX6_nights_1 : decode cX6_nights 1 = .ok (.iconst 0, 1) := by decide +kernel
theorem dX6_nights_2 : decode cX6_nights 2 = .ok (.ldc_w 286, 3) := by decide +kernel
theorem dX6_nights_5 : decode cX6_nights 5 = .ok (.invokestatic 81, 3) := by decide +kernel
theorem dX6_nights_8 : decode cX6_nights 8 = .ok (.ifCond .ne 13, 3) := by decide +kernel
theorem dX6_nights_11 : decode cX6_nights 11 = .ok (.iload_n 2, 1) := by decide +kernel
theorem dX6_nights_12 : decode cX6_nights 12 = .ok (.iconst 0, 1) := by decide +kernel
theorem dX6_nights_13 : decode cX6_nights 13 = .ok (.bipush 60, 2) := by decide +kernel
theorem dX6_nights_15 : decode cX6_nights 15 = .ok (.invokestatic 81, 3) := by decide +kernel
theorem dX6_nights_18 : decode cX6_nights 18 = .ok (.ifCond .eq 11, 3) := by decide +kernel
theorem dX6_nights_21 : decode cX6_nights 21 = .ok (.aload_n 0, 1) := by decide +kernel
theorem dX6_nights_22 : decode cX6_nights 22 = .ok (.sipush (-1002), 3) := by decide +kernel
theorem dX6_nights_25 : decode cX6_nights 25 = .ok (.invokevirtual 85, 3) := by decide +kernel
theorem dX6_nights_28 : decode cX6_nights 28 = .ok (.ireturn, 1) := by decide +kernel
theorem dX6_nights_29 : decode cX6_nights 29 = .ok (.iload_n 1, 1) := by decide +kernel
theorem dX6_nights_30 : decode cX6_nights 30 = .ok (.i2l, 1) := by decide +kernel
theorem dX6_nights_31 : decode cX6_nights 31 = .ok (.lstore_n 3, 1) := by decide +kernel
theorem dX6_nights_32 : decode cX6_nights 32 = .ok (.aload_n 0, 1) := by decide +kernel
theorem dX6_nights_33 : decode cX6_nights 33 = .ok (.getfield 56, 3) := by decide +kernel
theorem dX6_nights_36 : decode cX6_nights 36 = .ok (.aload_n 0, 1) := by decide +kernel
theorem dX6_nights_37 : decode cX6_nights 37 = .ok (.getfield 10, 3) := by decide +kernel
theorem dX6_nights_40 : decode cX6_nights 40 = .ok (.getfield 118, 3) := by decide +kernel
theorem dX6_nights_43 : decode cX6_nights 43 = .ok (.invokevirtual 211, 3) := by decide +kernel
theorem dX6_nights_46 : decode cX6_nights 46 = .ok (.iconst 0, 1) := by decide +kernel
theorem dX6_nights_47 : decode cX6_nights 47 = .ok (.istore 5, 2) := by decide +kernel
theorem dX6_nights_49 : decode cX6_nights 49 = .ok (.iload 5, 2) := by decide +kernel
theorem dX6_nights_51 : decode cX6_nights 51 = .ok (.iload_n 2, 1) := by decide +kernel
theorem dX6_nights_52 : decode cX6_nights 52 = .ok (.if_icmp .ge 44, 3) := by decide +kernel
theorem dX6_nights_55 : decode cX6_nights 55 = .ok (.lload_n 3, 1) := by decide +kernel
theorem dX6_nights_56 : decode cX6_nights 56 = .ok (.ldc2_w 287, 3) := by decide +kernel
theorem dX6_nights_59 : decode cX6_nights 59 = .ok (.lmul, 1) := by decide +kernel
theorem dX6_nights_60 : decode cX6_nights 60 = .ok (.ldc2_w 289, 3) := by decide +kernel
theorem dX6_nights_63 : decode cX6_nights 63 = .ok (.ladd, 1) := by decide +kernel
theorem dX6_nights_64 : decode cX6_nights 64 = .ok (.ldc2_w 291, 3) := by decide +kernel
theorem dX6_nights_67 : decode cX6_nights 67 = .ok (.lrem, 1) := by decide +kernel
theorem dX6_nights_68 : decode cX6_nights 68 = .ok (.lstore_n 3, 1) := by decide +kernel
theorem dX6_nights_69 : decode cX6_nights 69 = .ok (.aload_n 0, 1) := by decide +kernel
theorem dX6_nights_70 : decode cX6_nights 70 = .ok (.getfield 10, 3) := by decide +kernel
theorem dX6_nights_73 : decode cX6_nights 73 = .ok (.aload_n 0, 1) := by decide +kernel
theorem dX6_nights_74 : decode cX6_nights 74 = .ok (.getfield 56, 3) := by decide +kernel
theorem dX6_nights_77 : decode cX6_nights 77 = .ok (.lload_n 3, 1) := by decide +kernel
theorem dX6_nights_78 : decode cX6_nights 78 = .ok (.ldc2_w 293, 3) := by decide +kernel
theorem dX6_nights_81 : decode cX6_nights 81 = .ok (.ldiv, 1) := by decide +kernel
theorem dX6_nights_82 : decode cX6_nights 82 = .ok (.ldc2_w 295, 3) := by decide +kernel
theorem dX6_nights_85 : decode cX6_nights 85 = .ok (.lrem, 1) := by decide +kernel
theorem dX6_nights_86 : decode cX6_nights 86 = .ok (.l2i, 1) := by decide +kernel
theorem dX6_nights_87 : decode cX6_nights 87 = .ok (.invokevirtual 130, 3) := by decide +kernel
theorem dX6_nights_90 : decode cX6_nights 90 = .ok (.iinc 5 1, 3) := by decide +kernel
theorem dX6_nights_93 : decode cX6_nights 93 = .ok (.goto (-44), 3) := by decide +kernel
theorem dX6_nights_96 : decode cX6_nights 96 = .ok (.aload_n 0, 1) := by decide +kernel
theorem dX6_nights_97 : decode cX6_nights 97 = .ok (.getfield 10, 3) := by decide +kernel
theorem dX6_nights_100 : decode cX6_nights 100 = .ok (.aload_n 0, 1) := by decide +kernel
theorem dX6_nights_101 : decode cX6_nights 101 = .ok (.getfield 56, 3) := by decide +kernel
theorem dX6_nights_104 : decode cX6_nights 104 = .ok (.invokevirtual 134, 3) := by decide +kernel
theorem dX6_nights_107 : decode cX6_nights 107 = .ok (.ireturn, 1) := by decide +kernel
theorem dX6_part_0 : decode cX6_part 0 = .ok (.iload_n 1, 1) := by decide +kernel
theorem dX6_part_1 : decode cX6_part 1 = .ok (.iconst 0, 1) := by decide +kernel
theorem dX6_part_2 : decode cX6_part 2 = .ok (.iconst 1, 1) := by decide +kernel
theorem dX6_part_3 : decode cX6_part 3 = .ok (.invokestatic 81, 3) := by decide +kernel
theorem dX6_part_6 : decode cX6_part 6 = .ok (.ifCond .eq 12, 3) := by decide +kernel
theorem dX6_part_9 : decode cX6_part 9 = .ok (.aload_n 0, 1) := by decide +kernel
theorem dX6_part_10 : decode cX6_part 10 = .ok (.sipush (-1002), 3) := by decide +kernel
theorem dX6_part_13 : decode cX6_part 13 = .ok (.invokevirtual 85, 3) := by decide +kernel
theorem dX6_part_16 : decode cX6_part 16 = .ok (.i2l, 1) := by decide +kernel
theorem dX6_part_17 : decode cX6_part 17 = .ok (.lreturn, 1) := by decide +kernel
theorem dX6_part_18 : decode cX6_part 18 = .ok (.iload_n 1, 1) := by decide +kernel
theorem dX6_part_19 : decode cX6_part 19 = .ok (.ifCond .ne 10, 3) := by decide +kernel
theorem dX6_part_22 : decode cX6_part 22 = .ok (.aload_n 0, 1) := by decide +kernel
theorem dX6_part_23 : decode cX6_part 23 = .ok (.getfield 64, 3) := by decide +kernel
theorem dX6_part_26 : decode cX6_part 26 = .ok (.goto 7, 3) := by decide +kernel
theorem dX6_part_29 : decode cX6_part 29 = .ok (.aload_n 0, 1) := by decide +kernel
theorem dX6_part_30 : decode cX6_part 30 = .ok (.getfield 68, 3) := by decide +kernel
theorem dX6_part_33 : decode cX6_part 33 = .ok (.lreturn, 1) := by decide +kernel
theorem dX6_image_0 : decode cX6_image 0 = .ok (.iload_n 1, 1) := by decide +kernel
theorem dX6_image_1 : decode cX6_image 1 = .ok (.iconst 0, 1) := by decide +kernel
theorem dX6_image_2 : decode cX6_image 2 = .ok (.iconst 1, 1) := by decide +kernel
theorem dX6_image_3 : decode cX6_image 3 = .ok (.invokestatic 81, 3) := by decide +kernel
theorem dX6_image_6 : decode cX6_image 6 = .ok (.ifCond .eq 11, 3) := by decide +kernel
theorem dX6_image_9 : decode cX6_image 9 = .ok (.aload_n 0, 1) := by decide +kernel
theorem dX6_image_10 : decode cX6_image 10 = .ok (.sipush (-1002), 3) := by decide +kernel
theorem dX6_image_13 : decode cX6_image 13 = .ok (.invokevirtual 85, 3) := by decide +kernel
theorem dX6_image_16 : decode cX6_image 16 = .ok (.ireturn, 1) := by decide +kernel
theorem dX6_image_17 : decode cX6_image 17 = .ok (.iload_n 1, 1) := by decide +kernel
theorem dX6_image_18 : decode cX6_image 18 = .ok (.ifCond .ne 22, 3) := by decide +kernel
theorem dX6_image_21 : decode cX6_image 21 = .ok (.aload_n 0, 1) := by decide +kernel
theorem dX6_image_22 : decode cX6_image 22 = .ok (.getfield 19, 3) := by decide +kernel
theorem dX6_image_25 : decode cX6_image 25 = .ok (.aload_n 0, 1) := by decide +kernel
theorem dX6_image_26 : decode cX6_image 26 = .ok (.getfield 10, 3) := by decide +kernel
theorem dX6_image_29 : decode cX6_image 29 = .ok (.invokevirtual 114, 3) := by decide +kernel
theorem dX6_image_32 : decode cX6_image 32 = .ok (.aload_n 0, 1) := by decide +kernel
theorem dX6_image_33 : decode cX6_image 33 = .ok (.iconst 1, 1) := by decide +kernel
theorem dX6_image_34 : decode cX6_image 34 = .ok (.putfield 25, 3) := by decide +kernel
theorem dX6_image_37 : decode cX6_image 37 = .ok (.goto 19, 3) := by decide +kernel
theorem dX6_image_40 : decode cX6_image 40 = .ok (.aload_n 0, 1) := by decide +kernel
theorem dX6_image_41 : decode cX6_image 41 = .ok (.getfield 22, 3) := by decide +kernel
theorem dX6_image_44 : decode cX6_image 44 = .ok (.aload_n 0, 1) := by decide +kernel
theorem dX6_image_45 : decode cX6_image 45 = .ok (.getfield 10, 3) := by decide +kernel
theorem dX6_image_48 : decode cX6_image 48 = .ok (.invokevirtual 114, 3) := by decide +kernel
theorem dX6_image_51 : decode cX6_image 51 = .ok (.aload_n 0, 1) := by decide +kernel
theorem dX6_image_52 : decode cX6_image 52 = .ok (.iconst 1, 1) := by decide +kernel
theorem dX6_image_53 : decode cX6_image 53 = .ok (.putfield 29, 3) := by decide +kernel
theorem dX6_image_56 : decode cX6_image 56 = .ok (.iconst 1, 1) := by decide +kernel
theorem dX6_image_57 : decode cX6_image 57 = .ok (.ireturn, 1) := by decide +kernel
theorem dX6_from_0 : decode cX6_from 0 = .ok (.iload_n 1, 1) := by decide +kernel
theorem dX6_from_1 : decode cX6_from 1 = .ok (.iconst 0, 1) := by decide +kernel
theorem dX6_from_2 : decode cX6_from 2 = .ok (.iconst 1, 1) := by decide +kernel
theorem dX6_from_3 : decode cX6_from 3 = .ok (.invokestatic 81, 3) := by decide +kernel
theorem dX6_from_6 : decode cX6_from 6 = .ok (.ifCond .eq 11, 3) := by decide +kernel
theorem dX6_from_9 : decode cX6_from 9 = .ok (.aload_n 0, 1) := by decide +kernel
theorem dX6_from_10 : decode cX6_from 10 = .ok (.sipush (-1002), 3) := by decide +kernel
theorem dX6_from_13 : decode cX6_from 13 = .ok (.invokevirtual 85, 3) := by decide +kernel
theorem dX6_from_16 : decode cX6_from 16 = .ok (.ireturn, 1) := by decide +kernel
theorem dX6_from_17 : decode cX6_from 17 = .ok (.iload_n 1, 1) := by decide +kernel
theorem dX6_from_18 : decode cX6_from 18 = .ok (.ifCond .ne 10, 3) := by decide +kernel
theorem dX6_from_21 : decode cX6_from 21 = .ok (.aload_n 0, 1) := by decide +kernel
theorem dX6_from_22 : decode cX6_from 22 = .ok (.getfield 25, 3) := by decide +kernel
theorem dX6_from_25 : decode cX6_from 25 = .ok (.goto 7, 3) := by decide +kernel
theorem dX6_from_28 : decode cX6_from 28 = .ok (.aload_n 0, 1) := by decide +kernel
theorem dX6_from_29 : decode cX6_from 29 = .ok (.getfield 29, 3) := by decide +kernel
theorem dX6_from_32 : decode cX6_from 32 = .ok (.istore_n 2, 1) := by decide +kernel
theorem dX6_from_33 : decode cX6_from 33 = .ok (.iload_n 2, 1) := by decide +kernel
theorem dX6_from_34 : decode cX6_from 34 = .ok (.ifCond .ne 8, 3) := by decide +kernel
theorem dX6_from_37 : decode cX6_from 37 = .ok (.aload_n 0, 1) := by decide +kernel
theorem dX6_from_38 : decode cX6_from 38 = .ok (.invokevirtual 124, 3) := by decide +kernel
theorem dX6_from_41 : decode cX6_from 41 = .ok (.ireturn, 1) := by decide +kernel
theorem dX6_from_42 : decode cX6_from 42 = .ok (.aload_n 0, 1) := by decide +kernel
theorem dX6_from_43 : decode cX6_from 43 = .ok (.getfield 10, 3) := by decide +kernel
theorem dX6_from_46 : decode cX6_from 46 = .ok (.iload_n 1, 1) := by decide +kernel
theorem dX6_from_47 : decode cX6_from 47 = .ok (.ifCond .ne 10, 3) := by decide +kernel
theorem dX6_from_50 : decode cX6_from 50 = .ok (.aload_n 0, 1) := by decide +kernel
theorem dX6_from_51 : decode cX6_from 51 = .ok (.getfield 19, 3) := by decide +kernel
theorem dX6_from_54 : decode cX6_from 54 = .ok (.goto 7, 3) := by decide +kernel
theorem dX6_from_57 : decode cX6_from 57 = .ok (.aload_n 0, 1) := by decide +kernel
theorem dX6_from_58 : decode cX6_from 58 = .ok (.getfield 22, 3) := by decide +kernel
theorem dX6_from_61 : decode cX6_from 61 = .ok (.invokevirtual 114, 3) := by decide +kernel
theorem dX6_from_64 : decode cX6_from 64 = .ok (.iconst 1, 1) := by decide +kernel
theorem dX6_from_65 : decode cX6_from 65 = .ok (.ireturn, 1) := by decide +kernel
theorem dX6_status_0 : decode cX6_status 0 = .ok (.iload_n 1, 1) := by decide +kernel
theorem dX6_status_1 : decode cX6_status 1 = .ok (.tableswitch 42 0 2 #[27, 32, 37], 27) := by decide +kernel
theorem dX6_status_28 : decode cX6_status 28 = .ok (.aload_n 0, 1) := by decide +kernel
theorem dX6_status_29 : decode cX6_status 29 = .ok (.getfield 71, 3) := by decide +kernel
theorem dX6_status_32 : decode cX6_status 32 = .ok (.ireturn, 1) := by decide +kernel
theorem dX6_status_33 : decode cX6_status 33 = .ok (.aload_n 0, 1) := by decide +kernel
theorem dX6_status_34 : decode cX6_status 34 = .ok (.getfield 75, 3) := by decide +kernel
theorem dX6_status_37 : decode cX6_status 37 = .ok (.ireturn, 1) := by decide +kernel
theorem dX6_status_38 : decode cX6_status 38 = .ok (.aload_n 0, 1) := by decide +kernel
theorem dX6_status_39 : decode cX6_status 39 = .ok (.getfield 78, 3) := by decide +kernel
theorem dX6_status_42 : decode cX6_status 42 = .ok (.ireturn, 1) := by decide +kernel
theorem dX6_status_43 : decode cX6_status 43 = .ok (.aload_n 0, 1) := by decide +kernel
theorem dX6_status_44 : decode cX6_status 44 = .ok (.iconst (-1), 1) := by decide +kernel
theorem dX6_status_45 : decode cX6_status 45 = .ok (.invokevirtual 85, 3) := by decide +kernel
theorem dX6_status_48 : decode cX6_status 48 = .ok (.ireturn, 1) := by decide +kernel
theorem dX6_count_0 : decode cX6_count 0 = .ok (.iload_n 1, 1) := by decide +kernel
theorem dX6_count_1 : decode cX6_count 1 = .ok (.iconst 0, 1) := by decide +kernel
theorem dX6_count_2 : decode cX6_count 2 = .ok (.bipush 10, 2) := by decide +kernel
theorem dX6_count_4 : decode cX6_count 4 = .ok (.invokestatic 81, 3) := by decide +kernel
theorem dX6_count_7 : decode cX6_count 7 = .ok (.ifCond .eq 11, 3) := by decide +kernel
theorem dX6_count_10 : decode cX6_count 10 = .ok (.aload_n 0, 1) := by decide +kernel
theorem dX6_count_11 : decode cX6_count 11 = .ok (.sipush (-1002), 3) := by decide +kernel
theorem dX6_count_14 : decode cX6_count 14 = .ok (.invokevirtual 85, 3) := by decide +kernel
theorem dX6_count_17 : decode cX6_count 17 = .ok (.ireturn, 1) := by decide +kernel
theorem dX6_count_18 : decode cX6_count 18 = .ok (.aload_n 0, 1) := by decide +kernel
theorem dX6_count_19 : decode cX6_count 19 = .ok (.iload_n 1, 1) := by decide +kernel
theorem dX6_count_20 : decode cX6_count 20 = .ok (.invokevirtual 297, 3) := by decide +kernel
theorem dX6_count_23 : decode cX6_count 23 = .ok (.ireturn, 1) := by decide +kernel
theorem dX6_digest_0 : decode cX6_digest 0 = .ok (.ldc2_w 300, 3) := by decide +kernel
theorem dX6_digest_3 : decode cX6_digest 3 = .ok (.lstore_n 1, 1) := by decide +kernel
theorem dX6_digest_4 : decode cX6_digest 4 = .ok (.iconst 0, 1) := by decide +kernel
theorem dX6_digest_5 : decode cX6_digest 5 = .ok (.istore_n 3, 1) := by decide +kernel
theorem dX6_digest_6 : decode cX6_digest 6 = .ok (.iload_n 3, 1) := by decide +kernel
theorem dX6_digest_7 : decode cX6_digest 7 = .ok (.bipush 10, 2) := by decide +kernel
theorem dX6_digest_9 : decode cX6_digest 9 = .ok (.if_icmp .gt 22, 3) := by decide +kernel
theorem dX6_digest_12 : decode cX6_digest 12 = .ok (.ldc2_w 302, 3) := by decide +kernel
theorem dX6_digest_15 : decode cX6_digest 15 = .ok (.lload_n 1, 1) := by decide +kernel
theorem dX6_digest_16 : decode cX6_digest 16 = .ok (.lmul, 1) := by decide +kernel
theorem dX6_digest_17 : decode cX6_digest 17 = .ok (.aload_n 0, 1) := by decide +kernel
theorem dX6_digest_18 : decode cX6_digest 18 = .ok (.iload_n 3, 1) := by decide +kernel
theorem dX6_digest_19 : decode cX6_digest 19 = .ok (.invokevirtual 297, 3) := by decide +kernel
theorem dX6_digest_22 : decode cX6_digest 22 = .ok (.i2l, 1) := by decide +kernel
theorem dX6_digest_23 : decode cX6_digest 23 = .ok (.ladd, 1) := by decide +kernel
theorem dX6_digest_24 : decode cX6_digest 24 = .ok (.lstore_n 1, 1) := by decide +kernel
theorem dX6_digest_25 : decode cX6_digest 25 = .ok (.iinc 3 1, 3) := by decide +kernel
theorem dX6_digest_28 : decode cX6_digest 28 = .ok (.goto (-22), 3) := by decide +kernel
theorem dX6_digest_31 : decode cX6_digest 31 = .ok (.iconst 0, 1) := by decide +kernel
theorem dX6_digest_32 : decode cX6_digest 32 = .ok (.istore_n 3, 1) := by decide +kernel
theorem dX6_digest_33 : decode cX6_digest 33 = .ok (.iload_n 3, 1) := by decide +kernel
theorem dX6_digest_34 : decode cX6_digest 34 = .ok (.aload_n 0, 1) := by decide +kernel
theorem dX6_digest_35 : decode cX6_digest 35 = .ok (.getfield 10, 3) := by decide +kernel
theorem dX6_digest_38 : decode cX6_digest 38 = .ok (.getfield 89, 3) := by decide +kernel
theorem dX6_digest_41 : decode cX6_digest 41 = .ok (.if_icmp .ge 43, 3) := by decide +kernel
theorem dX6_digest_44 : decode cX6_digest 44 = .ok (.iconst 0, 1) := by decide +kernel
theorem dX6_digest_45 : decode cX6_digest 45 = .ok (.istore 4, 2) := by decide +kernel
theorem dX6_digest_47 : decode cX6_digest 47 = .ok (.iload 4, 2) := by decide +kernel
theorem dX6_digest_49 : decode cX6_digest 49 = .ok (.bipush 6, 2) := by decide +kernel
theorem dX6_digest_51 : decode cX6_digest 51 = .ok (.if_icmp .gt 27, 3) := by decide +kernel
theorem dX6_digest_54 : decode cX6_digest 54 = .ok (.ldc2_w 302, 3) := by decide +kernel
theorem dX6_digest_57 : decode cX6_digest 57 = .ok (.lload_n 1, 1) := by decide +kernel
theorem dX6_digest_58 : decode cX6_digest 58 = .ok (.lmul, 1) := by decide +kernel
theorem dX6_digest_59 : decode cX6_digest 59 = .ok (.aload_n 0, 1) := by decide +kernel
theorem dX6_digest_60 : decode cX6_digest 60 = .ok (.getfield 10, 3) := by decide +kernel
theorem dX6_digest_63 : decode cX6_digest 63 = .ok (.iload_n 3, 1) := by decide +kernel
theorem dX6_digest_64 : decode cX6_digest 64 = .ok (.iload 4, 2) := by decide +kernel
theorem dX6_digest_66 : decode cX6_digest 66 = .ok (.invokevirtual 167, 3) := by decide +kernel
theorem dX6_digest_69 : decode cX6_digest 69 = .ok (.i2l, 1) := by decide +kernel
theorem dX6_digest_70 : decode cX6_digest 70 = .ok (.ladd, 1) := by decide +kernel
theorem dX6_digest_71 : decode cX6_digest 71 = .ok (.lstore_n 1, 1) := by decide +kernel
theorem dX6_digest_72 : decode cX6_digest 72 = .ok (.iinc 4 1, 3) := by decide +kernel
theorem dX6_digest_75 : decode cX6_digest 75 = .ok (.goto (-28), 3) := by decide +kernel
theorem dX6_digest_78 : decode cX6_digest 78 = .ok (.iinc 3 1, 3) := by decide +kernel
theorem dX6_digest_81 : decode cX6_digest 81 = .ok (.goto (-48), 3) := by decide +kernel
theorem dX6_digest_84 : decode cX6_digest 84 = .ok (.iconst 0, 1) := by decide +kernel
theorem dX6_digest_85 : decode cX6_digest 85 = .ok (.istore_n 3, 1) := by decide +kernel
theorem dX6_digest_86 : decode cX6_digest 86 = .ok (.iload_n 3, 1) := by decide +kernel
theorem dX6_digest_87 : decode cX6_digest 87 = .ok (.bipush 8, 2) := by decide +kernel
theorem dX6_digest_89 : decode cX6_digest 89 = .ok (.if_icmp .ge 47, 3) := by decide +kernel
theorem dX6_digest_92 : decode cX6_digest 92 = .ok (.ldc2_w 302, 3) := by decide +kernel
theorem dX6_digest_95 : decode cX6_digest 95 = .ok (.lload_n 1, 1) := by decide +kernel
theorem dX6_digest_96 : decode cX6_digest 96 = .ok (.lmul, 1) := by decide +kernel
theorem dX6_digest_97 : decode cX6_digest 97 = .ok (.aload_n 0, 1) := by decide +kernel
theorem dX6_digest_98 : decode cX6_digest 98 = .ok (.getfield 10, 3) := by decide +kernel
theorem dX6_digest_101 : decode cX6_digest 101 = .ok (.getfield 202, 3) := by decide +kernel
theorem dX6_digest_104 : decode cX6_digest 104 = .ok (.iload_n 3, 1) := by decide +kernel
theorem dX6_digest_105 : decode cX6_digest 105 = .ok (.invokestatic 195, 3) := by decide +kernel
theorem dX6_digest_108 : decode cX6_digest 108 = .ok (.i2l, 1) := by decide +kernel
theorem dX6_digest_109 : decode cX6_digest 109 = .ok (.ladd, 1) := by decide +kernel
theorem dX6_digest_110 : decode cX6_digest 110 = .ok (.lstore_n 1, 1) := by decide +kernel
theorem dX6_digest_111 : decode cX6_digest 111 = .ok (.ldc2_w 302, 3) := by decide +kernel
theorem dX6_digest_114 : decode cX6_digest 114 = .ok (.lload_n 1, 1) := by decide +kernel
theorem dX6_digest_115 : decode cX6_digest 115 = .ok (.lmul, 1) := by decide +kernel
theorem dX6_digest_116 : decode cX6_digest 116 = .ok (.aload_n 0, 1) := by decide +kernel
theorem dX6_digest_117 : decode cX6_digest 117 = .ok (.getfield 10, 3) := by decide +kernel
theorem dX6_digest_120 : decode cX6_digest 120 = .ok (.getfield 205, 3) := by decide +kernel
theorem dX6_digest_123 : decode cX6_digest 123 = .ok (.iload_n 3, 1) := by decide +kernel
theorem dX6_digest_124 : decode cX6_digest 124 = .ok (.invokestatic 195, 3) := by decide +kernel
theorem dX6_digest_127 : decode cX6_digest 127 = .ok (.i2l, 1) := by decide +kernel
theorem dX6_digest_128 : decode cX6_digest 128 = .ok (.ladd, 1) := by decide +kernel
theorem dX6_digest_129 : decode cX6_digest 129 = .ok (.lstore_n 1, 1) := by decide +kernel
theorem dX6_digest_130 : decode cX6_digest 130 = .ok (.iinc 3 1, 3) := by decide +kernel
theorem dX6_digest_133 : decode cX6_digest 133 = .ok (.goto (-47), 3) := by decide +kernel
theorem dX6_digest_136 : decode cX6_digest 136 = .ok (.ldc2_w 302, 3) := by decide +kernel
theorem dX6_digest_139 : decode cX6_digest 139 = .ok (.lload_n 1, 1) := by decide +kernel
theorem dX6_digest_140 : decode cX6_digest 140 = .ok (.lmul, 1) := by decide +kernel
theorem dX6_digest_141 : decode cX6_digest 141 = .ok (.aload_n 0, 1) := by decide +kernel
theorem dX6_digest_142 : decode cX6_digest 142 = .ok (.getfield 10, 3) := by decide +kernel
theorem dX6_digest_145 : decode cX6_digest 145 = .ok (.getfield 208, 3) := by decide +kernel
theorem dX6_digest_148 : decode cX6_digest 148 = .ok (.i2l, 1) := by decide +kernel
theorem dX6_digest_149 : decode cX6_digest 149 = .ok (.ladd, 1) := by decide +kernel
theorem dX6_digest_150 : decode cX6_digest 150 = .ok (.lstore_n 1, 1) := by decide +kernel
theorem dX6_digest_151 : decode cX6_digest 151 = .ok (.aload_n 0, 1) := by decide +kernel
theorem dX6_digest_152 : decode cX6_digest 152 = .ok (.getfield 10, 3) := by decide +kernel
theorem dX6_digest_155 : decode cX6_digest 155 = .ok (.getfield 218, 3) := by decide +kernel
theorem dX6_digest_158 : decode cX6_digest 158 = .ok (.lload_n 1, 1) := by decide +kernel
theorem dX6_digest_159 : decode cX6_digest 159 = .ok (.invokevirtual 304, 3) := by decide +kernel
theorem dX6_digest_162 : decode cX6_digest 162 = .ok (.lstore_n 1, 1) := by decide +kernel
theorem dX6_digest_163 : decode cX6_digest 163 = .ok (.aload_n 0, 1) := by decide +kernel
theorem dX6_digest_164 : decode cX6_digest 164 = .ok (.getfield 10, 3) := by decide +kernel
theorem dX6_digest_167 : decode cX6_digest 167 = .ok (.getfield 247, 3) := by decide +kernel
theorem dX6_digest_170 : decode cX6_digest 170 = .ok (.lload_n 1, 1) := by decide +kernel
theorem dX6_digest_171 : decode cX6_digest 171 = .ok (.invokevirtual 304, 3) := by decide +kernel
theorem dX6_digest_174 : decode cX6_digest 174 = .ok (.lstore_n 1, 1) := by decide +kernel
theorem dX6_digest_175 : decode cX6_digest 175 = .ok (.aload_n 0, 1) := by decide +kernel
theorem dX6_digest_176 : decode cX6_digest 176 = .ok (.getfield 10, 3) := by decide +kernel
theorem dX6_digest_179 : decode cX6_digest 179 = .ok (.getfield 250, 3) := by decide +kernel
theorem dX6_digest_182 : decode cX6_digest 182 = .ok (.lload_n 1, 1) := by decide +kernel
theorem dX6_digest_183 : decode cX6_digest 183 = .ok (.invokevirtual 304, 3) := by decide +kernel
theorem dX6_digest_186 : decode cX6_digest 186 = .ok (.lstore_n 1, 1) := by decide +kernel
theorem dX6_digest_187 : decode cX6_digest 187 = .ok (.ldc2_w 302, 3) := by decide +kernel
theorem dX6_digest_190 : decode cX6_digest 190 = .ok (.lload_n 1, 1) := by decide +kernel
theorem dX6_digest_191 : decode cX6_digest 191 = .ok (.lmul, 1) := by decide +kernel
theorem dX6_digest_192 : decode cX6_digest 192 = .ok (.aload_n 0, 1) := by decide +kernel
theorem dX6_digest_193 : decode cX6_digest 193 = .ok (.getfield 64, 3) := by decide +kernel
theorem dX6_digest_196 : decode cX6_digest 196 = .ok (.ladd, 1) := by decide +kernel
theorem dX6_digest_197 : decode cX6_digest 197 = .ok (.lstore_n 1, 1) := by decide +kernel
theorem dX6_digest_198 : decode cX6_digest 198 = .ok (.ldc2_w 302, 3) := by decide +kernel
theorem dX6_digest_201 : decode cX6_digest 201 = .ok (.lload_n 1, 1) := by decide +kernel
theorem dX6_digest_202 : decode cX6_digest 202 = .ok (.lmul, 1) := by decide +kernel
theorem dX6_digest_203 : decode cX6_digest 203 = .ok (.aload_n 0, 1) := by decide +kernel
theorem dX6_digest_204 : decode cX6_digest 204 = .ok (.getfield 68, 3) := by decide +kernel
theorem dX6_digest_207 : decode cX6_digest 207 = .ok (.ladd, 1) := by decide +kernel
theorem dX6_digest_208 : decode cX6_digest 208 = .ok (.lreturn, 1) := by decide +kernel
theorem dX6_refuseBad_0 : decode cX6_refuseBad 0 = .ok (.aload_n 0, 1) := by decide +kernel
theorem dX6_refuseBad_1 : decode cX6_refuseBad 1 = .ok (.dup, 1) := by decide +kernel
theorem dX6_refuseBad_2 : decode cX6_refuseBad 2 = .ok (.getfield 71, 3) := by decide +kernel
theorem dX6_refuseBad_5 : decode cX6_refuseBad 5 = .ok (.iconst 1, 1) := by decide +kernel
theorem dX6_refuseBad_6 : decode cX6_refuseBad 6 = .ok (.iadd, 1) := by decide +kernel
theorem dX6_refuseBad_7 : decode cX6_refuseBad 7 = .ok (.putfield 71, 3) := by decide +kernel
theorem dX6_refuseBad_10 : decode cX6_refuseBad 10 = .ok (.iload_n 1, 1) := by decide +kernel
theorem dX6_refuseBad_11 : decode cX6_refuseBad 11 = .ok (.ireturn, 1) := by decide +kernel
theorem dX6_refuseNo_0 : decode cX6_refuseNo 0 = .ok (.aload_n 0, 1) := by decide +kernel
theorem dX6_refuseNo_1 : decode cX6_refuseNo 1 = .ok (.dup, 1) := by decide +kernel
theorem dX6_refuseNo_2 : decode cX6_refuseNo 2 = .ok (.getfield 75, 3) := by decide +kernel
theorem dX6_refuseNo_5 : decode cX6_refuseNo 5 = .ok (.iconst 1, 1) := by decide +kernel
theorem dX6_refuseNo_6 : decode cX6_refuseNo 6 = .ok (.iadd, 1) := by decide +kernel
theorem dX6_refuseNo_7 : decode cX6_refuseNo 7 = .ok (.putfield 75, 3) := by decide +kernel
theorem dX6_refuseNo_10 : decode cX6_refuseNo 10 = .ok (.sipush (-1003), 3) := by decide +kernel
theorem dX6_refuseNo_13 : decode cX6_refuseNo 13 = .ok (.ireturn, 1) := by decide +kernel
theorem dX6_refuseFull_0 : decode cX6_refuseFull 0 = .ok (.aload_n 0, 1) := by decide +kernel
theorem dX6_refuseFull_1 : decode cX6_refuseFull 1 = .ok (.dup, 1) := by decide +kernel
theorem dX6_refuseFull_2 : decode cX6_refuseFull 2 = .ok (.getfield 78, 3) := by decide +kernel
theorem dX6_refuseFull_5 : decode cX6_refuseFull 5 = .ok (.iconst 1, 1) := by decide +kernel
theorem dX6_refuseFull_6 : decode cX6_refuseFull 6 = .ok (.iadd, 1) := by decide +kernel
theorem dX6_refuseFull_7 : decode cX6_refuseFull 7 = .ok (.putfield 78, 3) := by decide +kernel
theorem dX6_refuseFull_10 : decode cX6_refuseFull 10 = .ok (.sipush (-1004), 3) := by decide +kernel
theorem dX6_refuseFull_13 : decode cX6_refuseFull 13 = .ok (.ireturn, 1) := by decide +kernel
theorem dX6_noLimb_0 : decode cX6_noLimb 0 = .ok (.iload_n 1, 1) := by decide +kernel
theorem dX6_noLimb_1 : decode cX6_noLimb 1 = .ok (.iconst 0, 1) := by decide +kernel
theorem dX6_noLimb_2 : decode cX6_noLimb 2 = .ok (.aload_n 0, 1) := by decide +kernel
theorem dX6_noLimb_3 : decode cX6_noLimb 3 = .ok (.getfield 10, 3) := by decide +kernel
theorem dX6_noLimb_6 : decode cX6_noLimb 6 = .ok (.getfield 89, 3) := by decide +kernel
theorem dX6_noLimb_9 : decode cX6_noLimb 9 = .ok (.iconst 1, 1) := by decide +kernel
theorem dX6_noLimb_10 : decode cX6_noLimb 10 = .ok (.isub, 1) := by decide +kernel
theorem dX6_noLimb_11 : decode cX6_noLimb 11 = .ok (.invokestatic 81, 3) := by decide +kernel
theorem dX6_noLimb_14 : decode cX6_noLimb 14 = .ok (.ireturn, 1) := by decide +kernel
theorem dX6_notHigh_0 : decode cX6_notHigh 0 = .ok (.iload_n 0, 1) := by decide +kernel
theorem dX6_notHigh_1 : decode cX6_notHigh 1 = .ok (.bipush (-40), 2) := by decide +kernel
theorem dX6_notHigh_3 : decode cX6_notHigh 3 = .ok (.bipush 60, 2) := by decide +kernel
theorem dX6_notHigh_5 : decode cX6_notHigh 5 = .ok (.invokestatic 81, 3) := by decide +kernel
theorem dX6_notHigh_8 : decode cX6_notHigh 8 = .ok (.ireturn, 1) := by decide +kernel
theorem dX6_outside_0 : decode cX6_outside 0 = .ok (.iload_n 0, 1) := by decide +kernel
theorem dX6_outside_1 : decode cX6_outside 1 = .ok (.iload_n 1, 1) := by decide +kernel
theorem dX6_outside_2 : decode cX6_outside 2 = .ok (.if_icmp .lt 8, 3) := by decide +kernel
theorem dX6_outside_5 : decode cX6_outside 5 = .ok (.iload_n 0, 1) := by decide +kernel
theorem dX6_outside_6 : decode cX6_outside 6 = .ok (.iload_n 2, 1) := by decide +kernel
theorem dX6_outside_7 : decode cX6_outside 7 = .ok (.if_icmp .le 7, 3) := by decide +kernel
theorem dX6_outside_10 : decode cX6_outside 10 = .ok (.iconst 1, 1) := by decide +kernel
theorem dX6_outside_11 : decode cX6_outside 11 = .ok (.goto 4, 3) := by decide +kernel
theorem dX6_outside_14 : decode cX6_outside 14 = .ok (.iconst 0, 1) := by decide +kernel
theorem dX6_outside_15 : decode cX6_outside 15 = .ok (.ireturn, 1) := by decide +kernel
theorem dX6_cell_0 : decode cX6_cell 0 = .ok (.iload_n 1, 1) := by decide +kernel
theorem dX6_cell_1 : decode cX6_cell 1 = .ok (.ifCond .lt 15, 3) := by decide +kernel
theorem dX6_cell_4 : decode cX6_cell 4 = .ok (.iload_n 1, 1) := by decide +kernel
theorem dX6_cell_5 : decode cX6_cell 5 = .ok (.aload_n 0, 1) := by decide +kernel
theorem dX6_cell_6 : decode cX6_cell 6 = .ok (.arraylength, 1) := by decide +kernel
theorem dX6_cell_7 : decode cX6_cell 7 = .ok (.if_icmp .ge 9, 3) := by decide +kernel
theorem dX6_cell_10 : decode cX6_cell 10 = .ok (.aload_n 0, 1) := by decide +kernel
theorem dX6_cell_11 : decode cX6_cell 11 = .ok (.iload_n 1, 1) := by decide +kernel
theorem dX6_cell_12 : decode cX6_cell 12 = .ok (.iaload, 1) := by decide +kernel
theorem dX6_cell_13 : decode cX6_cell 13 = .ok (.goto 4, 3) := by decide +kernel
theorem dX6_cell_16 : decode cX6_cell 16 = .ok (.iconst 0, 1) := by decide +kernel
theorem dX6_cell_17 : decode cX6_cell 17 = .ok (.ireturn, 1) := by decide +kernel
theorem dX6_put_0 : decode cX6_put 0 = .ok (.iload_n 1, 1) := by decide +kernel
theorem dX6_put_1 : decode cX6_put 1 = .ok (.ifCond .lt 13, 3) := by decide +kernel
theorem dX6_put_4 : decode cX6_put 4 = .ok (.iload_n 1, 1) := by decide +kernel
theorem dX6_put_5 : decode cX6_put 5 = .ok (.aload_n 0, 1) := by decide +kernel
theorem dX6_put_6 : decode cX6_put 6 = .ok (.arraylength, 1) := by decide +kernel
theorem dX6_put_7 : decode cX6_put 7 = .ok (.if_icmp .ge 7, 3) := by decide +kernel
theorem dX6_put_10 : decode cX6_put 10 = .ok (.aload_n 0, 1) := by decide +kernel
theorem dX6_put_11 : decode cX6_put 11 = .ok (.iload_n 1, 1) := by decide +kernel
theorem dX6_put_12 : decode cX6_put 12 = .ok (.iload_n 2, 1) := by decide +kernel
theorem dX6_put_13 : decode cX6_put 13 = .ok (.iastore, 1) := by decide +kernel
theorem dX6_put_14 : decode cX6_put 14 = .ok (.return_, 1) := by decide +kernel
theorem dX6_copyRow_0 : decode cX6_copyRow 0 = .ok (.iconst 0, 1) := by decide +kernel
theorem dX6_copyRow_1 : decode cX6_copyRow 1 = .ok (.istore_n 2, 1) := by decide +kernel
theorem dX6_copyRow_2 : decode cX6_copyRow 2 = .ok (.iload_n 2, 1) := by decide +kernel
theorem dX6_copyRow_3 : decode cX6_copyRow 3 = .ok (.aload_n 0, 1) := by decide +kernel
theorem dX6_copyRow_4 : decode cX6_copyRow 4 = .ok (.arraylength, 1) := by decide +kernel
theorem dX6_copyRow_5 : decode cX6_copyRow 5 = .ok (.if_icmp .ge 21, 3) := by decide +kernel
theorem dX6_copyRow_8 : decode cX6_copyRow 8 = .ok (.iload_n 2, 1) := by decide +kernel
theorem dX6_copyRow_9 : decode cX6_copyRow 9 = .ok (.aload_n 1, 1) := by decide +kernel
theorem dX6_copyRow_10 : decode cX6_copyRow 10 = .ok (.arraylength, 1) := by decide +kernel
theorem dX6_copyRow_11 : decode cX6_copyRow 11 = .ok (.if_icmp .ge 15, 3) := by decide +kernel
theorem dX6_copyRow_14 : decode cX6_copyRow 14 = .ok (.aload_n 1, 1) := by decide +kernel
theorem dX6_copyRow_15 : decode cX6_copyRow 15 = .ok (.iload_n 2, 1) := by decide +kernel
theorem dX6_copyRow_16 : decode cX6_copyRow 16 = .ok (.aload_n 0, 1) := by decide +kernel
theorem dX6_copyRow_17 : decode cX6_copyRow 17 = .ok (.iload_n 2, 1) := by decide +kernel
theorem dX6_copyRow_18 : decode cX6_copyRow 18 = .ok (.iaload, 1) := by decide +kernel
theorem dX6_copyRow_19 : decode cX6_copyRow 19 = .ok (.iastore, 1) := by decide +kernel
theorem dX6_copyRow_20 : decode cX6_copyRow 20 = .ok (.iinc 2 1, 3) := by decide +kernel
theorem dX6_copyRow_23 : decode cX6_copyRow 23 = .ok (.goto (-21), 3) := by decide +kernel
theorem dX6_copyRow_26 : decode cX6_copyRow 26 = .ok (.return_, 1) := by decide +kernel
theorem dX6_hasBit_0 : decode cX6_hasBit 0 = .ok (.iload_n 0, 1) := by decide +kernel
theorem dX6_hasBit_1 : decode cX6_hasBit 1 = .ok (.iload_n 1, 1) := by decide +kernel
theorem dX6_hasBit_2 : decode cX6_hasBit 2 = .ok (.ishr, 1) := by decide +kernel
theorem dX6_hasBit_3 : decode cX6_hasBit 3 = .ok (.iconst 1, 1) := by decide +kernel
theorem dX6_hasBit_4 : decode cX6_hasBit 4 = .ok (.iand, 1) := by decide +kernel
theorem dX6_hasBit_5 : decode cX6_hasBit 5 = .ok (.iconst 1, 1) := by decide +kernel
theorem dX6_hasBit_6 : decode cX6_hasBit 6 = .ok (.if_icmp .ne 7, 3) := by decide +kernel
theorem dX6_hasBit_9 : decode cX6_hasBit 9 = .ok (.iconst 1, 1) := by decide +kernel
theorem dX6_hasBit_10 : decode cX6_hasBit 10 = .ok (.goto 4, 3) := by decide +kernel
theorem dX6_hasBit_13 : decode cX6_hasBit 13 = .ok (.iconst 0, 1) := by decide +kernel
theorem dX6_hasBit_14 : decode cX6_hasBit 14 = .ok (.ireturn, 1) := by decide +kernel
theorem dX6_leastBit_0 : decode cX6_leastBit 0 = .ok (.iconst 0, 1) := by decide +kernel
theorem dX6_leastBit_1 : decode cX6_leastBit 1 = .ok (.istore_n 1, 1) := by decide +kernel
theorem dX6_leastBit_2 : decode cX6_leastBit 2 = .ok (.iload_n 1, 1) := by decide +kernel
theorem dX6_leastBit_3 : decode cX6_leastBit 3 = .ok (.bipush 31, 2) := by decide +kernel
theorem dX6_leastBit_5 : decode cX6_leastBit 5 = .ok (.if_icmp .ge 17, 3) := by decide +kernel
theorem dX6_leastBit_8 : decode cX6_leastBit 8 = .ok (.iload_n 0, 1) := by decide +kernel
theorem dX6_leastBit_9 : decode cX6_leastBit 9 = .ok (.iload_n 1, 1) := by decide +kernel
theorem dX6_leastBit_10 : decode cX6_leastBit 10 = .ok (.invokestatic 308, 3) := by decide +kernel
theorem dX6_leastBit_13 : decode cX6_leastBit 13 = .ok (.ifCond .ne 9, 3) := by decide +kernel
theorem dX6_leastBit_16 : decode cX6_leastBit 16 = .ok (.iinc 1 1, 3) := by decide +kernel
theorem dX6_leastBit_19 : decode cX6_leastBit 19 = .ok (.goto (-17), 3) := by decide +kernel
theorem dX6_leastBit_22 : decode cX6_leastBit 22 = .ok (.iload_n 1, 1) := by decide +kernel
theorem dX6_leastBit_23 : decode cX6_leastBit 23 = .ok (.ireturn, 1) := by decide +kernel
theorem dX6_greatestBit_0 : decode cX6_greatestBit 0 = .ok (.bipush 31, 2) := by decide +kernel
theorem dX6_greatestBit_2 : decode cX6_greatestBit 2 = .ok (.istore_n 1, 1) := by decide +kernel
theorem dX6_greatestBit_3 : decode cX6_greatestBit 3 = .ok (.iload_n 1, 1) := by decide +kernel
theorem dX6_greatestBit_4 : decode cX6_greatestBit 4 = .ok (.ifCond .le 17, 3) := by decide +kernel
theorem dX6_greatestBit_7 : decode cX6_greatestBit 7 = .ok (.iload_n 0, 1) := by decide +kernel
theorem dX6_greatestBit_8 : decode cX6_greatestBit 8 = .ok (.iload_n 1, 1) := by decide +kernel
theorem dX6_greatestBit_9 : decode cX6_greatestBit 9 = .ok (.invokestatic 308, 3) := by decide +kernel
theorem dX6_greatestBit_12 : decode cX6_greatestBit 12 = .ok (.ifCond .ne 9, 3) := by decide +kernel
theorem dX6_greatestBit_15 : decode cX6_greatestBit 15 = .ok (.iinc 1 (-1), 3) := by decide +kernel
theorem dX6_greatestBit_18 : decode cX6_greatestBit 18 = .ok (.goto (-15), 3) := by decide +kernel
theorem dX6_greatestBit_21 : decode cX6_greatestBit 21 = .ok (.iload_n 1, 1) := by decide +kernel
theorem dX6_greatestBit_22 : decode cX6_greatestBit 22 = .ok (.ireturn, 1) := by decide +kernel
theorem dX6_mostAlike_0 : decode cX6_mostAlike 0 = .ok (.iconst 0, 1) := by decide +kernel
theorem dX6_mostAlike_1 : decode cX6_mostAlike 1 = .ok (.istore_n 2, 1) := by decide +kernel
theorem dX6_mostAlike_2 : decode cX6_mostAlike 2 = .ok (.iconst 0, 1) := by decide +kernel
theorem dX6_mostAlike_3 : decode cX6_mostAlike 3 = .ok (.istore_n 3, 1) := by decide +kernel
theorem dX6_mostAlike_4 : decode cX6_mostAlike 4 = .ok (.iload_n 3, 1) := by decide +kernel
theorem dX6_mostAlike_5 : decode cX6_mostAlike 5 = .ok (.iload_n 1, 1) := by decide +kernel
theorem dX6_mostAlike_6 : decode cX6_mostAlike 6 = .ok (.if_icmp .ge 60, 3) := by decide +kernel
theorem dX6_mostAlike_9 : decode cX6_mostAlike 9 = .ok (.iload_n 3, 1) := by decide +kernel
theorem dX6_mostAlike_10 : decode cX6_mostAlike 10 = .ok (.aload_n 0, 1) := by decide +kernel
theorem dX6_mostAlike_11 : decode cX6_mostAlike 11 = .ok (.arraylength, 1) := by decide +kernel
theorem dX6_mostAlike_12 : decode cX6_mostAlike 12 = .ok (.if_icmp .ge 54, 3) := by decide +kernel
theorem dX6_mostAlike_15 : decode cX6_mostAlike 15 = .ok (.iconst 0, 1) := by decide +kernel
theorem dX6_mostAlike_16 : decode cX6_mostAlike 16 = .ok (.istore 4, 2) := by decide +kernel
theorem dX6_mostAlike_18 : decode cX6_mostAlike 18 = .ok (.iconst 0, 1) := by decide +kernel
theorem dX6_mostAlike_19 : decode cX6_mostAlike 19 = .ok (.istore 5, 2) := by decide +kernel
theorem dX6_mostAlike_21 : decode cX6_mostAlike 21 = .ok (.iload 5, 2) := by decide +kernel
theorem dX6_mostAlike_23 : decode cX6_mostAlike 23 = .ok (.iload_n 1, 1) := by decide +kernel
theorem dX6_mostAlike_24 : decode cX6_mostAlike 24 = .ok (.if_icmp .ge 29, 3) := by decide +kernel
theorem dX6_mostAlike_27 : decode cX6_mostAlike 27 = .ok (.iload 5, 2) := by decide +kernel
theorem dX6_mostAlike_29 : decode cX6_mostAlike 29 = .ok (.aload_n 0, 1) := by decide +kernel
theorem dX6_mostAlike_30 : decode cX6_mostAlike 30 = .ok (.arraylength, 1) := by decide +kernel
theorem dX6_mostAlike_31 : decode cX6_mostAlike 31 = .ok (.if_icmp .ge 22, 3) := by decide +kernel
theorem dX6_mostAlike_34 : decode cX6_mostAlike 34 = .ok (.aload_n 0, 1) := by decide +kernel
theorem dX6_mostAlike_35 : decode cX6_mostAlike 35 = .ok (.iload_n 3, 1) := by decide +kernel
theorem dX6_mostAlike_36 : decode cX6_mostAlike 36 = .ok (.iaload, 1) := by decide +kernel
theorem dX6_mostAlike_37 : decode cX6_mostAlike 37 = .ok (.aload_n 0, 1) := by decide +kernel
theorem dX6_mostAlike_38 : decode cX6_mostAlike 38 = .ok (.iload 5, 2) := by decide +kernel
theorem dX6_mostAlike_40 : decode cX6_mostAlike 40 = .ok (.iaload, 1) := by decide +kernel
theorem dX6_mostAlike_41 : decode cX6_mostAlike 41 = .ok (.if_icmp .ne 6, 3) := by decide +kernel
theorem dX6_mostAlike_44 : decode cX6_mostAlike 44 = .ok (.iinc 4 1, 3) := by decide +kernel
theorem dX6_mostAlike_47 : decode cX6_mostAlike 47 = .ok (.iinc 5 1, 3) := by decide +kernel
theorem dX6_mostAlike_50 : decode cX6_mostAlike 50 = .ok (.goto (-29), 3) := by decide +kernel
theorem dX6_mostAlike_53 : decode cX6_mostAlike 53 = .ok (.iload_n 2, 1) := by decide +kernel
theorem dX6_mostAlike_54 : decode cX6_mostAlike 54 = .ok (.iload 4, 2) := by decide +kernel
theorem dX6_mostAlike_56 : decode cX6_mostAlike 56 = .ok (.invokestatic 311, 3) := by decide +kernel
theorem dX6_mostAlike_59 : decode cX6_mostAlike 59 = .ok (.istore_n 2, 1) := by decide +kernel
theorem dX6_mostAlike_60 : decode cX6_mostAlike 60 = .ok (.iinc 3 1, 3) := by decide +kernel
theorem dX6_mostAlike_63 : decode cX6_mostAlike 63 = .ok (.goto (-59), 3) := by decide +kernel
theorem dX6_mostAlike_66 : decode cX6_mostAlike 66 = .ok (.iload_n 2, 1) := by decide +kernel
theorem dX6_mostAlike_67 : decode cX6_mostAlike 67 = .ok (.ireturn, 1) := by decide +kernel
theorem dX6_dropOf_0 : decode cX6_dropOf 0 = .ok (.iload_n 1, 1) := by decide +kernel
theorem dX6_dropOf_1 : decode cX6_dropOf 1 = .ok (.iload_n 2, 1) := by decide +kernel
theorem dX6_dropOf_2 : decode cX6_dropOf 2 = .ok (.iconst 3, 1) := by decide +kernel
theorem dX6_dropOf_3 : decode cX6_dropOf 3 = .ok (.idiv, 1) := by decide +kernel
theorem dX6_dropOf_4 : decode cX6_dropOf 4 = .ok (.iadd, 1) := by decide +kernel
theorem dX6_dropOf_5 : decode cX6_dropOf 5 = .ok (.istore 4, 2) := by decide +kernel
theorem dX6_dropOf_7 : decode cX6_dropOf 7 = .ok (.iload_n 1, 1) := by decide +kernel
theorem dX6_dropOf_8 : decode cX6_dropOf 8 = .ok (.iload_n 2, 1) := by decide +kernel
theorem dX6_dropOf_9 : decode cX6_dropOf 9 = .ok (.iadd, 1) := by decide +kernel
theorem dX6_dropOf_10 : decode cX6_dropOf 10 = .ok (.istore 5, 2) := by decide +kernel
theorem dX6_dropOf_12 : decode cX6_dropOf 12 = .ok (.iload_n 0, 1) := by decide +kernel
theorem dX6_dropOf_13 : decode cX6_dropOf 13 = .ok (.tableswitch 72 1 5 #[35, 38, 41, 55, 63], 35) := by decide +kernel
theorem dX6_dropOf_48 : decode cX6_dropOf 48 = .ok (.iload 4, 2) := by decide +kernel
theorem dX6_dropOf_50 : decode cX6_dropOf 50 = .ok (.ireturn, 1) := by decide +kernel
theorem dX6_dropOf_51 : decode cX6_dropOf 51 = .ok (.iload 5, 2) := by decide +kernel
theorem dX6_dropOf_53 : decode cX6_dropOf 53 = .ok (.ireturn, 1) := by decide +kernel
theorem dX6_dropOf_54 : decode cX6_dropOf 54 = .ok (.iload_n 1, 1) := by decide +kernel
theorem dX6_dropOf_55 : decode cX6_dropOf 55 = .ok (.iconst 2, 1) := by decide +kernel
theorem dX6_dropOf_56 : decode cX6_dropOf 56 = .ok (.irem, 1) := by decide +kernel
theorem dX6_dropOf_57 : decode cX6_dropOf 57 = .ok (.ifCond .ne 9, 3) := by decide +kernel
theorem dX6_dropOf_60 : decode cX6_dropOf 60 = .ok (.iload_n 1, 1) := by decide +kernel
theorem dX6_dropOf_61 : decode cX6_dropOf 61 = .ok (.iconst 1, 1) := by decide +kernel
theorem dX6_dropOf_62 : decode cX6_dropOf 62 = .ok (.isub, 1) := by decide +kernel
theorem dX6_dropOf_63 : decode cX6_dropOf 63 = .ok (.goto 4, 3) := by decide +kernel
theorem dX6_dropOf_66 : decode cX6_dropOf 66 = .ok (.iload_n 1, 1) := by decide +kernel
theorem dX6_dropOf_67 : decode cX6_dropOf 67 = .ok (.ireturn, 1) := by decide +kernel
theorem dX6_dropOf_68 : decode cX6_dropOf 68 = .ok (.iload 4, 2) := by decide +kernel
theorem dX6_dropOf_70 : decode cX6_dropOf 70 = .ok (.iload_n 3, 1) := by decide +kernel
theorem dX6_dropOf_71 : decode cX6_dropOf 71 = .ok (.bipush 10, 2) := by decide +kernel
theorem dX6_dropOf_73 : decode cX6_dropOf 73 = .ok (.idiv, 1) := by decide +kernel
theorem dX6_dropOf_74 : decode cX6_dropOf 74 = .ok (.iadd, 1) := by decide +kernel
theorem dX6_dropOf_75 : decode cX6_dropOf 75 = .ok (.ireturn, 1) := by decide +kernel
theorem dX6_dropOf_76 : decode cX6_dropOf 76 = .ok (.iload 5, 2) := by decide +kernel
theorem dX6_dropOf_78 : decode cX6_dropOf 78 = .ok (.iconst 2, 1) := by decide +kernel
theorem dX6_dropOf_79 : decode cX6_dropOf 79 = .ok (.iload_n 1, 1) := by decide +kernel
theorem dX6_dropOf_80 : decode cX6_dropOf 80 = .ok (.imul, 1) := by decide +kernel
theorem dX6_dropOf_81 : decode cX6_dropOf 81 = .ok (.invokestatic 316, 3) := by decide +kernel
theorem dX6_dropOf_84 : decode cX6_dropOf 84 = .ok (.ireturn, 1) := by decide +kernel
theorem dX6_dropOf_85 : decode cX6_dropOf 85 = .ok (.iload_n 1, 1) := by decide +kernel
theorem dX6_dropOf_86 : decode cX6_dropOf 86 = .ok (.ireturn, 1) := by decide +kernel
theorem dX6_highOf_0 : decode cX6_highOf 0 = .ok (.iload_n 1, 1) := by decide +kernel
theorem dX6_highOf_1 : decode cX6_highOf 1 = .ok (.iconst 2, 1) := by decide +kernel
theorem dX6_highOf_2 : decode cX6_highOf 2 = .ok (.invokestatic 311, 3) := by decide +kernel
theorem dX6_highOf_5 : decode cX6_highOf 5 = .ok (.istore_n 3, 1) := by decide +kernel
theorem dX6_highOf_6 : decode cX6_highOf 6 = .ok (.iconst 0, 1) := by decide +kernel
theorem dX6_highOf_7 : decode cX6_highOf 7 = .ok (.iload_n 1, 1) := by decide +kernel
theorem dX6_highOf_8 : decode cX6_highOf 8 = .ok (.bipush 9, 2) := by decide +kernel
theorem dX6_highOf_10 : decode cX6_highOf 10 = .ok (.invokestatic 316, 3) := by decide +kernel
theorem dX6_highOf_13 : decode cX6_highOf 13 = .ok (.invokestatic 311, 3) := by decide +kernel
theorem dX6_highOf_16 : decode cX6_highOf 16 = .ok (.istore 4, 2) := by decide +kernel
theorem dX6_highOf_18 : decode cX6_highOf 18 = .ok (.iload_n 0, 1) := by decide +kernel
theorem dX6_highOf_19 : decode cX6_highOf 19 = .ok (.tableswitch 61 1 5 #[33, 35, 38, 43, 57], 33) := by decide +kernel
theorem dX6_highOf_52 : decode cX6_highOf 52 = .ok (.iload_n 3, 1) := by decide +kernel
theorem dX6_highOf_53 : decode cX6_highOf 53 = .ok (.ireturn, 1) := by decide +kernel
theorem dX6_highOf_54 : decode cX6_highOf 54 = .ok (.iload 4, 2) := by decide +kernel
theorem dX6_highOf_56 : decode cX6_highOf 56 = .ok (.ireturn, 1) := by decide +kernel
theorem dX6_highOf_57 : decode cX6_highOf 57 = .ok (.iload 4, 2) := by decide +kernel
theorem dX6_highOf_59 : decode cX6_highOf 59 = .ok (.iconst 2, 1) := by decide +kernel
theorem dX6_highOf_60 : decode cX6_highOf 60 = .ok (.idiv, 1) := by decide +kernel
theorem dX6_highOf_61 : decode cX6_highOf 61 = .ok (.ireturn, 1) := by decide +kernel
theorem dX6_highOf_62 : decode cX6_highOf 62 = .ok (.iload_n 2, 1) := by decide +kernel
theorem dX6_highOf_63 : decode cX6_highOf 63 = .ok (.iconst 2, 1) := by decide +kernel
theorem dX6_highOf_64 : decode cX6_highOf 64 = .ok (.irem, 1) := by decide +kernel
theorem dX6_highOf_65 : decode cX6_highOf 65 = .ok (.ifCond .ne 7, 3) := by decide +kernel
theorem dX6_highOf_68 : decode cX6_highOf 68 = .ok (.iload_n 1, 1) := by decide +kernel
theorem dX6_highOf_69 : decode cX6_highOf 69 = .ok (.goto 6, 3) := by decide +kernel
theorem dX6_highOf_72 : decode cX6_highOf 72 = .ok (.iload_n 1, 1) := by decide +kernel
theorem dX6_highOf_73 : decode cX6_highOf 73 = .ok (.iconst 1, 1) := by decide +kernel
theorem dX6_highOf_74 : decode cX6_highOf 74 = .ok (.isub, 1) := by decide +kernel
theorem dX6_highOf_75 : decode cX6_highOf 75 = .ok (.ireturn, 1) := by decide +kernel
theorem dX6_highOf_76 : decode cX6_highOf 76 = .ok (.iload_n 3, 1) := by decide +kernel
theorem dX6_highOf_77 : decode cX6_highOf 77 = .ok (.iconst 3, 1) := by decide +kernel
theorem dX6_highOf_78 : decode cX6_highOf 78 = .ok (.iadd, 1) := by decide +kernel
theorem dX6_highOf_79 : decode cX6_highOf 79 = .ok (.ireturn, 1) := by decide +kernel
theorem dX6_highOf_80 : decode cX6_highOf 80 = .ok (.iload_n 1, 1) := by decide +kernel
theorem dX6_highOf_81 : decode cX6_highOf 81 = .ok (.ireturn, 1) := by decide +kernel
theorem dX6_liftBehind_0 : decode cX6_liftBehind 0 = .ok (.iload_n 1, 1) := by decide +kernel
theorem dX6_liftBehind_1 : decode cX6_liftBehind 1 = .ok (.ifCond .ne 12, 3) := by decide +kernel
theorem dX6_liftBehind_4 : decode cX6_liftBehind 4 = .ok (.iload_n 0, 1) := by decide +kernel
theorem dX6_liftBehind_5 : decode cX6_liftBehind 5 = .ok (.iconst 3, 1) := by decide +kernel
theorem dX6_liftBehind_6 : decode cX6_liftBehind 6 = .ok (.iadd, 1) := by decide +kernel
theorem dX6_liftBehind_7 : decode cX6_liftBehind 7 = .ok (.bipush 40, 2) := by decide +kernel
theorem dX6_liftBehind_9 : decode cX6_liftBehind 9 = .ok (.invokestatic 316, 3) := by decide +kernel
theorem dX6_liftBehind_12 : decode cX6_liftBehind 12 = .ok (.ireturn, 1) := by decide +kernel
theorem dX6_liftBehind_13 : decode cX6_liftBehind 13 = .ok (.iload_n 1, 1) := by decide +kernel
theorem dX6_liftBehind_14 : decode cX6_liftBehind 14 = .ok (.iconst 1, 1) := by decide +kernel
theorem dX6_liftBehind_15 : decode cX6_liftBehind 15 = .ok (.if_icmp .ne 13, 3) := by decide +kernel
theorem dX6_liftBehind_18 : decode cX6_liftBehind 18 = .ok (.iload_n 0, 1) := by decide +kernel
theorem dX6_liftBehind_19 : decode cX6_liftBehind 19 = .ok (.iconst 3, 1) := by decide +kernel
theorem dX6_liftBehind_20 : decode cX6_liftBehind 20 = .ok (.isub, 1) := by decide +kernel
theorem dX6_liftBehind_21 : decode cX6_liftBehind 21 = .ok (.iconst 0, 1) := by decide +kernel
theorem dX6_liftBehind_22 : decode cX6_liftBehind 22 = .ok (.invokestatic 311, 3) := by decide +kernel
theorem dX6_liftBehind_25 : decode cX6_liftBehind 25 = .ok (.goto 4, 3) := by decide +kernel
theorem dX6_liftBehind_28 : decode cX6_liftBehind 28 = .ok (.iload_n 0, 1) := by decide +kernel
theorem dX6_liftBehind_29 : decode cX6_liftBehind 29 = .ok (.ireturn, 1) := by decide +kernel
theorem dX6_tiltBehind_0 : decode cX6_tiltBehind 0 = .ok (.iload_n 1, 1) := by decide +kernel
theorem dX6_tiltBehind_1 : decode cX6_tiltBehind 1 = .ok (.iconst 2, 1) := by decide +kernel
theorem dX6_tiltBehind_2 : decode cX6_tiltBehind 2 = .ok (.if_icmp .ne 12, 3) := by decide +kernel
theorem dX6_tiltBehind_5 : decode cX6_tiltBehind 5 = .ok (.iload_n 0, 1) := by decide +kernel
theorem dX6_tiltBehind_6 : decode cX6_tiltBehind 6 = .ok (.iconst 1, 1) := by decide +kernel
theorem dX6_tiltBehind_7 : decode cX6_tiltBehind 7 = .ok (.isub, 1) := by decide +kernel
theorem dX6_tiltBehind_8 : decode cX6_tiltBehind 8 = .ok (.bipush (-4), 2) := by decide +kernel
theorem dX6_tiltBehind_10 : decode cX6_tiltBehind 10 = .ok (.invokestatic 311, 3) := by decide +kernel
theorem dX6_tiltBehind_13 : decode cX6_tiltBehind 13 = .ok (.ireturn, 1) := by decide +kernel
theorem dX6_tiltBehind_14 : decode cX6_tiltBehind 14 = .ok (.iload_n 1, 1) := by decide +kernel
theorem dX6_tiltBehind_15 : decode cX6_tiltBehind 15 = .ok (.iconst 3, 1) := by decide +kernel
theorem dX6_tiltBehind_16 : decode cX6_tiltBehind 16 = .ok (.if_icmp .ne 13, 3) := by decide +kernel
theorem dX6_tiltBehind_19 : decode cX6_tiltBehind 19 = .ok (.iload_n 0, 1) := by decide +kernel
theorem dX6_tiltBehind_20 : decode cX6_tiltBehind 20 = .ok (.iconst 1, 1) := by decide +kernel
theorem dX6_tiltBehind_21 : decode cX6_tiltBehind 21 = .ok (.iadd, 1) := by decide +kernel
theorem dX6_tiltBehind_22 : decode cX6_tiltBehind 22 = .ok (.iconst 4, 1) := by decide +kernel
theorem dX6_tiltBehind_23 : decode cX6_tiltBehind 23 = .ok (.invokestatic 316, 3) := by decide +kernel
theorem dX6_tiltBehind_26 : decode cX6_tiltBehind 26 = .ok (.goto 4, 3) := by decide +kernel
theorem dX6_tiltBehind_29 : decode cX6_tiltBehind 29 = .ok (.iload_n 0, 1) := by decide +kernel
theorem dX6_tiltBehind_30 : decode cX6_tiltBehind 30 = .ok (.ireturn, 1) := by decide +kernel
theorem dX6_wornBehind_0 : decode cX6_wornBehind 0 = .ok (.iload_n 2, 1) := by decide +kernel
theorem dX6_wornBehind_1 : decode cX6_wornBehind 1 = .ok (.iconst 4, 1) := by decide +kernel
theorem dX6_wornBehind_2 : decode cX6_wornBehind 2 = .ok (.if_icmp .eq 9, 3) := by decide +kernel
theorem dX6_wornBehind_5 : decode cX6_wornBehind 5 = .ok (.iload_n 2, 1) := by decide +kernel
theorem dX6_wornBehind_6 : decode cX6_wornBehind 6 = .ok (.bipush (-4), 2) := by decide +kernel
theorem dX6_wornBehind_8 : decode cX6_wornBehind 8 = .ok (.if_icmp .ne 7, 3) := by decide +kernel
theorem dX6_wornBehind_11 : decode cX6_wornBehind 11 = .ok (.iconst 1, 1) := by decide +kernel
theorem dX6_wornBehind_12 : decode cX6_wornBehind 12 = .ok (.goto 4, 3) := by decide +kernel
theorem dX6_wornBehind_15 : decode cX6_wornBehind 15 = .ok (.iconst 0, 1) := by decide +kernel
theorem dX6_wornBehind_16 : decode cX6_wornBehind 16 = .ok (.istore_n 3, 1) := by decide +kernel
theorem dX6_wornBehind_17 : decode cX6_wornBehind 17 = .ok (.iload_n 0, 1) := by decide +kernel
theorem dX6_wornBehind_18 : decode cX6_wornBehind 18 = .ok (.iload_n 3, 1) := by decide +kernel
theorem dX6_wornBehind_19 : decode cX6_wornBehind 19 = .ok (.ifCond .eq 9, 3) := by decide +kernel
theorem dX6_wornBehind_22 : decode cX6_wornBehind 22 = .ok (.iconst 2, 1) := by decide +kernel
theorem dX6_wornBehind_23 : decode cX6_wornBehind 23 = .ok (.iload_n 1, 1) := by decide +kernel
theorem dX6_wornBehind_24 : decode cX6_wornBehind 24 = .ok (.imul, 1) := by decide +kernel
theorem dX6_wornBehind_25 : decode cX6_wornBehind 25 = .ok (.goto 4, 3) := by decide +kernel
theorem dX6_wornBehind_28 : decode cX6_wornBehind 28 = .ok (.iload_n 1, 1) := by decide +kernel
theorem dX6_wornBehind_29 : decode cX6_wornBehind 29 = .ok (.iadd, 1) := by decide +kernel
theorem dX6_wornBehind_30 : decode cX6_wornBehind 30 = .ok (.bipush 99, 2) := by decide +kernel
theorem dX6_wornBehind_32 : decode cX6_wornBehind 32 = .ok (.invokestatic 316, 3) := by decide +kernel
theorem dX6_wornBehind_35 : decode cX6_wornBehind 35 = .ok (.ireturn, 1) := by decide +kernel
theorem dX6_isSnapped_0 : decode cX6_isSnapped 0 = .ok (.iload_n 0, 1) := by decide +kernel
theorem dX6_isSnapped_1 : decode cX6_isSnapped 1 = .ok (.bipush 99, 2) := by decide +kernel
theorem dX6_isSnapped_3 : decode cX6_isSnapped 3 = .ok (.if_icmp .lt 7, 3) := by decide +kernel
theorem dX6_isSnapped_6 : decode cX6_isSnapped 6 = .ok (.iconst 1, 1) := by decide +kernel
theorem dX6_isSnapped_7 : decode cX6_isSnapped 7 = .ok (.goto 4, 3) := by decide +kernel
theorem dX6_isSnapped_10 : decode cX6_isSnapped 10 = .ok (.iconst 0, 1) := by decide +kernel
theorem dX6_isSnapped_11 : decode cX6_isSnapped 11 = .ok (.ireturn, 1) := by decide +kernel
theorem dX6_counted_0 : decode cX6_counted 0 = .ok (.iload_n 1, 1) := by decide +kernel
theorem dX6_counted_1 : decode cX6_counted 1 = .ok (.tableswitch 160 0 9 #[55, 63, 78, 89, 100, 111, 119, 130, 141, 152], 55) := by decide +kernel
theorem dX6_counted_56 : decode cX6_counted 56 = .ok (.aload_n 0, 1) := by decide +kernel
theorem dX6_counted_57 : decode cX6_counted 57 = .ok (.getfield 10, 3) := by decide +kernel
theorem dX6_counted_60 : decode cX6_counted 60 = .ok (.getfield 89, 3) := by decide +kernel
theorem dX6_counted_63 : decode cX6_counted 63 = .ok (.ireturn, 1) := by decide +kernel
theorem dX6_counted_64 : decode cX6_counted 64 = .ok (.aload_n 0, 1) := by decide +kernel
theorem dX6_counted_65 : decode cX6_counted 65 = .ok (.getfield 10, 3) := by decide +kernel
theorem dX6_counted_68 : decode cX6_counted 68 = .ok (.aload_n 0, 1) := by decide +kernel
theorem dX6_counted_69 : decode cX6_counted 69 = .ok (.getfield 10, 3) := by decide +kernel
theorem dX6_counted_72 : decode cX6_counted 72 = .ok (.getfield 118, 3) := by decide +kernel
theorem dX6_counted_75 : decode cX6_counted 75 = .ok (.invokevirtual 134, 3) := by decide +kernel
theorem dX6_counted_78 : decode cX6_counted 78 = .ok (.ireturn, 1) := by decide +kernel
theorem dX6_counted_79 : decode cX6_counted 79 = .ok (.aload_n 0, 1) := by decide +kernel
theorem dX6_counted_80 : decode cX6_counted 80 = .ok (.getfield 10, 3) := by decide +kernel
theorem dX6_counted_83 : decode cX6_counted 83 = .ok (.getfield 118, 3) := by decide +kernel
theorem dX6_counted_86 : decode cX6_counted 86 = .ok (.getfield 319, 3) := by decide +kernel
theorem dX6_counted_89 : decode cX6_counted 89 = .ok (.ireturn, 1) := by decide +kernel
theorem dX6_counted_90 : decode cX6_counted 90 = .ok (.aload_n 0, 1) := by decide +kernel
theorem dX6_counted_91 : decode cX6_counted 91 = .ok (.getfield 10, 3) := by decide +kernel
theorem dX6_counted_94 : decode cX6_counted 94 = .ok (.getfield 118, 3) := by decide +kernel
theorem dX6_counted_97 : decode cX6_counted 97 = .ok (.getfield 178, 3) := by decide +kernel
theorem dX6_counted_100 : decode cX6_counted 100 = .ok (.ireturn, 1) := by decide +kernel
theorem dX6_counted_101 : decode cX6_counted 101 = .ok (.aload_n 0, 1) := by decide +kernel
theorem dX6_counted_102 : decode cX6_counted 102 = .ok (.getfield 10, 3) := by decide +kernel
theorem dX6_counted_105 : decode cX6_counted 105 = .ok (.getfield 118, 3) := by decide +kernel
theorem dX6_counted_108 : decode cX6_counted 108 = .ok (.getfield 121, 3) := by decide +kernel
theorem dX6_counted_111 : decode cX6_counted 111 = .ok (.ireturn, 1) := by decide +kernel
theorem dX6_counted_112 : decode cX6_counted 112 = .ok (.aload_n 0, 1) := by decide +kernel
theorem dX6_counted_113 : decode cX6_counted 113 = .ok (.getfield 10, 3) := by decide +kernel
theorem dX6_counted_116 : decode cX6_counted 116 = .ok (.invokevirtual 322, 3) := by decide +kernel
theorem dX6_counted_119 : decode cX6_counted 119 = .ok (.ireturn, 1) := by decide +kernel
theorem dX6_counted_120 : decode cX6_counted 120 = .ok (.aload_n 0, 1) := by decide +kernel
theorem dX6_counted_121 : decode cX6_counted 121 = .ok (.getfield 10, 3) := by decide +kernel
theorem dX6_counted_124 : decode cX6_counted 124 = .ok (.getfield 218, 3) := by decide +kernel
theorem dX6_counted_127 : decode cX6_counted 127 = .ok (.getfield 325, 3) := by decide +kernel
theorem dX6_counted_130 : decode cX6_counted 130 = .ok (.ireturn, 1) := by decide +kernel
theorem dX6_counted_131 : decode cX6_counted 131 = .ok (.aload_n 0, 1) := by decide +kernel
theorem dX6_counted_132 : decode cX6_counted 132 = .ok (.getfield 10, 3) := by decide +kernel
theorem dX6_counted_135 : decode cX6_counted 135 = .ok (.getfield 247, 3) := by decide +kernel
theorem dX6_counted_138 : decode cX6_counted 138 = .ok (.getfield 325, 3) := by decide +kernel
theorem dX6_counted_141 : decode cX6_counted 141 = .ok (.ireturn, 1) := by decide +kernel
theorem dX6_counted_142 : decode cX6_counted 142 = .ok (.aload_n 0, 1) := by decide +kernel
theorem dX6_counted_143 : decode cX6_counted 143 = .ok (.getfield 10, 3) := by decide +kernel
theorem dX6_counted_146 : decode cX6_counted 146 = .ok (.getfield 250, 3) := by decide +kernel
theorem dX6_counted_149 : decode cX6_counted 149 = .ok (.getfield 325, 3) := by decide +kernel
theorem dX6_counted_152 : decode cX6_counted 152 = .ok (.ireturn, 1) := by decide +kernel
theorem dX6_counted_153 : decode cX6_counted 153 = .ok (.aload_n 0, 1) := by decide +kernel
theorem dX6_counted_154 : decode cX6_counted 154 = .ok (.getfield 10, 3) := by decide +kernel
theorem dX6_counted_157 : decode cX6_counted 157 = .ok (.getfield 161, 3) := by decide +kernel
theorem dX6_counted_160 : decode cX6_counted 160 = .ok (.ireturn, 1) := by decide +kernel
theorem dX6_counted_161 : decode cX6_counted 161 = .ok (.aload_n 0, 1) := by decide +kernel
theorem dX6_counted_162 : decode cX6_counted 162 = .ok (.getfield 35, 3) := by decide +kernel
theorem dX6_counted_165 : decode cX6_counted 165 = .ok (.getfield 104, 3) := by decide +kernel
theorem dX6_counted_168 : decode cX6_counted 168 = .ok (.ireturn, 1) := by decide +kernel
theorem dX6_touching_0 : decode cX6_touching 0 = .ok (.aload_n 0, 1) := by decide +kernel
theorem dX6_touching_1 : decode cX6_touching 1 = .ok (.getfield 10, 3) := by decide +kernel
theorem dX6_touching_4 : decode cX6_touching 4 = .ok (.iload_n 1, 1) := by decide +kernel
theorem dX6_touching_5 : decode cX6_touching 5 = .ok (.invokevirtual 142, 3) := by decide +kernel
theorem dX6_touching_8 : decode cX6_touching 8 = .ok (.invokestatic 145, 3) := by decide +kernel
theorem dX6_touching_11 : decode cX6_touching 11 = .ok (.ifCond .ne 54, 3) := by decide +kernel
theorem dX6_touching_14 : decode cX6_touching 14 = .ok (.aload_n 0, 1) := by decide +kernel
theorem dX6_touching_15 : decode cX6_touching 15 = .ok (.getfield 10, 3) := by decide +kernel
theorem dX6_touching_18 : decode cX6_touching 18 = .ok (.iload_n 2, 1) := by decide +kernel
theorem dX6_touching_19 : decode cX6_touching 19 = .ok (.invokevirtual 142, 3) := by decide +kernel
theorem dX6_touching_22 : decode cX6_touching 22 = .ok (.invokestatic 145, 3) := by decide +kernel
theorem dX6_touching_25 : decode cX6_touching 25 = .ok (.ifCond .ne 40, 3) := by decide +kernel
theorem dX6_touching_28 : decode cX6_touching 28 = .ok (.aload_n 0, 1) := by decide +kernel
theorem dX6_touching_29 : decode cX6_touching 29 = .ok (.getfield 10, 3) := by decide +kernel
theorem dX6_touching_32 : decode cX6_touching 32 = .ok (.aload_n 0, 1) := by decide +kernel
theorem dX6_touching_33 : decode cX6_touching 33 = .ok (.getfield 10, 3) := by decide +kernel
theorem dX6_touching_36 : decode cX6_touching 36 = .ok (.getfield 118, 3) := by decide +kernel
theorem dX6_touching_39 : decode cX6_touching 39 = .ok (.iload_n 1, 1) := by decide +kernel
theorem dX6_touching_40 : decode cX6_touching 40 = .ok (.invokevirtual 214, 3) := by decide +kernel
theorem dX6_touching_43 : decode cX6_touching 43 = .ok (.aload_n 0, 1) := by decide +kernel
theorem dX6_touching_44 : decode cX6_touching 44 = .ok (.getfield 10, 3) := by decide +kernel
theorem dX6_touching_47 : decode cX6_touching 47 = .ok (.aload_n 0, 1) := by decide +kernel
theorem dX6_touching_48 : decode cX6_touching 48 = .ok (.getfield 10, 3) := by decide +kernel
theorem dX6_touching_51 : decode cX6_touching 51 = .ok (.getfield 118, 3) := by decide +kernel
theorem dX6_touching_54 : decode cX6_touching 54 = .ok (.iload_n 2, 1) := by decide +kernel
theorem dX6_touching_55 : decode cX6_touching 55 = .ok (.invokevirtual 214, 3) := by decide +kernel
theorem dX6_touching_58 : decode cX6_touching 58 = .ok (.if_icmp .ne 7, 3) := by decide +kernel
theorem dX6_touching_61 : decode cX6_touching 61 = .ok (.iconst 1, 1) := by decide +kernel
theorem dX6_touching_62 : decode cX6_touching 62 = .ok (.goto 4, 3) := by decide +kernel
theorem dX6_touching_65 : decode cX6_touching 65 = .ok (.iconst 0, 1) := by decide +kernel
theorem dX6_touching_66 : decode cX6_touching 66 = .ok (.ireturn, 1) := by decide +kernel
theorem dX6_farFrom_0 : decode cX6_farFrom 0 = .ok (.aload_n 0, 1) := by decide +kernel
theorem dX6_farFrom_1 : decode cX6_farFrom 1 = .ok (.getfield 10, 3) := by decide +kernel
theorem dX6_farFrom_4 : decode cX6_farFrom 4 = .ok (.getfield 118, 3) := by decide +kernel
theorem dX6_farFrom_7 : decode cX6_farFrom 7 = .ok (.getfield 319, 3) := by decide +kernel
theorem dX6_farFrom_10 : decode cX6_farFrom 10 = .ok (.aload_n 0, 1) := by decide +kernel
theorem dX6_farFrom_11 : decode cX6_farFrom 11 = .ok (.getfield 10, 3) := by decide +kernel
theorem dX6_farFrom_14 : decode cX6_farFrom 14 = .ok (.getfield 118, 3) := by decide +kernel
theorem dX6_farFrom_17 : decode cX6_farFrom 17 = .ok (.getfield 178, 3) := by decide +kernel
theorem dX6_farFrom_20 : decode cX6_farFrom 20 = .ok (.iload_n 3, 1) := by decide +kernel
theorem dX6_farFrom_21 : decode cX6_farFrom 21 = .ok (.invokestatic 326, 3) := by decide +kernel
theorem dX6_farFrom_24 : decode cX6_farFrom 24 = .ok (.istore 4, 2) := by decide +kernel
theorem dX6_farFrom_26 : decode cX6_farFrom 26 = .ok (.aload_n 0, 1) := by decide +kernel
theorem dX6_farFrom_27 : decode cX6_farFrom 27 = .ok (.getfield 10, 3) := by decide +kernel
theorem dX6_farFrom_30 : decode cX6_farFrom 30 = .ok (.iload_n 1, 1) := by decide +kernel
theorem dX6_farFrom_31 : decode cX6_farFrom 31 = .ok (.iload 4, 2) := by decide +kernel
theorem dX6_farFrom_33 : decode cX6_farFrom 33 = .ok (.aload_n 0, 1) := by decide +kernel
theorem dX6_farFrom_34 : decode cX6_farFrom 34 = .ok (.getfield 10, 3) := by decide +kernel
theorem dX6_farFrom_37 : decode cX6_farFrom 37 = .ok (.iload_n 1, 1) := by decide +kernel
theorem dX6_farFrom_38 : decode cX6_farFrom 38 = .ok (.invokevirtual 142, 3) := by decide +kernel
theorem dX6_farFrom_41 : decode cX6_farFrom 41 = .ok (.aload_n 0, 1) := by decide +kernel
theorem dX6_farFrom_42 : decode cX6_farFrom 42 = .ok (.getfield 10, 3) := by decide +kernel
theorem dX6_farFrom_45 : decode cX6_farFrom 45 = .ok (.getfield 118, 3) := by decide +kernel
theorem dX6_farFrom_48 : decode cX6_farFrom 48 = .ok (.getfield 121, 3) := by decide +kernel
theorem dX6_farFrom_51 : decode cX6_farFrom 51 = .ok (.invokevirtual 329, 3) := by decide +kernel
theorem dX6_farFrom_54 : decode cX6_farFrom 54 = .ok (.iload_n 2, 1) := by decide +kernel
theorem dX6_farFrom_55 : decode cX6_farFrom 55 = .ok (.isub, 1) := by decide +kernel
theorem dX6_farFrom_56 : decode cX6_farFrom 56 = .ok (.invokestatic 332, 3) := by decide +kernel
theorem dX6_farFrom_59 : decode cX6_farFrom 59 = .ok (.ireturn, 1) := by decide +kernel
theorem dX6_holeAt_0 : decode cX6_holeAt 0 = .ok (.iload_n 0, 1) := by decide +kernel
theorem dX6_holeAt_1 : decode cX6_holeAt 1 = .ok (.iload_n 1, 1) := by decide +kernel
theorem dX6_holeAt_2 : decode cX6_holeAt 2 = .ok (.iload_n 2, 1) := by decide +kernel
theorem dX6_holeAt_3 : decode cX6_holeAt 3 = .ok (.iconst 4, 1) := by decide +kernel
theorem dX6_holeAt_4 : decode cX6_holeAt 4 = .ok (.isub, 1) := by decide +kernel
theorem dX6_holeAt_5 : decode cX6_holeAt 5 = .ok (.imul, 1) := by decide +kernel
theorem dX6_holeAt_6 : decode cX6_holeAt 6 = .ok (.iadd, 1) := by decide +kernel
theorem dX6_holeAt_7 : decode cX6_holeAt 7 = .ok (.ireturn, 1) := by decide +kernel
theorem dX6_chanceOfSlack_0 : decode cX6_chanceOfSlack 0 = .ok (.aload_n 0, 1) := by decide +kernel
theorem dX6_chanceOfSlack_1 : decode cX6_chanceOfSlack 1 = .ok (.aload_n 0, 1) := by decide +kernel
theorem dX6_chanceOfSlack_2 : decode cX6_chanceOfSlack 2 = .ok (.getfield 10, 3) := by decide +kernel
theorem dX6_chanceOfSlack_5 : decode cX6_chanceOfSlack 5 = .ok (.getfield 208, 3) := by decide +kernel
theorem dX6_chanceOfSlack_8 : decode cX6_chanceOfSlack 8 = .ok (.invokevirtual 138, 3) := by decide +kernel
theorem dX6_chanceOfSlack_11 : decode cX6_chanceOfSlack 11 = .ok (.ifCond .eq 5, 3) := by decide +kernel
theorem dX6_chanceOfSlack_14 : decode cX6_chanceOfSlack 14 = .ok (.lconst 0, 1) := by decide +kernel
theorem dX6_chanceOfSlack_15 : decode cX6_chanceOfSlack 15 = .ok (.lreturn, 1) := by decide +kernel
theorem dX6_chanceOfSlack_16 : decode cX6_chanceOfSlack 16 = .ok (.aload_n 0, 1) := by decide +kernel
theorem dX6_chanceOfSlack_17 : decode cX6_chanceOfSlack 17 = .ok (.getfield 10, 3) := by decide +kernel
theorem dX6_chanceOfSlack_20 : decode cX6_chanceOfSlack 20 = .ok (.getfield 205, 3) := by decide +kernel
theorem dX6_chanceOfSlack_23 : decode cX6_chanceOfSlack 23 = .ok (.iload_n 1, 1) := by decide +kernel
theorem dX6_chanceOfSlack_24 : decode cX6_chanceOfSlack 24 = .ok (.iconst 1, 1) := by decide +kernel
theorem dX6_chanceOfSlack_25 : decode cX6_chanceOfSlack 25 = .ok (.isub, 1) := by decide +kernel
theorem dX6_chanceOfSlack_26 : decode cX6_chanceOfSlack 26 = .ok (.invokestatic 195, 3) := by decide +kernel
theorem dX6_chanceOfSlack_29 : decode cX6_chanceOfSlack 29 = .ok (.istore_n 3, 1) := by decide +kernel
theorem dX6_chanceOfSlack_30 : decode cX6_chanceOfSlack 30 = .ok (.lconst 0, 1) := by decide +kernel
theorem dX6_chanceOfSlack_31 : decode cX6_chanceOfSlack 31 = .ok (.lstore 4, 2) := by decide +kernel
theorem dX6_chanceOfSlack_33 : decode cX6_chanceOfSlack 33 = .ok (.iconst 0, 1) := by decide +kernel
theorem dX6_chanceOfSlack_34 : decode cX6_chanceOfSlack 34 = .ok (.istore 6, 2) := by decide +kernel
theorem dX6_chanceOfSlack_36 : decode cX6_chanceOfSlack 36 = .ok (.iload 6, 2) := by decide +kernel
theorem dX6_chanceOfSlack_38 : decode cX6_chanceOfSlack 38 = .ok (.iconst 1, 1) := by decide +kernel
theorem dX6_chanceOfSlack_39 : decode cX6_chanceOfSlack 39 = .ok (.iload_n 1, 1) := by decide +kernel
theorem dX6_chanceOfSlack_40 : decode cX6_chanceOfSlack 40 = .ok (.ishl, 1) := by decide +kernel
theorem dX6_chanceOfSlack_41 : decode cX6_chanceOfSlack 41 = .ok (.if_icmp .ge 131, 3) := by decide +kernel
theorem dX6_chanceOfSlack_44 : decode cX6_chanceOfSlack 44 = .ok (.lconst 1, 1) := by decide +kernel
theorem dX6_chanceOfSlack_45 : decode cX6_chanceOfSlack 45 = .ok (.lstore 7, 2) := by decide +kernel
theorem dX6_chanceOfSlack_47 : decode cX6_chanceOfSlack 47 = .ok (.aload_n 0, 1) := by decide +kernel
theorem dX6_chanceOfSlack_48 : decode cX6_chanceOfSlack 48 = .ok (.getfield 56, 3) := by decide +kernel
theorem dX6_chanceOfSlack_51 : decode cX6_chanceOfSlack 51 = .ok (.aload_n 0, 1) := by decide +kernel
theorem dX6_chanceOfSlack_52 : decode cX6_chanceOfSlack 52 = .ok (.getfield 10, 3) := by decide +kernel
theorem dX6_chanceOfSlack_55 : decode cX6_chanceOfSlack 55 = .ok (.getfield 118, 3) := by decide +kernel
theorem dX6_chanceOfSlack_58 : decode cX6_chanceOfSlack 58 = .ok (.invokevirtual 211, 3) := by decide +kernel
theorem dX6_chanceOfSlack_61 : decode cX6_chanceOfSlack 61 = .ok (.iconst 0, 1) := by decide +kernel
theorem dX6_chanceOfSlack_62 : decode cX6_chanceOfSlack 62 = .ok (.istore 9, 2) := by decide +kernel
theorem dX6_chanceOfSlack_64 : decode cX6_chanceOfSlack 64 = .ok (.iload 9, 2) := by decide +kernel
theorem dX6_chanceOfSlack_66 : decode cX6_chanceOfSlack 66 = .ok (.iload_n 1, 1) := by decide +kernel
theorem dX6_chanceOfSlack_67 : decode cX6_chanceOfSlack 67 = .ok (.if_icmp .ge 70, 3) := by decide +kernel
theorem dX6_chanceOfSlack_70 : decode cX6_chanceOfSlack 70 = .ok (.iload 6, 2) := by decide +kernel
theorem dX6_chanceOfSlack_72 : decode cX6_chanceOfSlack 72 = .ok (.iload 9, 2) := by decide +kernel
theorem dX6_chanceOfSlack_74 : decode cX6_chanceOfSlack 74 = .ok (.invokestatic 308, 3) := by decide +kernel
theorem dX6_chanceOfSlack_77 : decode cX6_chanceOfSlack 77 = .ok (.istore 10, 2) := by decide +kernel
theorem dX6_chanceOfSlack_79 : decode cX6_chanceOfSlack 79 = .ok (.lload 7, 2) := by decide +kernel
theorem dX6_chanceOfSlack_81 : decode cX6_chanceOfSlack 81 = .ok (.iload 10, 2) := by decide +kernel
theorem dX6_chanceOfSlack_83 : decode cX6_chanceOfSlack 83 = .ok (.ifCond .eq 8, 3) := by decide +kernel
theorem dX6_chanceOfSlack_86 : decode cX6_chanceOfSlack 86 = .ok (.iload_n 2, 1) := by decide +kernel
theorem dX6_chanceOfSlack_87 : decode cX6_chanceOfSlack 87 = .ok (.i2l, 1) := by decide +kernel
theorem dX6_chanceOfSlack_88 : decode cX6_chanceOfSlack 88 = .ok (.goto 8, 3) := by decide +kernel
theorem dX6_chanceOfSlack_91 : decode cX6_chanceOfSlack 91 = .ok (.bipush 10, 2) := by decide +kernel
theorem dX6_chanceOfSlack_93 : decode cX6_chanceOfSlack 93 = .ok (.iload_n 2, 1) := by decide +kernel
theorem dX6_chanceOfSlack_94 : decode cX6_chanceOfSlack 94 = .ok (.isub, 1) := by decide +kernel
theorem dX6_chanceOfSlack_95 : decode cX6_chanceOfSlack 95 = .ok (.i2l, 1) := by decide +kernel
theorem dX6_chanceOfSlack_96 : decode cX6_chanceOfSlack 96 = .ok (.lmul, 1) := by decide +kernel
theorem dX6_chanceOfSlack_97 : decode cX6_chanceOfSlack 97 = .ok (.lstore 7, 2) := by decide +kernel
theorem dX6_chanceOfSlack_99 : decode cX6_chanceOfSlack 99 = .ok (.aload_n 0, 1) := by decide +kernel
theorem dX6_chanceOfSlack_100 : decode cX6_chanceOfSlack 100 = .ok (.getfield 10, 3) := by decide +kernel
theorem dX6_chanceOfSlack_103 : decode cX6_chanceOfSlack 103 = .ok (.aload_n 0, 1) := by decide +kernel
theorem dX6_chanceOfSlack_104 : decode cX6_chanceOfSlack 104 = .ok (.getfield 56, 3) := by decide +kernel
theorem dX6_chanceOfSlack_107 : decode cX6_chanceOfSlack 107 = .ok (.iload 10, 2) := by decide +kernel
theorem dX6_chanceOfSlack_109 : decode cX6_chanceOfSlack 109 = .ok (.ifCond .eq 7, 3) := by decide +kernel
theorem dX6_chanceOfSlack_112 : decode cX6_chanceOfSlack 112 = .ok (.iconst 4, 1) := by decide +kernel
theorem dX6_chanceOfSlack_113 : decode cX6_chanceOfSlack 113 = .ok (.goto 15, 3) := by decide +kernel
theorem dX6_chanceOfSlack_116 : decode cX6_chanceOfSlack 116 = .ok (.aload_n 0, 1) := by decide +kernel
theorem dX6_chanceOfSlack_117 : decode cX6_chanceOfSlack 117 = .ok (.getfield 10, 3) := by decide +kernel
theorem dX6_chanceOfSlack_120 : decode cX6_chanceOfSlack 120 = .ok (.getfield 202, 3) := by decide +kernel
theorem dX6_chanceOfSlack_123 : decode cX6_chanceOfSlack 123 = .ok (.iload 9, 2) := by decide +kernel
theorem dX6_chanceOfSlack_125 : decode cX6_chanceOfSlack 125 = .ok (.invokestatic 195, 3) := by decide +kernel
theorem dX6_chanceOfSlack_128 : decode cX6_chanceOfSlack 128 = .ok (.invokevirtual 130, 3) := by decide +kernel
theorem dX6_chanceOfSlack_131 : decode cX6_chanceOfSlack 131 = .ok (.iinc 9 1, 3) := by decide +kernel
theorem dX6_chanceOfSlack_134 : decode cX6_chanceOfSlack 134 = .ok (.goto (-70), 3) := by decide +kernel
theorem dX6_chanceOfSlack_137 : decode cX6_chanceOfSlack 137 = .ok (.aload_n 0, 1) := by decide +kernel
theorem dX6_chanceOfSlack_138 : decode cX6_chanceOfSlack 138 = .ok (.getfield 10, 3) := by decide +kernel
theorem dX6_chanceOfSlack_141 : decode cX6_chanceOfSlack 141 = .ok (.aload_n 0, 1) := by decide +kernel
theorem dX6_chanceOfSlack_142 : decode cX6_chanceOfSlack 142 = .ok (.getfield 56, 3) := by decide +kernel
theorem dX6_chanceOfSlack_145 : decode cX6_chanceOfSlack 145 = .ok (.aload_n 0, 1) := by decide +kernel
theorem dX6_chanceOfSlack_146 : decode cX6_chanceOfSlack 146 = .ok (.getfield 10, 3) := by decide +kernel
theorem dX6_chanceOfSlack_149 : decode cX6_chanceOfSlack 149 = .ok (.getfield 208, 3) := by decide +kernel
theorem dX6_chanceOfSlack_152 : decode cX6_chanceOfSlack 152 = .ok (.invokevirtual 214, 3) := by decide +kernel
theorem dX6_chanceOfSlack_155 : decode cX6_chanceOfSlack 155 = .ok (.iload_n 3, 1) := by decide +kernel
theorem dX6_chanceOfSlack_156 : decode cX6_chanceOfSlack 156 = .ok (.if_icmp .ne 10, 3) := by decide +kernel
theorem dX6_chanceOfSlack_159 : decode cX6_chanceOfSlack 159 = .ok (.lload 4, 2) := by decide +kernel
theorem dX6_chanceOfSlack_161 : decode cX6_chanceOfSlack 161 = .ok (.lload 7, 2) := by decide +kernel
theorem dX6_chanceOfSlack_163 : decode cX6_chanceOfSlack 163 = .ok (.ladd, 1) := by decide +kernel
theorem dX6_chanceOfSlack_164 : decode cX6_chanceOfSlack 164 = .ok (.lstore 4, 2) := by decide +kernel
theorem dX6_chanceOfSlack_166 : decode cX6_chanceOfSlack 166 = .ok (.iinc 6 1, 3) := by decide +kernel
theorem dX6_chanceOfSlack_169 : decode cX6_chanceOfSlack 169 = .ok (.goto (-133), 3) := by decide +kernel
theorem dX6_chanceOfSlack_172 : decode cX6_chanceOfSlack 172 = .ok (.lload 4, 2) := by decide +kernel
theorem dX6_chanceOfSlack_174 : decode cX6_chanceOfSlack 174 = .ok (.lreturn, 1) := by decide +kernel
theorem dX6_setFraction_0 : decode cX6_setFraction 0 = .ok (.lload_n 3, 1) := by decide +kernel
theorem dX6_setFraction_1 : decode cX6_setFraction 1 = .ok (.lstore 5, 2) := by decide +kernel
theorem dX6_setFraction_3 : decode cX6_setFraction 3 = .ok (.lload_n 1, 1) := by decide +kernel
theorem dX6_setFraction_4 : decode cX6_setFraction 4 = .ok (.lstore 7, 2) := by decide +kernel
theorem dX6_setFraction_6 : decode cX6_setFraction 6 = .ok (.iconst 0, 1) := by decide +kernel
theorem dX6_setFraction_7 : decode cX6_setFraction 7 = .ok (.istore 9, 2) := by decide +kernel
theorem dX6_setFraction_9 : decode cX6_setFraction 9 = .ok (.iload 9, 2) := by decide +kernel
theorem dX6_setFraction_11 : decode cX6_setFraction 11 = .ok (.bipush 100, 2) := by decide +kernel
theorem dX6_setFraction_13 : decode cX6_setFraction 13 = .ok (.if_icmp .ge 31, 3) := by decide +kernel
theorem dX6_setFraction_16 : decode cX6_setFraction 16 = .ok (.lload 7, 2) := by decide +kernel
theorem dX6_setFraction_18 : decode cX6_setFraction 18 = .ok (.lconst 0, 1) := by decide +kernel
theorem dX6_setFraction_19 : decode cX6_setFraction 19 = .ok (.lcmp, 1) := by decide +kernel
theorem dX6_setFraction_20 : decode cX6_setFraction 20 = .ok (.ifCond .eq 24, 3) := by decide +kernel
theorem dX6_setFraction_23 : decode cX6_setFraction 23 = .ok (.lload 5, 2) := by decide +kernel
theorem dX6_setFraction_25 : decode cX6_setFraction 25 = .ok (.lload 7, 2) := by decide +kernel
theorem dX6_setFraction_27 : decode cX6_setFraction 27 = .ok (.lrem, 1) := by decide +kernel
theorem dX6_setFraction_28 : decode cX6_setFraction 28 = .ok (.lstore 10, 2) := by decide +kernel
theorem dX6_setFraction_30 : decode cX6_setFraction 30 = .ok (.lload 7, 2) := by decide +kernel
theorem dX6_setFraction_32 : decode cX6_setFraction 32 = .ok (.lstore 5, 2) := by decide +kernel
theorem dX6_setFraction_34 : decode cX6_setFraction 34 = .ok (.lload 10, 2) := by decide +kernel
theorem dX6_setFraction_36 : decode cX6_setFraction 36 = .ok (.lstore 7, 2) := by decide +kernel
theorem dX6_setFraction_38 : decode cX6_setFraction 38 = .ok (.iinc 9 1, 3) := by decide +kernel
theorem dX6_setFraction_41 : decode cX6_setFraction 41 = .ok (.goto (-32), 3) := by decide +kernel
theorem dX6_setFraction_44 : decode cX6_setFraction 44 = .ok (.lload 5, 2) := by decide +kernel
theorem dX6_setFraction_46 : decode cX6_setFraction 46 = .ok (.lconst 0, 1) := by decide +kernel
theorem dX6_setFraction_47 : decode cX6_setFraction 47 = .ok (.lcmp, 1) := by decide +kernel
theorem dX6_setFraction_48 : decode cX6_setFraction 48 = .ok (.ifCond .le 19, 3) := by decide +kernel
theorem dX6_setFraction_51 : decode cX6_setFraction 51 = .ok (.aload_n 0, 1) := by decide +kernel
theorem dX6_setFraction_52 : decode cX6_setFraction 52 = .ok (.lload_n 1, 1) := by decide +kernel
theorem dX6_setFraction_53 : decode cX6_setFraction 53 = .ok (.lload 5, 2) := by decide +kernel
theorem dX6_setFraction_55 : decode cX6_setFraction 55 = .ok (.ldiv, 1) := by decide +kernel
theorem dX6_setFraction_56 : decode cX6_setFraction 56 = .ok (.putfield 64, 3) := by decide +kernel
theorem dX6_setFraction_59 : decode cX6_setFraction 59 = .ok (.aload_n 0, 1) := by decide +kernel
theorem dX6_setFraction_60 : decode cX6_setFraction 60 = .ok (.lload_n 3, 1) := by decide +kernel
theorem dX6_setFraction_61 : decode cX6_setFraction 61 = .ok (.lload 5, 2) := by decide +kernel
theorem dX6_setFraction_63 : decode cX6_setFraction 63 = .ok (.ldiv, 1) := by decide +kernel
theorem dX6_setFraction_64 : decode cX6_setFraction 64 = .ok (.putfield 68, 3) := by decide +kernel
theorem dX6_setFraction_67 : decode cX6_setFraction 67 = .ok (.return_, 1) := by decide +kernel
theorem dX6_fittingWeights_0 : decode cX6_fittingWeights 0 = .ok (.iconst 0, 1) := by decide +kernel
theorem dX6_fittingWeights_1 : decode cX6_fittingWeights 1 = .ok (.istore_n 2, 1) := by decide +kernel
theorem dX6_fittingWeights_2 : decode cX6_fittingWeights 2 = .ok (.iconst 1, 1) := by decide +kernel
theorem dX6_fittingWeights_3 : decode cX6_fittingWeights 3 = .ok (.istore_n 3, 1) := by decide +kernel
theorem dX6_fittingWeights_4 : decode cX6_fittingWeights 4 = .ok (.iload_n 3, 1) := by decide +kernel
theorem dX6_fittingWeights_5 : decode cX6_fittingWeights 5 = .ok (.bipush 9, 2) := by decide +kernel
theorem dX6_fittingWeights_7 : decode cX6_fittingWeights 7 = .ok (.if_icmp .gt 24, 3) := by decide +kernel
theorem dX6_fittingWeights_10 : decode cX6_fittingWeights 10 = .ok (.aload_n 0, 1) := by decide +kernel
theorem dX6_fittingWeights_11 : decode cX6_fittingWeights 11 = .ok (.iload_n 1, 1) := by decide +kernel
theorem dX6_fittingWeights_12 : decode cX6_fittingWeights 12 = .ok (.iload_n 3, 1) := by decide +kernel
theorem dX6_fittingWeights_13 : decode cX6_fittingWeights 13 = .ok (.invokevirtual 335, 3) := by decide +kernel
theorem dX6_fittingWeights_16 : decode cX6_fittingWeights 16 = .ok (.ifCond .eq 9, 3) := by decide +kernel
theorem dX6_fittingWeights_19 : decode cX6_fittingWeights 19 = .ok (.iload_n 2, 1) := by decide +kernel
theorem dX6_fittingWeights_20 : decode cX6_fittingWeights 20 = .ok (.iconst 1, 1) := by decide +kernel
theorem dX6_fittingWeights_21 : decode cX6_fittingWeights 21 = .ok (.iload_n 3, 1) := by decide +kernel
theorem dX6_fittingWeights_22 : decode cX6_fittingWeights 22 = .ok (.ishl, 1) := by decide +kernel
theorem dX6_fittingWeights_23 : decode cX6_fittingWeights 23 = .ok (.ior, 1) := by decide +kernel
theorem dX6_fittingWeights_24 : decode cX6_fittingWeights 24 = .ok (.istore_n 2, 1) := by decide +kernel
theorem dX6_fittingWeights_25 : decode cX6_fittingWeights 25 = .ok (.iinc 3 1, 3) := by decide +kernel
theorem dX6_fittingWeights_28 : decode cX6_fittingWeights 28 = .ok (.goto (-24), 3) := by decide +kernel
theorem dX6_fittingWeights_31 : decode cX6_fittingWeights 31 = .ok (.iload_n 2, 1) := by decide +kernel
theorem dX6_fittingWeights_32 : decode cX6_fittingWeights 32 = .ok (.ireturn, 1) := by decide +kernel
theorem dX6_fitsSights_0 : decode cX6_fitsSights 0 = .ok (.aload_n 0, 1) := by decide +kernel
theorem dX6_fitsSights_1 : decode cX6_fitsSights 1 = .ok (.getfield 10, 3) := by decide +kernel
theorem dX6_fitsSights_4 : decode cX6_fitsSights 4 = .ok (.getfield 218, 3) := by decide +kernel
theorem dX6_fitsSights_7 : decode cX6_fitsSights 7 = .ok (.astore_n 3, 1) := by decide +kernel
theorem dX6_fitsSights_8 : decode cX6_fitsSights 8 = .ok (.iconst 0, 1) := by decide +kernel
theorem dX6_fitsSights_9 : decode cX6_fitsSights 9 = .ok (.istore 4, 2) := by decide +kernel
theorem dX6_fitsSights_11 : decode cX6_fitsSights 11 = .ok (.iload 4, 2) := by decide +kernel
theorem dX6_fitsSights_13 : decode cX6_fitsSights 13 = .ok (.aload_n 3, 1) := by decide +kernel
theorem dX6_fitsSights_14 : decode cX6_fitsSights 14 = .ok (.getfield 325, 3) := by decide +kernel
theorem dX6_fitsSights_17 : decode cX6_fitsSights 17 = .ok (.if_icmp .ge 52, 3) := by decide +kernel
theorem dX6_fitsSights_20 : decode cX6_fitsSights 20 = .ok (.aload_n 3, 1) := by decide +kernel
theorem dX6_fitsSights_21 : decode cX6_fitsSights 21 = .ok (.iload 4, 2) := by decide +kernel
theorem dX6_fitsSights_23 : decode cX6_fitsSights 23 = .ok (.iconst 0, 1) := by decide +kernel
theorem dX6_fitsSights_24 : decode cX6_fitsSights 24 = .ok (.invokevirtual 338, 3) := by decide +kernel
theorem dX6_fitsSights_27 : decode cX6_fitsSights 27 = .ok (.iload_n 1, 1) := by decide +kernel
theorem dX6_fitsSights_28 : decode cX6_fitsSights 28 = .ok (.if_icmp .ne 35, 3) := by decide +kernel
theorem dX6_fitsSights_31 : decode cX6_fitsSights 31 = .ok (.aload_n 0, 1) := by decide +kernel
theorem dX6_fitsSights_32 : decode cX6_fitsSights 32 = .ok (.iload_n 1, 1) := by decide +kernel
theorem dX6_fitsSights_33 : decode cX6_fitsSights 33 = .ok (.aload_n 3, 1) := by decide +kernel
theorem dX6_fitsSights_34 : decode cX6_fitsSights 34 = .ok (.iload 4, 2) := by decide +kernel
theorem dX6_fitsSights_36 : decode cX6_fitsSights 36 = .ok (.iconst 1, 1) := by decide +kernel
theorem dX6_fitsSights_37 : decode cX6_fitsSights 37 = .ok (.invokevirtual 338, 3) := by decide +kernel
theorem dX6_fitsSights_40 : decode cX6_fitsSights 40 = .ok (.iload_n 2, 1) := by decide +kernel
theorem dX6_fitsSights_41 : decode cX6_fitsSights 41 = .ok (.aload_n 3, 1) := by decide +kernel
theorem dX6_fitsSights_42 : decode cX6_fitsSights 42 = .ok (.iload 4, 2) := by decide +kernel
theorem dX6_fitsSights_44 : decode cX6_fitsSights 44 = .ok (.iconst 2, 1) := by decide +kernel
theorem dX6_fitsSights_45 : decode cX6_fitsSights 45 = .ok (.invokevirtual 338, 3) := by decide +kernel
theorem dX6_fitsSights_48 : decode cX6_fitsSights 48 = .ok (.invokevirtual 341, 3) := by decide +kernel
theorem dX6_fitsSights_51 : decode cX6_fitsSights 51 = .ok (.aload_n 3, 1) := by decide +kernel
theorem dX6_fitsSights_52 : decode cX6_fitsSights 52 = .ok (.iload 4, 2) := by decide +kernel
theorem dX6_fitsSights_54 : decode cX6_fitsSights 54 = .ok (.iconst 3, 1) := by decide +kernel
theorem dX6_fitsSights_55 : decode cX6_fitsSights 55 = .ok (.invokevirtual 338, 3) := by decide +kernel
theorem dX6_fitsSights_58 : decode cX6_fitsSights 58 = .ok (.if_icmp .eq 5, 3) := by decide +kernel
theorem dX6_fitsSights_61 : decode cX6_fitsSights 61 = .ok (.iconst 0, 1) := by decide +kernel
theorem dX6_fitsSights_62 : decode cX6_fitsSights 62 = .ok (.ireturn, 1) := by decide +kernel
theorem dX6_fitsSights_63 : decode cX6_fitsSights 63 = .ok (.iinc 4 1, 3) := by decide +kernel
theorem dX6_fitsSights_66 : decode cX6_fitsSights 66 = .ok (.goto (-55), 3) := by decide +kernel
theorem dX6_fitsSights_69 : decode cX6_fitsSights 69 = .ok (.iconst 1, 1) := by decide +kernel
theorem dX6_fitsSights_70 : decode cX6_fitsSights 70 = .ok (.ireturn, 1) := by decide +kernel
theorem dX6_fittingStrings_0 : decode cX6_fittingStrings 0 = .ok (.iconst 0, 1) := by decide +kernel
theorem dX6_fittingStrings_1 : decode cX6_fittingStrings 1 = .ok (.istore_n 2, 1) := by decide +kernel
theorem dX6_fittingStrings_2 : decode cX6_fittingStrings 2 = .ok (.iconst 0, 1) := by decide +kernel
theorem dX6_fittingStrings_3 : decode cX6_fittingStrings 3 = .ok (.istore_n 3, 1) := by decide +kernel
theorem dX6_fittingStrings_4 : decode cX6_fittingStrings 4 = .ok (.iload_n 3, 1) := by decide +kernel
theorem dX6_fittingStrings_5 : decode cX6_fittingStrings 5 = .ok (.bipush 6, 2) := by decide +kernel
theorem dX6_fittingStrings_7 : decode cX6_fittingStrings 7 = .ok (.if_icmp .ge 24, 3) := by decide +kernel
theorem dX6_fittingStrings_10 : decode cX6_fittingStrings 10 = .ok (.aload_n 0, 1) := by decide +kernel
theorem dX6_fittingStrings_11 : decode cX6_fittingStrings 11 = .ok (.iload_n 1, 1) := by decide +kernel
theorem dX6_fittingStrings_12 : decode cX6_fittingStrings 12 = .ok (.iload_n 3, 1) := by decide +kernel
theorem dX6_fittingStrings_13 : decode cX6_fittingStrings 13 = .ok (.invokevirtual 344, 3) := by decide +kernel
theorem dX6_fittingStrings_16 : decode cX6_fittingStrings 16 = .ok (.ifCond .eq 9, 3) := by decide +kernel
theorem dX6_fittingStrings_19 : decode cX6_fittingStrings 19 = .ok (.iload_n 2, 1) := by decide +kernel
theorem dX6_fittingStrings_20 : decode cX6_fittingStrings 20 = .ok (.iconst 1, 1) := by decide +kernel
theorem dX6_fittingStrings_21 : decode cX6_fittingStrings 21 = .ok (.iload_n 3, 1) := by decide +kernel
theorem dX6_fittingStrings_22 : decode cX6_fittingStrings 22 = .ok (.ishl, 1) := by decide +kernel
theorem dX6_fittingStrings_23 : decode cX6_fittingStrings 23 = .ok (.ior, 1) := by decide +kernel
theorem dX6_fittingStrings_24 : decode cX6_fittingStrings 24 = .ok (.istore_n 2, 1) := by decide +kernel
theorem dX6_fittingStrings_25 : decode cX6_fittingStrings 25 = .ok (.iinc 3 1, 3) := by decide +kernel
theorem dX6_fittingStrings_28 : decode cX6_fittingStrings 28 = .ok (.goto (-24), 3) := by decide +kernel
theorem dX6_fittingStrings_31 : decode cX6_fittingStrings 31 = .ok (.iload_n 2, 1) := by decide +kernel
theorem dX6_fittingStrings_32 : decode cX6_fittingStrings 32 = .ok (.ireturn, 1) := by decide +kernel
theorem dX6_fitsNotes_0 : decode cX6_fitsNotes 0 = .ok (.aload_n 0, 1) := by decide +kernel
theorem dX6_fitsNotes_1 : decode cX6_fitsNotes 1 = .ok (.getfield 10, 3) := by decide +kernel
theorem dX6_fitsNotes_4 : decode cX6_fitsNotes 4 = .ok (.getfield 247, 3) := by decide +kernel
theorem dX6_fitsNotes_7 : decode cX6_fitsNotes 7 = .ok (.astore_n 3, 1) := by decide +kernel
theorem dX6_fitsNotes_8 : decode cX6_fitsNotes 8 = .ok (.iconst 0, 1) := by decide +kernel
theorem dX6_fitsNotes_9 : decode cX6_fitsNotes 9 = .ok (.istore 4, 2) := by decide +kernel
theorem dX6_fitsNotes_11 : decode cX6_fitsNotes 11 = .ok (.iload 4, 2) := by decide +kernel
theorem dX6_fitsNotes_13 : decode cX6_fitsNotes 13 = .ok (.aload_n 3, 1) := by decide +kernel
theorem dX6_fitsNotes_14 : decode cX6_fitsNotes 14 = .ok (.getfield 325, 3) := by decide +kernel
theorem dX6_fitsNotes_17 : decode cX6_fitsNotes 17 = .ok (.if_icmp .ge 57, 3) := by decide +kernel
theorem dX6_fitsNotes_20 : decode cX6_fitsNotes 20 = .ok (.aload_n 3, 1) := by decide +kernel
theorem dX6_fitsNotes_21 : decode cX6_fitsNotes 21 = .ok (.iload 4, 2) := by decide +kernel
theorem dX6_fitsNotes_23 : decode cX6_fitsNotes 23 = .ok (.iconst 0, 1) := by decide +kernel
theorem dX6_fitsNotes_24 : decode cX6_fitsNotes 24 = .ok (.invokevirtual 338, 3) := by decide +kernel
theorem dX6_fitsNotes_27 : decode cX6_fitsNotes 27 = .ok (.iload_n 1, 1) := by decide +kernel
theorem dX6_fitsNotes_28 : decode cX6_fitsNotes 28 = .ok (.if_icmp .ne 40, 3) := by decide +kernel
theorem dX6_fitsNotes_31 : decode cX6_fitsNotes 31 = .ok (.iload_n 2, 1) := by decide +kernel
theorem dX6_fitsNotes_32 : decode cX6_fitsNotes 32 = .ok (.aload_n 3, 1) := by decide +kernel
theorem dX6_fitsNotes_33 : decode cX6_fitsNotes 33 = .ok (.iload 4, 2) := by decide +kernel
theorem dX6_fitsNotes_35 : decode cX6_fitsNotes 35 = .ok (.iconst 1, 1) := by decide +kernel
theorem dX6_fitsNotes_36 : decode cX6_fitsNotes 36 = .ok (.invokevirtual 338, 3) := by decide +kernel
theorem dX6_fitsNotes_39 : decode cX6_fitsNotes 39 = .ok (.aload_n 3, 1) := by decide +kernel
theorem dX6_fitsNotes_40 : decode cX6_fitsNotes 40 = .ok (.iload 4, 2) := by decide +kernel
theorem dX6_fitsNotes_42 : decode cX6_fitsNotes 42 = .ok (.iconst 2, 1) := by decide +kernel
theorem dX6_fitsNotes_43 : decode cX6_fitsNotes 43 = .ok (.invokevirtual 338, 3) := by decide +kernel
theorem dX6_fitsNotes_46 : decode cX6_fitsNotes 46 = .ok (.aload_n 3, 1) := by decide +kernel
theorem dX6_fitsNotes_47 : decode cX6_fitsNotes 47 = .ok (.iload 4, 2) := by decide +kernel
theorem dX6_fitsNotes_49 : decode cX6_fitsNotes 49 = .ok (.iconst 3, 1) := by decide +kernel
theorem dX6_fitsNotes_50 : decode cX6_fitsNotes 50 = .ok (.invokevirtual 338, 3) := by decide +kernel
theorem dX6_fitsNotes_53 : decode cX6_fitsNotes 53 = .ok (.invokestatic 347, 3) := by decide +kernel
theorem dX6_fitsNotes_56 : decode cX6_fitsNotes 56 = .ok (.aload_n 3, 1) := by decide +kernel
theorem dX6_fitsNotes_57 : decode cX6_fitsNotes 57 = .ok (.iload 4, 2) := by decide +kernel
theorem dX6_fitsNotes_59 : decode cX6_fitsNotes 59 = .ok (.iconst 4, 1) := by decide +kernel
theorem dX6_fitsNotes_60 : decode cX6_fitsNotes 60 = .ok (.invokevirtual 338, 3) := by decide +kernel
theorem dX6_fitsNotes_63 : decode cX6_fitsNotes 63 = .ok (.if_icmp .eq 5, 3) := by decide +kernel
theorem dX6_fitsNotes_66 : decode cX6_fitsNotes 66 = .ok (.iconst 0, 1) := by decide +kernel
theorem dX6_fitsNotes_67 : decode cX6_fitsNotes 67 = .ok (.ireturn, 1) := by decide +kernel
theorem dX6_fitsNotes_68 : decode cX6_fitsNotes 68 = .ok (.iinc 4 1, 3) := by decide +kernel
theorem dX6_fitsNotes_71 : decode cX6_fitsNotes 71 = .ok (.goto (-60), 3) := by decide +kernel
theorem dX6_fitsNotes_74 : decode cX6_fitsNotes 74 = .ok (.iconst 1, 1) := by decide +kernel
theorem dX6_fitsNotes_75 : decode cX6_fitsNotes 75 = .ok (.ireturn, 1) := by decide +kernel
theorem dX6_fittingKinds_0 : decode cX6_fittingKinds 0 = .ok (.iconst 0, 1) := by decide +kernel
theorem dX6_fittingKinds_1 : decode cX6_fittingKinds 1 = .ok (.istore_n 2, 1) := by decide +kernel
theorem dX6_fittingKinds_2 : decode cX6_fittingKinds 2 = .ok (.iconst 0, 1) := by decide +kernel
theorem dX6_fittingKinds_3 : decode cX6_fittingKinds 3 = .ok (.istore_n 3, 1) := by decide +kernel
theorem dX6_fittingKinds_4 : decode cX6_fittingKinds 4 = .ok (.iload_n 3, 1) := by decide +kernel
theorem dX6_fittingKinds_5 : decode cX6_fittingKinds 5 = .ok (.bipush 6, 2) := by decide +kernel
theorem dX6_fittingKinds_7 : decode cX6_fittingKinds 7 = .ok (.if_icmp .ge 24, 3) := by decide +kernel
theorem dX6_fittingKinds_10 : decode cX6_fittingKinds 10 = .ok (.aload_n 0, 1) := by decide +kernel
theorem dX6_fittingKinds_11 : decode cX6_fittingKinds 11 = .ok (.iload_n 1, 1) := by decide +kernel
theorem dX6_fittingKinds_12 : decode cX6_fittingKinds 12 = .ok (.iload_n 3, 1) := by decide +kernel
theorem dX6_fittingKinds_13 : decode cX6_fittingKinds 13 = .ok (.invokevirtual 350, 3) := by decide +kernel
theorem dX6_fittingKinds_16 : decode cX6_fittingKinds 16 = .ok (.ifCond .eq 9, 3) := by decide +kernel
theorem dX6_fittingKinds_19 : decode cX6_fittingKinds 19 = .ok (.iload_n 2, 1) := by decide +kernel
theorem dX6_fittingKinds_20 : decode cX6_fittingKinds 20 = .ok (.iconst 1, 1) := by decide +kernel
theorem dX6_fittingKinds_21 : decode cX6_fittingKinds 21 = .ok (.iload_n 3, 1) := by decide +kernel
theorem dX6_fittingKinds_22 : decode cX6_fittingKinds 22 = .ok (.ishl, 1) := by decide +kernel
theorem dX6_fittingKinds_23 : decode cX6_fittingKinds 23 = .ok (.ior, 1) := by decide +kernel
theorem dX6_fittingKinds_24 : decode cX6_fittingKinds 24 = .ok (.istore_n 2, 1) := by decide +kernel
theorem dX6_fittingKinds_25 : decode cX6_fittingKinds 25 = .ok (.iinc 3 1, 3) := by decide +kernel
theorem dX6_fittingKinds_28 : decode cX6_fittingKinds 28 = .ok (.goto (-24), 3) := by decide +kernel
theorem dX6_fittingKinds_31 : decode cX6_fittingKinds 31 = .ok (.iload_n 2, 1) := by decide +kernel
theorem dX6_fittingKinds_32 : decode cX6_fittingKinds 32 = .ok (.ireturn, 1) := by decide +kernel
theorem dX6_fitsMarks_0 : decode cX6_fitsMarks 0 = .ok (.aload_n 0, 1) := by decide +kernel
theorem dX6_fitsMarks_1 : decode cX6_fitsMarks 1 = .ok (.getfield 10, 3) := by decide +kernel
theorem dX6_fitsMarks_4 : decode cX6_fitsMarks 4 = .ok (.getfield 250, 3) := by decide +kernel
theorem dX6_fitsMarks_7 : decode cX6_fitsMarks 7 = .ok (.astore_n 3, 1) := by decide +kernel
theorem dX6_fitsMarks_8 : decode cX6_fitsMarks 8 = .ok (.iconst 0, 1) := by decide +kernel
theorem dX6_fitsMarks_9 : decode cX6_fitsMarks 9 = .ok (.istore 4, 2) := by decide +kernel
theorem dX6_fitsMarks_11 : decode cX6_fitsMarks 11 = .ok (.iload 4, 2) := by decide +kernel
theorem dX6_fitsMarks_13 : decode cX6_fitsMarks 13 = .ok (.aload_n 3, 1) := by decide +kernel
theorem dX6_fitsMarks_14 : decode cX6_fitsMarks 14 = .ok (.getfield 325, 3) := by decide +kernel
theorem dX6_fitsMarks_17 : decode cX6_fitsMarks 17 = .ok (.if_icmp .ge 50, 3) := by decide +kernel
theorem dX6_fitsMarks_20 : decode cX6_fitsMarks 20 = .ok (.aload_n 3, 1) := by decide +kernel
theorem dX6_fitsMarks_21 : decode cX6_fitsMarks 21 = .ok (.iload 4, 2) := by decide +kernel
theorem dX6_fitsMarks_23 : decode cX6_fitsMarks 23 = .ok (.iconst 0, 1) := by decide +kernel
theorem dX6_fitsMarks_24 : decode cX6_fitsMarks 24 = .ok (.invokevirtual 338, 3) := by decide +kernel
theorem dX6_fitsMarks_27 : decode cX6_fitsMarks 27 = .ok (.iload_n 1, 1) := by decide +kernel
theorem dX6_fitsMarks_28 : decode cX6_fitsMarks 28 = .ok (.if_icmp .ne 33, 3) := by decide +kernel
theorem dX6_fitsMarks_31 : decode cX6_fitsMarks 31 = .ok (.iload_n 2, 1) := by decide +kernel
theorem dX6_fitsMarks_32 : decode cX6_fitsMarks 32 = .ok (.aload_n 3, 1) := by decide +kernel
theorem dX6_fitsMarks_33 : decode cX6_fitsMarks 33 = .ok (.iload 4, 2) := by decide +kernel
theorem dX6_fitsMarks_35 : decode cX6_fitsMarks 35 = .ok (.iconst 1, 1) := by decide +kernel
theorem dX6_fitsMarks_36 : decode cX6_fitsMarks 36 = .ok (.invokevirtual 338, 3) := by decide +kernel
theorem dX6_fitsMarks_39 : decode cX6_fitsMarks 39 = .ok (.aload_n 3, 1) := by decide +kernel
theorem dX6_fitsMarks_40 : decode cX6_fitsMarks 40 = .ok (.iload 4, 2) := by decide +kernel
theorem dX6_fitsMarks_42 : decode cX6_fitsMarks 42 = .ok (.iconst 2, 1) := by decide +kernel
theorem dX6_fitsMarks_43 : decode cX6_fitsMarks 43 = .ok (.invokevirtual 338, 3) := by decide +kernel
theorem dX6_fitsMarks_46 : decode cX6_fitsMarks 46 = .ok (.invokestatic 353, 3) := by decide +kernel
theorem dX6_fitsMarks_49 : decode cX6_fitsMarks 49 = .ok (.aload_n 3, 1) := by decide +kernel
theorem dX6_fitsMarks_50 : decode cX6_fitsMarks 50 = .ok (.iload 4, 2) := by decide +kernel
theorem dX6_fitsMarks_52 : decode cX6_fitsMarks 52 = .ok (.iconst 3, 1) := by decide +kernel
theorem dX6_fitsMarks_53 : decode cX6_fitsMarks 53 = .ok (.invokevirtual 338, 3) := by decide +kernel
theorem dX6_fitsMarks_56 : decode cX6_fitsMarks 56 = .ok (.if_icmp .eq 5, 3) := by decide +kernel
theorem dX6_fitsMarks_59 : decode cX6_fitsMarks 59 = .ok (.iconst 0, 1) := by decide +kernel
theorem dX6_fitsMarks_60 : decode cX6_fitsMarks 60 = .ok (.ireturn, 1) := by decide +kernel
theorem dX6_fitsMarks_61 : decode cX6_fitsMarks 61 = .ok (.iinc 4 1, 3) := by decide +kernel
theorem dX6_fitsMarks_64 : decode cX6_fitsMarks 64 = .ok (.goto (-53), 3) := by decide +kernel
theorem dX6_fitsMarks_67 : decode cX6_fitsMarks 67 = .ok (.iconst 1, 1) := by decide +kernel
theorem dX6_fitsMarks_68 : decode cX6_fitsMarks 68 = .ok (.ireturn, 1) := by decide +kernel
theorem dX6_alikeByLength_0 : decode cX6_alikeByLength 0 = .ok (.iconst 0, 1) := by decide +kernel
theorem dX6_alikeByLength_1 : decode cX6_alikeByLength 1 = .ok (.istore 4, 2) := by decide +kernel
theorem dX6_alikeByLength_3 : decode cX6_alikeByLength 3 = .ok (.iconst 1, 1) := by decide +kernel
theorem dX6_alikeByLength_4 : decode cX6_alikeByLength 4 = .ok (.istore 5, 2) := by decide +kernel
theorem dX6_alikeByLength_6 : decode cX6_alikeByLength 6 = .ok (.iload 5, 2) := by decide +kernel
theorem dX6_alikeByLength_8 : decode cX6_alikeByLength 8 = .ok (.bipush 9, 2) := by decide +kernel
theorem dX6_alikeByLength_10 : decode cX6_alikeByLength 10 = .ok (.if_icmp .gt 40, 3) := by decide +kernel
theorem dX6_alikeByLength_13 : decode cX6_alikeByLength 13 = .ok (.iload_n 2, 1) := by decide +kernel
theorem dX6_alikeByLength_14 : decode cX6_alikeByLength 14 = .ok (.iload 5, 2) := by decide +kernel
theorem dX6_alikeByLength_16 : decode cX6_alikeByLength 16 = .ok (.invokestatic 308, 3) := by decide +kernel
theorem dX6_alikeByLength_19 : decode cX6_alikeByLength 19 = .ok (.ifCond .eq 25, 3) := by decide +kernel
theorem dX6_alikeByLength_22 : decode cX6_alikeByLength 22 = .ok (.aload_n 0, 1) := by decide +kernel
theorem dX6_alikeByLength_23 : decode cX6_alikeByLength 23 = .ok (.getfield 60, 3) := by decide +kernel
theorem dX6_alikeByLength_26 : decode cX6_alikeByLength 26 = .ok (.iload 4, 2) := by decide +kernel
theorem dX6_alikeByLength_28 : decode cX6_alikeByLength 28 = .ok (.aload_n 0, 1) := by decide +kernel
theorem dX6_alikeByLength_29 : decode cX6_alikeByLength 29 = .ok (.iload_n 1, 1) := by decide +kernel
theorem dX6_alikeByLength_30 : decode cX6_alikeByLength 30 = .ok (.iload_n 3, 1) := by decide +kernel
theorem dX6_alikeByLength_31 : decode cX6_alikeByLength 31 = .ok (.iload 5, 2) := by decide +kernel
theorem dX6_alikeByLength_33 : decode cX6_alikeByLength 33 = .ok (.bipush 30, 2) := by decide +kernel
theorem dX6_alikeByLength_35 : decode cX6_alikeByLength 35 = .ok (.invokevirtual 341, 3) := by decide +kernel
theorem dX6_alikeByLength_38 : decode cX6_alikeByLength 38 = .ok (.invokestatic 151, 3) := by decide +kernel
theorem dX6_alikeByLength_41 : decode cX6_alikeByLength 41 = .ok (.iinc 4 1, 3) := by decide +kernel
theorem dX6_alikeByLength_44 : decode cX6_alikeByLength 44 = .ok (.iinc 5 1, 3) := by decide +kernel
theorem dX6_alikeByLength_47 : decode cX6_alikeByLength 47 = .ok (.goto (-41), 3) := by decide +kernel
theorem dX6_alikeByLength_50 : decode cX6_alikeByLength 50 = .ok (.aload_n 0, 1) := by decide +kernel
theorem dX6_alikeByLength_51 : decode cX6_alikeByLength 51 = .ok (.getfield 60, 3) := by decide +kernel
theorem dX6_alikeByLength_54 : decode cX6_alikeByLength 54 = .ok (.iload 4, 2) := by decide +kernel
theorem dX6_alikeByLength_56 : decode cX6_alikeByLength 56 = .ok (.invokestatic 356, 3) := by decide +kernel
theorem dX6_alikeByLength_59 : decode cX6_alikeByLength 59 = .ok (.ireturn, 1) := by decide +kernel
theorem dX6_alikeByDrop_0 : decode cX6_alikeByDrop 0 = .ok (.iconst 0, 1) := by decide +kernel
theorem dX6_alikeByDrop_1 : decode cX6_alikeByDrop 1 = .ok (.istore 5, 2) := by decide +kernel
theorem dX6_alikeByDrop_3 : decode cX6_alikeByDrop 3 = .ok (.iconst 0, 1) := by decide +kernel
theorem dX6_alikeByDrop_4 : decode cX6_alikeByDrop 4 = .ok (.istore 6, 2) := by decide +kernel
theorem dX6_alikeByDrop_6 : decode cX6_alikeByDrop 6 = .ok (.iload 6, 2) := by decide +kernel
theorem dX6_alikeByDrop_8 : decode cX6_alikeByDrop 8 = .ok (.bipush 6, 2) := by decide +kernel
theorem dX6_alikeByDrop_10 : decode cX6_alikeByDrop 10 = .ok (.if_icmp .ge 39, 3) := by decide +kernel
theorem dX6_alikeByDrop_13 : decode cX6_alikeByDrop 13 = .ok (.iload_n 1, 1) := by decide +kernel
theorem dX6_alikeByDrop_14 : decode cX6_alikeByDrop 14 = .ok (.iload 6, 2) := by decide +kernel
theorem dX6_alikeByDrop_16 : decode cX6_alikeByDrop 16 = .ok (.invokestatic 308, 3) := by decide +kernel
theorem dX6_alikeByDrop_19 : decode cX6_alikeByDrop 19 = .ok (.ifCond .eq 24, 3) := by decide +kernel
theorem dX6_alikeByDrop_22 : decode cX6_alikeByDrop 22 = .ok (.aload_n 0, 1) := by decide +kernel
theorem dX6_alikeByDrop_23 : decode cX6_alikeByDrop 23 = .ok (.getfield 60, 3) := by decide +kernel
theorem dX6_alikeByDrop_26 : decode cX6_alikeByDrop 26 = .ok (.iload 5, 2) := by decide +kernel
theorem dX6_alikeByDrop_28 : decode cX6_alikeByDrop 28 = .ok (.iload 6, 2) := by decide +kernel
theorem dX6_alikeByDrop_30 : decode cX6_alikeByDrop 30 = .ok (.iload_n 2, 1) := by decide +kernel
theorem dX6_alikeByDrop_31 : decode cX6_alikeByDrop 31 = .ok (.iload_n 3, 1) := by decide +kernel
theorem dX6_alikeByDrop_32 : decode cX6_alikeByDrop 32 = .ok (.iload 4, 2) := by decide +kernel
theorem dX6_alikeByDrop_34 : decode cX6_alikeByDrop 34 = .ok (.invokestatic 347, 3) := by decide +kernel
theorem dX6_alikeByDrop_37 : decode cX6_alikeByDrop 37 = .ok (.invokestatic 151, 3) := by decide +kernel
theorem dX6_alikeByDrop_40 : decode cX6_alikeByDrop 40 = .ok (.iinc 5 1, 3) := by decide +kernel
theorem dX6_alikeByDrop_43 : decode cX6_alikeByDrop 43 = .ok (.iinc 6 1, 3) := by decide +kernel
theorem dX6_alikeByDrop_46 : decode cX6_alikeByDrop 46 = .ok (.goto (-40), 3) := by decide +kernel
theorem dX6_alikeByDrop_49 : decode cX6_alikeByDrop 49 = .ok (.aload_n 0, 1) := by decide +kernel
theorem dX6_alikeByDrop_50 : decode cX6_alikeByDrop 50 = .ok (.getfield 60, 3) := by decide +kernel
theorem dX6_alikeByDrop_53 : decode cX6_alikeByDrop 53 = .ok (.iload 5, 2) := by decide +kernel
theorem dX6_alikeByDrop_55 : decode cX6_alikeByDrop 55 = .ok (.invokestatic 356, 3) := by decide +kernel
theorem dX6_alikeByDrop_58 : decode cX6_alikeByDrop 58 = .ok (.ireturn, 1) := by decide +kernel
theorem dX6_alikeByHigh_0 : decode cX6_alikeByHigh 0 = .ok (.iconst 0, 1) := by decide +kernel
theorem dX6_alikeByHigh_1 : decode cX6_alikeByHigh 1 = .ok (.istore 4, 2) := by decide +kernel
theorem dX6_alikeByHigh_3 : decode cX6_alikeByHigh 3 = .ok (.iconst 0, 1) := by decide +kernel
theorem dX6_alikeByHigh_4 : decode cX6_alikeByHigh 4 = .ok (.istore 5, 2) := by decide +kernel
theorem dX6_alikeByHigh_6 : decode cX6_alikeByHigh 6 = .ok (.iload 5, 2) := by decide +kernel
theorem dX6_alikeByHigh_8 : decode cX6_alikeByHigh 8 = .ok (.bipush 6, 2) := by decide +kernel
theorem dX6_alikeByHigh_10 : decode cX6_alikeByHigh 10 = .ok (.if_icmp .ge 37, 3) := by decide +kernel
theorem dX6_alikeByHigh_13 : decode cX6_alikeByHigh 13 = .ok (.iload_n 1, 1) := by decide +kernel
theorem dX6_alikeByHigh_14 : decode cX6_alikeByHigh 14 = .ok (.iload 5, 2) := by decide +kernel
theorem dX6_alikeByHigh_16 : decode cX6_alikeByHigh 16 = .ok (.invokestatic 308, 3) := by decide +kernel
theorem dX6_alikeByHigh_19 : decode cX6_alikeByHigh 19 = .ok (.ifCond .eq 22, 3) := by decide +kernel
theorem dX6_alikeByHigh_22 : decode cX6_alikeByHigh 22 = .ok (.aload_n 0, 1) := by decide +kernel
theorem dX6_alikeByHigh_23 : decode cX6_alikeByHigh 23 = .ok (.getfield 60, 3) := by decide +kernel
theorem dX6_alikeByHigh_26 : decode cX6_alikeByHigh 26 = .ok (.iload 4, 2) := by decide +kernel
theorem dX6_alikeByHigh_28 : decode cX6_alikeByHigh 28 = .ok (.iload 5, 2) := by decide +kernel
theorem dX6_alikeByHigh_30 : decode cX6_alikeByHigh 30 = .ok (.iload_n 2, 1) := by decide +kernel
theorem dX6_alikeByHigh_31 : decode cX6_alikeByHigh 31 = .ok (.iload_n 3, 1) := by decide +kernel
theorem dX6_alikeByHigh_32 : decode cX6_alikeByHigh 32 = .ok (.invokestatic 353, 3) := by decide +kernel
theorem dX6_alikeByHigh_35 : decode cX6_alikeByHigh 35 = .ok (.invokestatic 151, 3) := by decide +kernel
theorem dX6_alikeByHigh_38 : decode cX6_alikeByHigh 38 = .ok (.iinc 4 1, 3) := by decide +kernel
theorem dX6_alikeByHigh_41 : decode cX6_alikeByHigh 41 = .ok (.iinc 5 1, 3) := by decide +kernel
theorem dX6_alikeByHigh_44 : decode cX6_alikeByHigh 44 = .ok (.goto (-38), 3) := by decide +kernel
theorem dX6_alikeByHigh_47 : decode cX6_alikeByHigh 47 = .ok (.aload_n 0, 1) := by decide +kernel
theorem dX6_alikeByHigh_48 : decode cX6_alikeByHigh 48 = .ok (.getfield 60, 3) := by decide +kernel
theorem dX6_alikeByHigh_51 : decode cX6_alikeByHigh 51 = .ok (.iload 4, 2) := by decide +kernel
theorem dX6_alikeByHigh_53 : decode cX6_alikeByHigh 53 = .ok (.invokestatic 356, 3) := by decide +kernel
theorem dX6_alikeByHigh_56 : decode cX6_alikeByHigh 56 = .ok (.ireturn, 1) := by decide +kernel
theorem dX6_freshHigh_0 : decode cX6_freshHigh 0 = .ok (.aload_n 0, 1) := by decide +kernel
theorem dX6_freshHigh_1 : decode cX6_freshHigh 1 = .ok (.getfield 10, 3) := by decide +kernel
theorem dX6_freshHigh_4 : decode cX6_freshHigh 4 = .ok (.getfield 359, 3) := by decide +kernel
theorem dX6_freshHigh_7 : decode cX6_freshHigh 7 = .ok (.iload_n 1, 1) := by decide +kernel
theorem dX6_freshHigh_8 : decode cX6_freshHigh 8 = .ok (.invokestatic 195, 3) := by decide +kernel
theorem dX6_freshHigh_11 : decode cX6_freshHigh 11 = .ok (.iload 4, 2) := by decide +kernel
theorem dX6_freshHigh_13 : decode cX6_freshHigh 13 = .ok (.aload_n 0, 1) := by decide +kernel
theorem dX6_freshHigh_14 : decode cX6_freshHigh 14 = .ok (.getfield 10, 3) := by decide +kernel
theorem dX6_freshHigh_17 : decode cX6_freshHigh 17 = .ok (.getfield 362, 3) := by decide +kernel
theorem dX6_freshHigh_20 : decode cX6_freshHigh 20 = .ok (.iload_n 1, 1) := by decide +kernel
theorem dX6_freshHigh_21 : decode cX6_freshHigh 21 = .ok (.invokestatic 195, 3) := by decide +kernel
theorem dX6_freshHigh_24 : decode cX6_freshHigh 24 = .ok (.iload_n 2, 1) := by decide +kernel
theorem dX6_freshHigh_25 : decode cX6_freshHigh 25 = .ok (.iload_n 3, 1) := by decide +kernel
theorem dX6_freshHigh_26 : decode cX6_freshHigh 26 = .ok (.iconst 0, 1) := by decide +kernel
theorem dX6_freshHigh_27 : decode cX6_freshHigh 27 = .ok (.invokestatic 347, 3) := by decide +kernel
theorem dX6_freshHigh_30 : decode cX6_freshHigh 30 = .ok (.isub, 1) := by decide +kernel
theorem dX6_freshHigh_31 : decode cX6_freshHigh 31 = .ok (.iconst 0, 1) := by decide +kernel
theorem dX6_freshHigh_32 : decode cX6_freshHigh 32 = .ok (.invokestatic 353, 3) := by decide +kernel
theorem dX6_freshHigh_35 : decode cX6_freshHigh 35 = .ok (.ireturn, 1) := by decide +kernel
end
section
theorem dX7_in_0 : decode cX7_in 0 = .ok (.lload_n 0, 1) := by decide +kernel
theorem dX7_in_1 : decode cX7_in 1 = .ok (.lload_n 2, 1) := by decide +kernel
theorem dX7_in_2 : decode cX7_in 2 = .ok (.lcmp, 1) := by decide +kernel
theorem dX7_in_3 : decode cX7_in 3 = .ok (.ifCond .lt 14, 3) := by decide +kernel
theorem dX7_in_6 : decode cX7_in 6 = .ok (.lload_n 0, 1) := by decide +kernel
theorem dX7_in_7 : decode cX7_in 7 = .ok (.lload 4, 2) := by decide +kernel
theorem dX7_in_9 : decode cX7_in 9 = .ok (.lcmp, 1) := by decide +kernel
theorem dX7_in_10 : decode cX7_in 10 = .ok (.ifCond .gt 7, 3) := by decide +kernel
theorem dX7_in_13 : decode cX7_in 13 = .ok (.iconst 1, 1) := by decide +kernel
theorem dX7_in_14 : decode cX7_in 14 = .ok (.goto 4, 3) := by decide +kernel
theorem dX7_in_17 : decode cX7_in 17 = .ok (.iconst 0, 1) := by decide +kernel
theorem dX7_in_18 : decode cX7_in 18 = .ok (.ireturn, 1) := by decide +kernel
theorem dX7_init_0 : decode cX7_init 0 = .ok (.aload_n 0, 1) := by decide +kernel
theorem dX7_init_1 : decode cX7_init 1 = .ok (.invokespecial 1, 3) := by decide +kernel
theorem dX7_init_4 : decode cX7_init 4 = .ok (.aload_n 0, 1) := by decide +kernel
theorem dX7_init_5 : decode cX7_init 5 = .ok (.sipush 340, 3) := by decide +kernel
theorem dX7_init_8 : decode cX7_init 8 = .ok (.newarray .int, 2) := by decide +kernel
theorem dX7_init_10 : decode cX7_init 10 = .ok (.putfield 7, 3) := by decide +kernel
theorem dX7_init_13 : decode cX7_init 13 = .ok (.aload_n 0, 1) := by decide +kernel
theorem dX7_init_14 : decode cX7_init 14 = .ok (.lconst 1, 1) := by decide +kernel
theorem dX7_init_15 : decode cX7_init 15 = .ok (.putfield 13, 3) := by decide +kernel
theorem dX7_init_18 : decode cX7_init 18 = .ok (.aload_n 0, 1) := by decide +kernel
theorem dX7_init_19 : decode cX7_init 19 = .ok (.sipush 150, 3) := by decide +kernel
theorem dX7_init_22 : decode cX7_init 22 = .ok (.newarray .int, 2) := by decide +kernel
theorem dX7_init_24 : decode cX7_init 24 = .ok (.putfield 17, 3) := by decide +kernel
theorem dX7_init_27 : decode cX7_init 27 = .ok (.aload_n 0, 1) := by decide +kernel
theorem dX7_init_28 : decode cX7_init 28 = .ok (.sipush 340, 3) := by decide +kernel
theorem dX7_init_31 : decode cX7_init 31 = .ok (.newarray .int, 2) := by decide +kernel
theorem dX7_init_33 : decode cX7_init 33 = .ok (.putfield 20, 3) := by decide +kernel
theorem dX7_init_36 : decode cX7_init 36 = .ok (.aload_n 0, 1) := by decide +kernel
theorem dX7_init_37 : decode cX7_init 37 = .ok (.bipush 53, 2) := by decide +kernel
theorem dX7_init_39 : decode cX7_init 39 = .ok (.newarray .int, 2) := by decide +kernel
theorem dX7_init_41 : decode cX7_init 41 = .ok (.putfield 23, 3) := by decide +kernel
theorem dX7_init_44 : decode cX7_init 44 = .ok (.aload_n 0, 1) := by decide +kernel
theorem dX7_init_45 : decode cX7_init 45 = .ok (.bipush 10, 2) := by decide +kernel
theorem dX7_init_47 : decode cX7_init 47 = .ok (.newarray .int, 2) := by decide +kernel
theorem dX7_init_49 : decode cX7_init 49 = .ok (.putfield 26, 3) := by decide +kernel
theorem dX7_init_52 : decode cX7_init 52 = .ok (.aload_n 0, 1) := by decide +kernel
theorem dX7_init_53 : decode cX7_init 53 = .ok (.bipush 25, 2) := by decide +kernel
theorem dX7_init_55 : decode cX7_init 55 = .ok (.newarray .int, 2) := by decide +kernel
theorem dX7_init_57 : decode cX7_init 57 = .ok (.putfield 29, 3) := by decide +kernel
theorem dX7_init_60 : decode cX7_init 60 = .ok (.aload_n 0, 1) := by decide +kernel
theorem dX7_init_61 : decode cX7_init 61 = .ok (.bipush 25, 2) := by decide +kernel
theorem dX7_init_63 : decode cX7_init 63 = .ok (.newarray .int, 2) := by decide +kernel
theorem dX7_init_65 : decode cX7_init 65 = .ok (.putfield 32, 3) := by decide +kernel
theorem dX7_init_68 : decode cX7_init 68 = .ok (.aload_n 0, 1) := by decide +kernel
theorem dX7_init_69 : decode cX7_init 69 = .ok (.sipush 680, 3) := by decide +kernel
theorem dX7_init_72 : decode cX7_init 72 = .ok (.newarray .int, 2) := by decide +kernel
theorem dX7_init_74 : decode cX7_init 74 = .ok (.putfield 35, 3) := by decide +kernel
theorem dX7_init_77 : decode cX7_init 77 = .ok (.aload_n 0, 1) := by decide +kernel
theorem dX7_init_78 : decode cX7_init 78 = .ok (.bipush 20, 2) := by decide +kernel
theorem dX7_init_80 : decode cX7_init 80 = .ok (.invokevirtual 38, 3) := by decide +kernel
theorem dX7_init_83 : decode cX7_init 83 = .ok (.return_, 1) := by decide +kernel
theorem dX7_begins_0 : decode cX7_begins 0 = .ok (.iconst 0, 1) := by decide +kernel
theorem dX7_begins_1 : decode cX7_begins 1 = .ok (.istore_n 2, 1) := by decide +kernel
theorem dX7_begins_2 : decode cX7_begins 2 = .ok (.iload_n 2, 1) := by decide +kernel
theorem dX7_begins_3 : decode cX7_begins 3 = .ok (.sipush 340, 3) := by decide +kernel
theorem dX7_begins_6 : decode cX7_begins 6 = .ok (.if_icmp .ge 16, 3) := by decide +kernel
theorem dX7_begins_9 : decode cX7_begins 9 = .ok (.aload_n 0, 1) := by decide +kernel
theorem dX7_begins_10 : decode cX7_begins 10 = .ok (.getfield 7, 3) := by decide +kernel
theorem dX7_begins_13 : decode cX7_begins 13 = .ok (.iload_n 2, 1) := by decide +kernel
theorem dX7_begins_14 : decode cX7_begins 14 = .ok (.iconst 0, 1) := by decide +kernel
theorem dX7_begins_15 : decode cX7_begins 15 = .ok (.iastore, 1) := by decide +kernel
theorem dX7_begins_16 : decode cX7_begins 16 = .ok (.iinc 2 1, 3) := by decide +kernel
theorem dX7_begins_19 : decode cX7_begins 19 = .ok (.goto (-17), 3) := by decide +kernel
theorem dX7_begins_22 : decode cX7_begins 22 = .ok (.aload_n 0, 1) := by decide +kernel
theorem dX7_begins_23 : decode cX7_begins 23 = .ok (.getfield 7, 3) := by decide +kernel
theorem dX7_begins_26 : decode cX7_begins 26 = .ok (.iconst 1, 1) := by decide +kernel
theorem dX7_begins_27 : decode cX7_begins 27 = .ok (.iload_n 1, 1) := by decide +kernel
theorem dX7_begins_28 : decode cX7_begins 28 = .ok (.iastore, 1) := by decide +kernel
theorem dX7_begins_29 : decode cX7_begins 29 = .ok (.iconst 0, 1) := by decide +kernel
theorem dX7_begins_30 : decode cX7_begins 30 = .ok (.istore_n 2, 1) := by decide +kernel
theorem dX7_begins_31 : decode cX7_begins 31 = .ok (.iload_n 2, 1) := by decide +kernel
theorem dX7_begins_32 : decode cX7_begins 32 = .ok (.bipush 8, 2) := by decide +kernel
theorem dX7_begins_34 : decode cX7_begins 34 = .ok (.if_icmp .ge 21, 3) := by decide +kernel
theorem dX7_begins_37 : decode cX7_begins 37 = .ok (.aload_n 0, 1) := by decide +kernel
theorem dX7_begins_38 : decode cX7_begins 38 = .ok (.getfield 7, 3) := by decide +kernel
theorem dX7_begins_41 : decode cX7_begins 41 = .ok (.bipush 54, 2) := by decide +kernel
theorem dX7_begins_43 : decode cX7_begins 43 = .ok (.iconst 2, 1) := by decide +kernel
theorem dX7_begins_44 : decode cX7_begins 44 = .ok (.iload_n 2, 1) := by decide +kernel
theorem dX7_begins_45 : decode cX7_begins 45 = .ok (.imul, 1) := by decide +kernel
theorem dX7_begins_46 : decode cX7_begins 46 = .ok (.iadd, 1) := by decide +kernel
theorem dX7_begins_47 : decode cX7_begins 47 = .ok (.iconst 4, 1) := by decide +kernel
theorem dX7_begins_48 : decode cX7_begins 48 = .ok (.iastore, 1) := by decide +kernel
theorem dX7_begins_49 : decode cX7_begins 49 = .ok (.iinc 2 1, 3) := by decide +kernel
theorem dX7_begins_52 : decode cX7_begins 52 = .ok (.goto (-21), 3) := by decide +kernel
theorem dX7_begins_55 : decode cX7_begins 55 = .ok (.return_, 1) := by decide +kernel
theorem dX7_bad_0 : decode cX7_bad 0 = .ok (.aload_n 0, 1) := by decide +kernel
theorem dX7_bad_1 : decode cX7_bad 1 = .ok (.dup, 1) := by decide +kernel
theorem dX7_bad_2 : decode cX7_bad 2 = .ok (.getfield 42, 3) := by decide +kernel
theorem dX7_bad_5 : decode cX7_bad 5 = .ok (.iconst 1, 1) := by decide +kernel
theorem dX7_bad_6 : decode cX7_bad 6 = .ok (.iadd, 1) := by decide +kernel
theorem dX7_bad_7 : decode cX7_bad 7 = .ok (.putfield 42, 3) := by decide +kernel
theorem dX7_bad_10 : decode cX7_bad 10 = .ok (.sipush (-1002), 3) := by decide +kernel
theorem dX7_bad_13 : decode cX7_bad 13 = .ok (.ireturn, 1) := by decide +kernel
theorem dX7_badTen_0 : decode cX7_badTen 0 = .ok (.aload_n 0, 1) := by decide +kernel
theorem dX7_badTen_1 : decode cX7_badTen 1 = .ok (.dup, 1) := by decide +kernel
theorem dX7_badTen_2 : decode cX7_badTen 2 = .ok (.getfield 42, 3) := by decide +kernel
theorem dX7_badTen_5 : decode cX7_badTen 5 = .ok (.iconst 1, 1) := by decide +kernel
theorem dX7_badTen_6 : decode cX7_badTen 6 = .ok (.iadd, 1) := by decide +kernel
theorem dX7_badTen_7 : decode cX7_badTen 7 = .ok (.putfield 42, 3) := by decide +kernel
theorem dX7_badTen_10 : decode cX7_badTen 10 = .ok (.bipush (-10), 2) := by decide +kernel
theorem dX7_badTen_12 : decode cX7_badTen 12 = .ok (.ireturn, 1) := by decide +kernel
theorem dX7_no_0 : decode cX7_no 0 = .ok (.aload_n 0, 1) := by decide +kernel
theorem dX7_no_1 : decode cX7_no 1 = .ok (.dup, 1) := by decide +kernel
theorem dX7_no_2 : decode cX7_no 2 = .ok (.getfield 46, 3) := by decide +kernel
theorem dX7_no_5 : decode cX7_no 5 = .ok (.iconst 1, 1) := by decide +kernel
theorem dX7_no_6 : decode cX7_no 6 = .ok (.iadd, 1) := by decide +kernel
theorem dX7_no_7 : decode cX7_no 7 = .ok (.putfield 46, 3) := by decide +kernel
theorem dX7_no_10 : decode cX7_no 10 = .ok (.sipush (-1003), 3) := by decide +kernel
theorem dX7_no_13 : decode cX7_no 13 = .ok (.ireturn, 1) := by decide +kernel
theorem dX7_full_0 : decode cX7_full 0 = .ok (.aload_n 0, 1) := by decide +kernel
theorem dX7_full_1 : decode cX7_full 1 = .ok (.dup, 1) := by decide +kernel
theorem dX7_full_2 : decode cX7_full 2 = .ok (.getfield 49, 3) := by decide +kernel
theorem dX7_full_5 : decode cX7_full 5 = .ok (.iconst 1, 1) := by decide +kernel
theorem dX7_full_6 : decode cX7_full 6 = .ok (.iadd, 1) := by decide +kernel
theorem dX7_full_7 : decode cX7_full 7 = .ok (.putfield 49, 3) := by decide +kernel
theorem dX7_full_10 : decode cX7_full 10 = .ok (.sipush (-1004), 3) := by decide +kernel
theorem dX7_full_13 : decode cX7_full 13 = .ok (.ireturn, 1) := by decide +kernel
theorem dX7_drops_0 : decode cX7_drops 0 = .ok (.iload_n 0, 1) := by decide +kernel
theorem dX7_drops_1 : decode cX7_drops 1 = .ok (.tableswitch 72 0 4 #[35, 37, 43, 47, 61], 35) := by decide +kernel
theorem dX7_drops_36 : decode cX7_drops 36 = .ok (.iload_n 1, 1) := by decide +kernel
theorem dX7_drops_37 : decode cX7_drops 37 = .ok (.ireturn, 1) := by decide +kernel
theorem dX7_drops_38 : decode cX7_drops 38 = .ok (.iload_n 1, 1) := by decide +kernel
theorem dX7_drops_39 : decode cX7_drops 39 = .ok (.iload_n 2, 1) := by decide +kernel
theorem dX7_drops_40 : decode cX7_drops 40 = .ok (.iconst 3, 1) := by decide +kernel
theorem dX7_drops_41 : decode cX7_drops 41 = .ok (.idiv, 1) := by decide +kernel
theorem dX7_drops_42 : decode cX7_drops 42 = .ok (.iadd, 1) := by decide +kernel
theorem dX7_drops_43 : decode cX7_drops 43 = .ok (.ireturn, 1) := by decide +kernel
theorem dX7_drops_44 : decode cX7_drops 44 = .ok (.iload_n 1, 1) := by decide +kernel
theorem dX7_drops_45 : decode cX7_drops 45 = .ok (.iload_n 2, 1) := by decide +kernel
theorem dX7_drops_46 : decode cX7_drops 46 = .ok (.iadd, 1) := by decide +kernel
theorem dX7_drops_47 : decode cX7_drops 47 = .ok (.ireturn, 1) := by decide +kernel
theorem dX7_drops_48 : decode cX7_drops 48 = .ok (.iload_n 1, 1) := by decide +kernel
theorem dX7_drops_49 : decode cX7_drops 49 = .ok (.iconst 2, 1) := by decide +kernel
theorem dX7_drops_50 : decode cX7_drops 50 = .ok (.irem, 1) := by decide +kernel
theorem dX7_drops_51 : decode cX7_drops 51 = .ok (.ifCond .ne 9, 3) := by decide +kernel
theorem dX7_drops_54 : decode cX7_drops 54 = .ok (.iload_n 1, 1) := by decide +kernel
theorem dX7_drops_55 : decode cX7_drops 55 = .ok (.iconst 1, 1) := by decide +kernel
theorem dX7_drops_56 : decode cX7_drops 56 = .ok (.isub, 1) := by decide +kernel
theorem dX7_drops_57 : decode cX7_drops 57 = .ok (.goto 4, 3) := by decide +kernel
theorem dX7_drops_60 : decode cX7_drops 60 = .ok (.iload_n 1, 1) := by decide +kernel
theorem dX7_drops_61 : decode cX7_drops 61 = .ok (.ireturn, 1) := by decide +kernel
theorem dX7_drops_62 : decode cX7_drops 62 = .ok (.iload_n 1, 1) := by decide +kernel
theorem dX7_drops_63 : decode cX7_drops 63 = .ok (.iload_n 2, 1) := by decide +kernel
theorem dX7_drops_64 : decode cX7_drops 64 = .ok (.iconst 3, 1) := by decide +kernel
theorem dX7_drops_65 : decode cX7_drops 65 = .ok (.idiv, 1) := by decide +kernel
theorem dX7_drops_66 : decode cX7_drops 66 = .ok (.iadd, 1) := by decide +kernel
theorem dX7_drops_67 : decode cX7_drops 67 = .ok (.iload_n 3, 1) := by decide +kernel
theorem dX7_drops_68 : decode cX7_drops 68 = .ok (.bipush 10, 2) := by decide +kernel
theorem dX7_drops_70 : decode cX7_drops 70 = .ok (.idiv, 1) := by decide +kernel
theorem dX7_drops_71 : decode cX7_drops 71 = .ok (.iadd, 1) := by decide +kernel
theorem dX7_drops_72 : decode cX7_drops 72 = .ok (.ireturn, 1) := by decide +kernel
theorem dX7_drops_73 : decode cX7_drops 73 = .ok (.iload_n 1, 1) := by decide +kernel
theorem dX7_drops_74 : decode cX7_drops 74 = .ok (.iload_n 2, 1) := by decide +kernel
theorem dX7_drops_75 : decode cX7_drops 75 = .ok (.iadd, 1) := by decide +kernel
theorem dX7_drops_76 : decode cX7_drops 76 = .ok (.iconst 2, 1) := by decide +kernel
theorem dX7_drops_77 : decode cX7_drops 77 = .ok (.iload_n 1, 1) := by decide +kernel
theorem dX7_drops_78 : decode cX7_drops 78 = .ok (.imul, 1) := by decide +kernel
theorem dX7_drops_79 : decode cX7_drops 79 = .ok (.if_icmp .le 9, 3) := by decide +kernel
theorem dX7_drops_82 : decode cX7_drops 82 = .ok (.iconst 2, 1) := by decide +kernel
theorem dX7_drops_83 : decode cX7_drops 83 = .ok (.iload_n 1, 1) := by decide +kernel
theorem dX7_drops_84 : decode cX7_drops 84 = .ok (.imul, 1) := by decide +kernel
theorem dX7_drops_85 : decode cX7_drops 85 = .ok (.goto 6, 3) := by decide +kernel
theorem dX7_drops_88 : decode cX7_drops 88 = .ok (.iload_n 1, 1) := by decide +kernel
theorem dX7_drops_89 : decode cX7_drops 89 = .ok (.iload_n 2, 1) := by decide +kernel
theorem dX7_drops_90 : decode cX7_drops 90 = .ok (.iadd, 1) := by decide +kernel
theorem dX7_drops_91 : decode cX7_drops 91 = .ok (.ireturn, 1) := by decide +kernel
theorem dX7_comesTo_0 : decode cX7_comesTo 0 = .ok (.iload_n 1, 1) := by decide +kernel
theorem dX7_comesTo_1 : decode cX7_comesTo 1 = .ok (.ifCond .ge 7, 3) := by decide +kernel
theorem dX7_comesTo_4 : decode cX7_comesTo 4 = .ok (.iconst 0, 1) := by decide +kernel
theorem dX7_comesTo_5 : decode cX7_comesTo 5 = .ok (.goto 15, 3) := by decide +kernel
theorem dX7_comesTo_8 : decode cX7_comesTo 8 = .ok (.iload_n 1, 1) := by decide +kernel
theorem dX7_comesTo_9 : decode cX7_comesTo 9 = .ok (.bipush 9, 2) := by decide +kernel
theorem dX7_comesTo_11 : decode cX7_comesTo 11 = .ok (.if_icmp .le 8, 3) := by decide +kernel
theorem dX7_comesTo_14 : decode cX7_comesTo 14 = .ok (.bipush 9, 2) := by decide +kernel
theorem dX7_comesTo_16 : decode cX7_comesTo 16 = .ok (.goto 4, 3) := by decide +kernel
theorem dX7_comesTo_19 : decode cX7_comesTo 19 = .ok (.iload_n 1, 1) := by decide +kernel
theorem dX7_comesTo_20 : decode cX7_comesTo 20 = .ok (.istore_n 3, 1) := by decide +kernel
theorem dX7_comesTo_21 : decode cX7_comesTo 21 = .ok (.iload_n 1, 1) := by decide +kernel
theorem dX7_comesTo_22 : decode cX7_comesTo 22 = .ok (.iconst 2, 1) := by decide +kernel
theorem dX7_comesTo_23 : decode cX7_comesTo 23 = .ok (.if_icmp .ge 7, 3) := by decide +kernel
theorem dX7_comesTo_26 : decode cX7_comesTo 26 = .ok (.iconst 2, 1) := by decide +kernel
theorem dX7_comesTo_27 : decode cX7_comesTo 27 = .ok (.goto 4, 3) := by decide +kernel
theorem dX7_comesTo_30 : decode cX7_comesTo 30 = .ok (.iload_n 1, 1) := by decide +kernel
theorem dX7_comesTo_31 : decode cX7_comesTo 31 = .ok (.istore 4, 2) := by decide +kernel
theorem dX7_comesTo_33 : decode cX7_comesTo 33 = .ok (.iload_n 0, 1) := by decide +kernel
theorem dX7_comesTo_34 : decode cX7_comesTo 34 = .ok (.tableswitch 60 0 4 #[34, 36, 39, 41, 45], 34) := by decide +kernel
theorem dX7_comesTo_68 : decode cX7_comesTo 68 = .ok (.iload_n 1, 1) := by decide +kernel
theorem dX7_comesTo_69 : decode cX7_comesTo 69 = .ok (.ireturn, 1) := by decide +kernel
theorem dX7_comesTo_70 : decode cX7_comesTo 70 = .ok (.iload 4, 2) := by decide +kernel
theorem dX7_comesTo_72 : decode cX7_comesTo 72 = .ok (.ireturn, 1) := by decide +kernel
theorem dX7_comesTo_73 : decode cX7_comesTo 73 = .ok (.iload_n 3, 1) := by decide +kernel
theorem dX7_comesTo_74 : decode cX7_comesTo 74 = .ok (.ireturn, 1) := by decide +kernel
theorem dX7_comesTo_75 : decode cX7_comesTo 75 = .ok (.iload_n 3, 1) := by decide +kernel
theorem dX7_comesTo_76 : decode cX7_comesTo 76 = .ok (.iconst 2, 1) := by decide +kernel
theorem dX7_comesTo_77 : decode cX7_comesTo 77 = .ok (.idiv, 1) := by decide +kernel
theorem dX7_comesTo_78 : decode cX7_comesTo 78 = .ok (.ireturn, 1) := by decide +kernel
theorem dX7_comesTo_79 : decode cX7_comesTo 79 = .ok (.iload_n 2, 1) := by decide +kernel
theorem dX7_comesTo_80 : decode cX7_comesTo 80 = .ok (.iconst 2, 1) := by decide +kernel
theorem dX7_comesTo_81 : decode cX7_comesTo 81 = .ok (.irem, 1) := by decide +kernel
theorem dX7_comesTo_82 : decode cX7_comesTo 82 = .ok (.iconst 1, 1) := by decide +kernel
theorem dX7_comesTo_83 : decode cX7_comesTo 83 = .ok (.if_icmp .ne 9, 3) := by decide +kernel
theorem dX7_comesTo_86 : decode cX7_comesTo 86 = .ok (.iload_n 1, 1) := by decide +kernel
theorem dX7_comesTo_87 : decode cX7_comesTo 87 = .ok (.iconst 1, 1) := by decide +kernel
theorem dX7_comesTo_88 : decode cX7_comesTo 88 = .ok (.isub, 1) := by decide +kernel
theorem dX7_comesTo_89 : decode cX7_comesTo 89 = .ok (.goto 4, 3) := by decide +kernel
theorem dX7_comesTo_92 : decode cX7_comesTo 92 = .ok (.iload_n 1, 1) := by decide +kernel
theorem dX7_comesTo_93 : decode cX7_comesTo 93 = .ok (.ireturn, 1) := by decide +kernel
theorem dX7_comesTo_94 : decode cX7_comesTo 94 = .ok (.iload 4, 2) := by decide +kernel
theorem dX7_comesTo_96 : decode cX7_comesTo 96 = .ok (.iconst 3, 1) := by decide +kernel
theorem dX7_comesTo_97 : decode cX7_comesTo 97 = .ok (.iadd, 1) := by decide +kernel
theorem dX7_comesTo_98 : decode cX7_comesTo 98 = .ok (.ireturn, 1) := by decide +kernel
theorem dX7_limbOf_0 : decode cX7_limbOf 0 = .ok (.aload_n 0, 1) := by decide +kernel
theorem dX7_limbOf_1 : decode cX7_limbOf 1 = .ok (.getfield 7, 3) := by decide +kernel
theorem dX7_limbOf_4 : decode cX7_limbOf 4 = .ok (.iconst 4, 1) := by decide +kernel
theorem dX7_limbOf_5 : decode cX7_limbOf 5 = .ok (.bipush 7, 2) := by decide +kernel
theorem dX7_limbOf_7 : decode cX7_limbOf 7 = .ok (.iload_n 1, 1) := by decide +kernel
theorem dX7_limbOf_8 : decode cX7_limbOf 8 = .ok (.imul, 1) := by decide +kernel
theorem dX7_limbOf_9 : decode cX7_limbOf 9 = .ok (.iadd, 1) := by decide +kernel
theorem dX7_limbOf_10 : decode cX7_limbOf 10 = .ok (.iload_n 2, 1) := by decide +kernel
theorem dX7_limbOf_11 : decode cX7_limbOf 11 = .ok (.iadd, 1) := by decide +kernel
theorem dX7_limbOf_12 : decode cX7_limbOf 12 = .ok (.iaload, 1) := by decide +kernel
theorem dX7_limbOf_13 : decode cX7_limbOf 13 = .ok (.ireturn, 1) := by decide +kernel
theorem dX7_sets_0 : decode cX7_sets 0 = .ok (.aload_n 0, 1) := by decide +kernel
theorem dX7_sets_1 : decode cX7_sets 1 = .ok (.getfield 7, 3) := by decide +kernel
theorem dX7_sets_4 : decode cX7_sets 4 = .ok (.iconst 4, 1) := by decide +kernel
theorem dX7_sets_5 : decode cX7_sets 5 = .ok (.bipush 7, 2) := by decide +kernel
theorem dX7_sets_7 : decode cX7_sets 7 = .ok (.iload_n 1, 1) := by decide +kernel
theorem dX7_sets_8 : decode cX7_sets 8 = .ok (.imul, 1) := by decide +kernel
theorem dX7_sets_9 : decode cX7_sets 9 = .ok (.iadd, 1) := by decide +kernel
theorem dX7_sets_10 : decode cX7_sets 10 = .ok (.iload_n 2, 1) := by decide +kernel
theorem dX7_sets_11 : decode cX7_sets 11 = .ok (.iadd, 1) := by decide +kernel
theorem dX7_sets_12 : decode cX7_sets 12 = .ok (.iload_n 3, 1) := by decide +kernel
theorem dX7_sets_13 : decode cX7_sets 13 = .ok (.iastore, 1) := by decide +kernel
theorem dX7_sets_14 : decode cX7_sets 14 = .ok (.return_, 1) := by decide +kernel
theorem dX7_isLimb_0 : decode cX7_isLimb 0 = .ok (.iload_n 1, 1) := by decide +kernel
theorem dX7_isLimb_1 : decode cX7_isLimb 1 = .ok (.i2l, 1) := by decide +kernel
theorem dX7_isLimb_2 : decode cX7_isLimb 2 = .ok (.lconst 0, 1) := by decide +kernel
theorem dX7_isLimb_3 : decode cX7_isLimb 3 = .ok (.aload_n 0, 1) := by decide +kernel
theorem dX7_isLimb_4 : decode cX7_isLimb 4 = .ok (.getfield 7, 3) := by decide +kernel
theorem dX7_isLimb_7 : decode cX7_isLimb 7 = .ok (.iconst 0, 1) := by decide +kernel
theorem dX7_isLimb_8 : decode cX7_isLimb 8 = .ok (.iaload, 1) := by decide +kernel
theorem dX7_isLimb_9 : decode cX7_isLimb 9 = .ok (.iconst 1, 1) := by decide +kernel
theorem dX7_isLimb_10 : decode cX7_isLimb 10 = .ok (.isub, 1) := by decide +kernel
theorem dX7_isLimb_11 : decode cX7_isLimb 11 = .ok (.i2l, 1) := by decide +kernel
theorem dX7_isLimb_12 : decode cX7_isLimb 12 = .ok (.invokestatic 52, 3) := by decide +kernel
theorem dX7_isLimb_15 : decode cX7_isLimb 15 = .ok (.ireturn, 1) := by decide +kernel
theorem dX7_isSnapped_0 : decode cX7_isSnapped 0 = .ok (.aload_n 0, 1) := by decide +kernel
theorem dX7_isSnapped_1 : decode cX7_isSnapped 1 = .ok (.iload_n 1, 1) := by decide +kernel
theorem dX7_isSnapped_2 : decode cX7_isSnapped 2 = .ok (.bipush 6, 2) := by decide +kernel
theorem dX7_isSnapped_4 : decode cX7_isSnapped 4 = .ok (.invokevirtual 56, 3) := by decide +kernel
theorem dX7_isSnapped_7 : decode cX7_isSnapped 7 = .ok (.iconst 1, 1) := by decide +kernel
theorem dX7_isSnapped_8 : decode cX7_isSnapped 8 = .ok (.if_icmp .ne 7, 3) := by decide +kernel
theorem dX7_isSnapped_11 : decode cX7_isSnapped 11 = .ok (.iconst 1, 1) := by decide +kernel
theorem dX7_isSnapped_12 : decode cX7_isSnapped 12 = .ok (.goto 4, 3) := by decide +kernel
theorem dX7_isSnapped_15 : decode cX7_isSnapped 15 = .ok (.iconst 0, 1) := by decide +kernel
theorem dX7_isSnapped_16 : decode cX7_isSnapped 16 = .ok (.ireturn, 1) := by decide +kernel
theorem dX7_highIn_0 : decode cX7_highIn 0 = .ok (.aload_n 0, 1) := by decide +kernel
theorem dX7_highIn_1 : decode cX7_highIn 1 = .ok (.iload_n 1, 1) := by decide +kernel
theorem dX7_highIn_2 : decode cX7_highIn 2 = .ok (.invokevirtual 60, 3) := by decide +kernel
theorem dX7_highIn_5 : decode cX7_highIn 5 = .ok (.ifCond .eq 6, 3) := by decide +kernel
theorem dX7_highIn_8 : decode cX7_highIn 8 = .ok (.bipush (-20), 2) := by decide +kernel
theorem dX7_highIn_10 : decode cX7_highIn 10 = .ok (.ireturn, 1) := by decide +kernel
theorem dX7_highIn_11 : decode cX7_highIn 11 = .ok (.aload_n 0, 1) := by decide +kernel
theorem dX7_highIn_12 : decode cX7_highIn 12 = .ok (.getfield 7, 3) := by decide +kernel
theorem dX7_highIn_15 : decode cX7_highIn 15 = .ok (.iconst 1, 1) := by decide +kernel
theorem dX7_highIn_16 : decode cX7_highIn 16 = .ok (.iaload, 1) := by decide +kernel
theorem dX7_highIn_17 : decode cX7_highIn 17 = .ok (.aload_n 0, 1) := by decide +kernel
theorem dX7_highIn_18 : decode cX7_highIn 18 = .ok (.getfield 7, 3) := by decide +kernel
theorem dX7_highIn_21 : decode cX7_highIn 21 = .ok (.iconst 2, 1) := by decide +kernel
theorem dX7_highIn_22 : decode cX7_highIn 22 = .ok (.iaload, 1) := by decide +kernel
theorem dX7_highIn_23 : decode cX7_highIn 23 = .ok (.iload_n 2, 1) := by decide +kernel
theorem dX7_highIn_24 : decode cX7_highIn 24 = .ok (.iconst 4, 1) := by decide +kernel
theorem dX7_highIn_25 : decode cX7_highIn 25 = .ok (.isub, 1) := by decide +kernel
theorem dX7_highIn_26 : decode cX7_highIn 26 = .ok (.imul, 1) := by decide +kernel
theorem dX7_highIn_27 : decode cX7_highIn 27 = .ok (.iadd, 1) := by decide +kernel
theorem dX7_highIn_28 : decode cX7_highIn 28 = .ok (.istore_n 3, 1) := by decide +kernel
theorem dX7_highIn_29 : decode cX7_highIn 29 = .ok (.aload_n 0, 1) := by decide +kernel
theorem dX7_highIn_30 : decode cX7_highIn 30 = .ok (.iload_n 1, 1) := by decide +kernel
theorem dX7_highIn_31 : decode cX7_highIn 31 = .ok (.iconst 0, 1) := by decide +kernel
theorem dX7_highIn_32 : decode cX7_highIn 32 = .ok (.invokevirtual 56, 3) := by decide +kernel
theorem dX7_highIn_35 : decode cX7_highIn 35 = .ok (.iload_n 3, 1) := by decide +kernel
theorem dX7_highIn_36 : decode cX7_highIn 36 = .ok (.aload_n 0, 1) := by decide +kernel
theorem dX7_highIn_37 : decode cX7_highIn 37 = .ok (.iload_n 1, 1) := by decide +kernel
theorem dX7_highIn_38 : decode cX7_highIn 38 = .ok (.iconst 1, 1) := by decide +kernel
theorem dX7_highIn_39 : decode cX7_highIn 39 = .ok (.invokevirtual 56, 3) := by decide +kernel
theorem dX7_highIn_42 : decode cX7_highIn 42 = .ok (.aload_n 0, 1) := by decide +kernel
theorem dX7_highIn_43 : decode cX7_highIn 43 = .ok (.iload_n 1, 1) := by decide +kernel
theorem dX7_highIn_44 : decode cX7_highIn 44 = .ok (.iconst 3, 1) := by decide +kernel
theorem dX7_highIn_45 : decode cX7_highIn 45 = .ok (.invokevirtual 56, 3) := by decide +kernel
theorem dX7_highIn_48 : decode cX7_highIn 48 = .ok (.aload_n 0, 1) := by decide +kernel
theorem dX7_highIn_49 : decode cX7_highIn 49 = .ok (.iload_n 1, 1) := by decide +kernel
theorem dX7_highIn_50 : decode cX7_highIn 50 = .ok (.iconst 2, 1) := by decide +kernel
theorem dX7_highIn_51 : decode cX7_highIn 51 = .ok (.invokevirtual 56, 3) := by decide +kernel
theorem dX7_highIn_54 : decode cX7_highIn 54 = .ok (.aload_n 0, 1) := by decide +kernel
theorem dX7_highIn_55 : decode cX7_highIn 55 = .ok (.iload_n 1, 1) := by decide +kernel
theorem dX7_highIn_56 : decode cX7_highIn 56 = .ok (.iconst 5, 1) := by decide +kernel
theorem dX7_highIn_57 : decode cX7_highIn 57 = .ok (.invokevirtual 56, 3) := by decide +kernel
theorem dX7_highIn_60 : decode cX7_highIn 60 = .ok (.invokestatic 64, 3) := by decide +kernel
theorem dX7_highIn_63 : decode cX7_highIn 63 = .ok (.isub, 1) := by decide +kernel
theorem dX7_highIn_64 : decode cX7_highIn 64 = .ok (.aload_n 0, 1) := by decide +kernel
theorem dX7_highIn_65 : decode cX7_highIn 65 = .ok (.getfield 7, 3) := by decide +kernel
theorem dX7_highIn_68 : decode cX7_highIn 68 = .ok (.iconst 3, 1) := by decide +kernel
theorem dX7_highIn_69 : decode cX7_highIn 69 = .ok (.iaload, 1) := by decide +kernel
theorem dX7_highIn_70 : decode cX7_highIn 70 = .ok (.invokestatic 68, 3) := by decide +kernel
theorem dX7_highIn_73 : decode cX7_highIn 73 = .ok (.ireturn, 1) := by decide +kernel
theorem dX7_high_0 : decode cX7_high 0 = .ok (.aload_n 0, 1) := by decide +kernel
theorem dX7_high_1 : decode cX7_high 1 = .ok (.iload_n 1, 1) := by decide +kernel
theorem dX7_high_2 : decode cX7_high 2 = .ok (.aload_n 0, 1) := by decide +kernel
theorem dX7_high_3 : decode cX7_high 3 = .ok (.iload_n 1, 1) := by decide +kernel
theorem dX7_high_4 : decode cX7_high 4 = .ok (.iconst 4, 1) := by decide +kernel
theorem dX7_high_5 : decode cX7_high 5 = .ok (.invokevirtual 56, 3) := by decide +kernel
theorem dX7_high_8 : decode cX7_high 8 = .ok (.invokevirtual 72, 3) := by decide +kernel
theorem dX7_high_11 : decode cX7_high 11 = .ok (.ireturn, 1) := by decide +kernel
theorem dX7_wears_0 : decode cX7_wears 0 = .ok (.aload_n 0, 1) := by decide +kernel
theorem dX7_wears_1 : decode cX7_wears 1 = .ok (.getfield 7, 3) := by decide +kernel
theorem dX7_wears_4 : decode cX7_wears 4 = .ok (.iconst 2, 1) := by decide +kernel
theorem dX7_wears_5 : decode cX7_wears 5 = .ok (.iaload, 1) := by decide +kernel
theorem dX7_wears_6 : decode cX7_wears 6 = .ok (.iconst 4, 1) := by decide +kernel
theorem dX7_wears_7 : decode cX7_wears 7 = .ok (.if_icmp .eq 14, 3) := by decide +kernel
theorem dX7_wears_10 : decode cX7_wears 10 = .ok (.aload_n 0, 1) := by decide +kernel
theorem dX7_wears_11 : decode cX7_wears 11 = .ok (.getfield 7, 3) := by decide +kernel
theorem dX7_wears_14 : decode cX7_wears 14 = .ok (.iconst 2, 1) := by decide +kernel
theorem dX7_wears_15 : decode cX7_wears 15 = .ok (.iaload, 1) := by decide +kernel
theorem dX7_wears_16 : decode cX7_wears 16 = .ok (.bipush (-4), 2) := by decide +kernel
theorem dX7_wears_18 : decode cX7_wears 18 = .ok (.if_icmp .ne 7, 3) := by decide +kernel
theorem dX7_wears_21 : decode cX7_wears 21 = .ok (.iconst 2, 1) := by decide +kernel
theorem dX7_wears_22 : decode cX7_wears 22 = .ok (.goto 4, 3) := by decide +kernel
theorem dX7_wears_25 : decode cX7_wears 25 = .ok (.iconst 1, 1) := by decide +kernel
theorem dX7_wears_26 : decode cX7_wears 26 = .ok (.istore_n 1, 1) := by decide +kernel
theorem dX7_wears_27 : decode cX7_wears 27 = .ok (.iconst 0, 1) := by decide +kernel
theorem dX7_wears_28 : decode cX7_wears 28 = .ok (.istore_n 2, 1) := by decide +kernel
theorem dX7_wears_29 : decode cX7_wears 29 = .ok (.iload_n 2, 1) := by decide +kernel
theorem dX7_wears_30 : decode cX7_wears 30 = .ok (.aload_n 0, 1) := by decide +kernel
theorem dX7_wears_31 : decode cX7_wears 31 = .ok (.getfield 7, 3) := by decide +kernel
theorem dX7_wears_34 : decode cX7_wears 34 = .ok (.iconst 0, 1) := by decide +kernel
theorem dX7_wears_35 : decode cX7_wears 35 = .ok (.iaload, 1) := by decide +kernel
theorem dX7_wears_36 : decode cX7_wears 36 = .ok (.if_icmp .ge 69, 3) := by decide +kernel
theorem dX7_wears_39 : decode cX7_wears 39 = .ok (.aload_n 0, 1) := by decide +kernel
theorem dX7_wears_40 : decode cX7_wears 40 = .ok (.iload_n 2, 1) := by decide +kernel
theorem dX7_wears_41 : decode cX7_wears 41 = .ok (.invokevirtual 60, 3) := by decide +kernel
theorem dX7_wears_44 : decode cX7_wears 44 = .ok (.ifCond .ne 55, 3) := by decide +kernel
theorem dX7_wears_47 : decode cX7_wears 47 = .ok (.aload_n 0, 1) := by decide +kernel
theorem dX7_wears_48 : decode cX7_wears 48 = .ok (.iload_n 2, 1) := by decide +kernel
theorem dX7_wears_49 : decode cX7_wears 49 = .ok (.iconst 5, 1) := by decide +kernel
theorem dX7_wears_50 : decode cX7_wears 50 = .ok (.invokevirtual 56, 3) := by decide +kernel
theorem dX7_wears_53 : decode cX7_wears 53 = .ok (.iload_n 1, 1) := by decide +kernel
theorem dX7_wears_54 : decode cX7_wears 54 = .ok (.aload_n 0, 1) := by decide +kernel
theorem dX7_wears_55 : decode cX7_wears 55 = .ok (.iload_n 2, 1) := by decide +kernel
theorem dX7_wears_56 : decode cX7_wears 56 = .ok (.iconst 2, 1) := by decide +kernel
theorem dX7_wears_57 : decode cX7_wears 57 = .ok (.invokevirtual 56, 3) := by decide +kernel
theorem dX7_wears_60 : decode cX7_wears 60 = .ok (.imul, 1) := by decide +kernel
theorem dX7_wears_61 : decode cX7_wears 61 = .ok (.iadd, 1) := by decide +kernel
theorem dX7_wears_62 : decode cX7_wears 62 = .ok (.istore_n 3, 1) := by decide +kernel
theorem dX7_wears_63 : decode cX7_wears 63 = .ok (.aload_n 0, 1) := by decide +kernel
theorem dX7_wears_64 : decode cX7_wears 64 = .ok (.iload_n 2, 1) := by decide +kernel
theorem dX7_wears_65 : decode cX7_wears 65 = .ok (.iconst 5, 1) := by decide +kernel
theorem dX7_wears_66 : decode cX7_wears 66 = .ok (.iload_n 3, 1) := by decide +kernel
theorem dX7_wears_67 : decode cX7_wears 67 = .ok (.bipush 99, 2) := by decide +kernel
theorem dX7_wears_69 : decode cX7_wears 69 = .ok (.if_icmp .le 8, 3) := by decide +kernel
theorem dX7_wears_72 : decode cX7_wears 72 = .ok (.bipush 99, 2) := by decide +kernel
theorem dX7_wears_74 : decode cX7_wears 74 = .ok (.goto 4, 3) := by decide +kernel
theorem dX7_wears_77 : decode cX7_wears 77 = .ok (.iload_n 3, 1) := by decide +kernel
theorem dX7_wears_78 : decode cX7_wears 78 = .ok (.invokevirtual 75, 3) := by decide +kernel
theorem dX7_wears_81 : decode cX7_wears 81 = .ok (.aload_n 0, 1) := by decide +kernel
theorem dX7_wears_82 : decode cX7_wears 82 = .ok (.iload_n 2, 1) := by decide +kernel
theorem dX7_wears_83 : decode cX7_wears 83 = .ok (.bipush 6, 2) := by decide +kernel
theorem dX7_wears_85 : decode cX7_wears 85 = .ok (.iload_n 3, 1) := by decide +kernel
theorem dX7_wears_86 : decode cX7_wears 86 = .ok (.bipush 99, 2) := by decide +kernel
theorem dX7_wears_88 : decode cX7_wears 88 = .ok (.if_icmp .lt 7, 3) := by decide +kernel
theorem dX7_wears_91 : decode cX7_wears 91 = .ok (.iconst 1, 1) := by decide +kernel
theorem dX7_wears_92 : decode cX7_wears 92 = .ok (.goto 4, 3) := by decide +kernel
theorem dX7_wears_95 : decode cX7_wears 95 = .ok (.iconst 0, 1) := by decide +kernel
theorem dX7_wears_96 : decode cX7_wears 96 = .ok (.invokevirtual 75, 3) := by decide +kernel
theorem dX7_wears_99 : decode cX7_wears 99 = .ok (.iinc 2 1, 3) := by decide +kernel
theorem dX7_wears_102 : decode cX7_wears 102 = .ok (.goto (-73), 3) := by decide +kernel
theorem dX7_wears_105 : decode cX7_wears 105 = .ok (.return_, 1) := by decide +kernel
theorem dX7_goes_0 : decode cX7_goes 0 = .ok (.aload_n 0, 1) := by decide +kernel
theorem dX7_goes_1 : decode cX7_goes 1 = .ok (.getfield 7, 3) := by decide +kernel
theorem dX7_goes_4 : decode cX7_goes 4 = .ok (.iconst 1, 1) := by decide +kernel
theorem dX7_goes_5 : decode cX7_goes 5 = .ok (.iaload, 1) := by decide +kernel
theorem dX7_goes_6 : decode cX7_goes 6 = .ok (.iload_n 1, 1) := by decide +kernel
theorem dX7_goes_7 : decode cX7_goes 7 = .ok (.ifCond .ne 7, 3) := by decide +kernel
theorem dX7_goes_10 : decode cX7_goes 10 = .ok (.iconst 3, 1) := by decide +kernel
theorem dX7_goes_11 : decode cX7_goes 11 = .ok (.goto 14, 3) := by decide +kernel
theorem dX7_goes_14 : decode cX7_goes 14 = .ok (.iload_n 1, 1) := by decide +kernel
theorem dX7_goes_15 : decode cX7_goes 15 = .ok (.iconst 1, 1) := by decide +kernel
theorem dX7_goes_16 : decode cX7_goes 16 = .ok (.if_icmp .ne 8, 3) := by decide +kernel
theorem dX7_goes_19 : decode cX7_goes 19 = .ok (.bipush (-3), 2) := by decide +kernel
theorem dX7_goes_21 : decode cX7_goes 21 = .ok (.goto 4, 3) := by decide +kernel
theorem dX7_goes_24 : decode cX7_goes 24 = .ok (.iconst 0, 1) := by decide +kernel
theorem dX7_goes_25 : decode cX7_goes 25 = .ok (.iadd, 1) := by decide +kernel
theorem dX7_goes_26 : decode cX7_goes 26 = .ok (.istore_n 2, 1) := by decide +kernel
theorem dX7_goes_27 : decode cX7_goes 27 = .ok (.aload_n 0, 1) := by decide +kernel
theorem dX7_goes_28 : decode cX7_goes 28 = .ok (.getfield 7, 3) := by decide +kernel
theorem dX7_goes_31 : decode cX7_goes 31 = .ok (.iconst 2, 1) := by decide +kernel
theorem dX7_goes_32 : decode cX7_goes 32 = .ok (.iaload, 1) := by decide +kernel
theorem dX7_goes_33 : decode cX7_goes 33 = .ok (.iload_n 1, 1) := by decide +kernel
theorem dX7_goes_34 : decode cX7_goes 34 = .ok (.iconst 2, 1) := by decide +kernel
theorem dX7_goes_35 : decode cX7_goes 35 = .ok (.if_icmp .ne 7, 3) := by decide +kernel
theorem dX7_goes_38 : decode cX7_goes 38 = .ok (.iconst (-1), 1) := by decide +kernel
theorem dX7_goes_39 : decode cX7_goes 39 = .ok (.goto 13, 3) := by decide +kernel
theorem dX7_goes_42 : decode cX7_goes 42 = .ok (.iload_n 1, 1) := by decide +kernel
theorem dX7_goes_43 : decode cX7_goes 43 = .ok (.iconst 3, 1) := by decide +kernel
theorem dX7_goes_44 : decode cX7_goes 44 = .ok (.if_icmp .ne 7, 3) := by decide +kernel
theorem dX7_goes_47 : decode cX7_goes 47 = .ok (.iconst 1, 1) := by decide +kernel
theorem dX7_goes_48 : decode cX7_goes 48 = .ok (.goto 4, 3) := by decide +kernel
theorem dX7_goes_51 : decode cX7_goes 51 = .ok (.iconst 0, 1) := by decide +kernel
theorem dX7_goes_52 : decode cX7_goes 52 = .ok (.iadd, 1) := by decide +kernel
theorem dX7_goes_53 : decode cX7_goes 53 = .ok (.istore_n 3, 1) := by decide +kernel
theorem dX7_goes_54 : decode cX7_goes 54 = .ok (.aload_n 0, 1) := by decide +kernel
theorem dX7_goes_55 : decode cX7_goes 55 = .ok (.getfield 7, 3) := by decide +kernel
theorem dX7_goes_58 : decode cX7_goes 58 = .ok (.iconst 1, 1) := by decide +kernel
theorem dX7_goes_59 : decode cX7_goes 59 = .ok (.iload_n 2, 1) := by decide +kernel
theorem dX7_goes_60 : decode cX7_goes 60 = .ok (.ifCond .ge 7, 3) := by decide +kernel
theorem dX7_goes_63 : decode cX7_goes 63 = .ok (.iconst 0, 1) := by decide +kernel
theorem dX7_goes_64 : decode cX7_goes 64 = .ok (.goto 15, 3) := by decide +kernel
theorem dX7_goes_67 : decode cX7_goes 67 = .ok (.iload_n 2, 1) := by decide +kernel
theorem dX7_goes_68 : decode cX7_goes 68 = .ok (.bipush 40, 2) := by decide +kernel
theorem dX7_goes_70 : decode cX7_goes 70 = .ok (.if_icmp .le 8, 3) := by decide +kernel
theorem dX7_goes_73 : decode cX7_goes 73 = .ok (.bipush 40, 2) := by decide +kernel
theorem dX7_goes_75 : decode cX7_goes 75 = .ok (.goto 4, 3) := by decide +kernel
theorem dX7_goes_78 : decode cX7_goes 78 = .ok (.iload_n 2, 1) := by decide +kernel
theorem dX7_goes_79 : decode cX7_goes 79 = .ok (.iastore, 1) := by decide +kernel
theorem dX7_goes_80 : decode cX7_goes 80 = .ok (.aload_n 0, 1) := by decide +kernel
theorem dX7_goes_81 : decode cX7_goes 81 = .ok (.getfield 7, 3) := by decide +kernel
theorem dX7_goes_84 : decode cX7_goes 84 = .ok (.iconst 2, 1) := by decide +kernel
theorem dX7_goes_85 : decode cX7_goes 85 = .ok (.iload_n 3, 1) := by decide +kernel
theorem dX7_goes_86 : decode cX7_goes 86 = .ok (.bipush (-4), 2) := by decide +kernel
theorem dX7_goes_88 : decode cX7_goes 88 = .ok (.if_icmp .ge 8, 3) := by decide +kernel
theorem dX7_goes_91 : decode cX7_goes 91 = .ok (.bipush (-4), 2) := by decide +kernel
theorem dX7_goes_93 : decode cX7_goes 93 = .ok (.goto 13, 3) := by decide +kernel
theorem dX7_goes_96 : decode cX7_goes 96 = .ok (.iload_n 3, 1) := by decide +kernel
theorem dX7_goes_97 : decode cX7_goes 97 = .ok (.iconst 4, 1) := by decide +kernel
theorem dX7_goes_98 : decode cX7_goes 98 = .ok (.if_icmp .le 7, 3) := by decide +kernel
theorem dX7_goes_101 : decode cX7_goes 101 = .ok (.iconst 4, 1) := by decide +kernel
theorem dX7_goes_102 : decode cX7_goes 102 = .ok (.goto 4, 3) := by decide +kernel
theorem dX7_goes_105 : decode cX7_goes 105 = .ok (.iload_n 3, 1) := by decide +kernel
theorem dX7_goes_106 : decode cX7_goes 106 = .ok (.iastore, 1) := by decide +kernel
theorem dX7_goes_107 : decode cX7_goes 107 = .ok (.aload_n 0, 1) := by decide +kernel
theorem dX7_goes_108 : decode cX7_goes 108 = .ok (.getfield 7, 3) := by decide +kernel
theorem dX7_goes_111 : decode cX7_goes 111 = .ok (.iconst 3, 1) := by decide +kernel
theorem dX7_goes_112 : decode cX7_goes 112 = .ok (.dup2, 1) := by decide +kernel
theorem dX7_goes_113 : decode cX7_goes 113 = .ok (.iaload, 1) := by decide +kernel
theorem dX7_goes_114 : decode cX7_goes 114 = .ok (.iconst 1, 1) := by decide +kernel
theorem dX7_goes_115 : decode cX7_goes 115 = .ok (.iadd, 1) := by decide +kernel
theorem dX7_goes_116 : decode cX7_goes 116 = .ok (.iastore, 1) := by decide +kernel
theorem dX7_goes_117 : decode cX7_goes 117 = .ok (.aload_n 0, 1) := by decide +kernel
theorem dX7_goes_118 : decode cX7_goes 118 = .ok (.invokevirtual 79, 3) := by decide +kernel
theorem dX7_goes_121 : decode cX7_goes 121 = .ok (.return_, 1) := by decide +kernel
theorem dX7_snapped_0 : decode cX7_snapped 0 = .ok (.iconst 0, 1) := by decide +kernel
theorem dX7_snapped_1 : decode cX7_snapped 1 = .ok (.istore_n 1, 1) := by decide +kernel
theorem dX7_snapped_2 : decode cX7_snapped 2 = .ok (.iconst 0, 1) := by decide +kernel
theorem dX7_snapped_3 : decode cX7_snapped 3 = .ok (.istore_n 2, 1) := by decide +kernel
theorem dX7_snapped_4 : decode cX7_snapped 4 = .ok (.iload_n 2, 1) := by decide +kernel
theorem dX7_snapped_5 : decode cX7_snapped 5 = .ok (.aload_n 0, 1) := by decide +kernel
theorem dX7_snapped_6 : decode cX7_snapped 6 = .ok (.getfield 7, 3) := by decide +kernel
theorem dX7_snapped_9 : decode cX7_snapped 9 = .ok (.iconst 0, 1) := by decide +kernel
theorem dX7_snapped_10 : decode cX7_snapped 10 = .ok (.iaload, 1) := by decide +kernel
theorem dX7_snapped_11 : decode cX7_snapped 11 = .ok (.if_icmp .ge 19, 3) := by decide +kernel
theorem dX7_snapped_14 : decode cX7_snapped 14 = .ok (.iload_n 1, 1) := by decide +kernel
theorem dX7_snapped_15 : decode cX7_snapped 15 = .ok (.aload_n 0, 1) := by decide +kernel
theorem dX7_snapped_16 : decode cX7_snapped 16 = .ok (.iload_n 2, 1) := by decide +kernel
theorem dX7_snapped_17 : decode cX7_snapped 17 = .ok (.bipush 6, 2) := by decide +kernel
theorem dX7_snapped_19 : decode cX7_snapped 19 = .ok (.invokevirtual 56, 3) := by decide +kernel
theorem dX7_snapped_22 : decode cX7_snapped 22 = .ok (.iadd, 1) := by decide +kernel
theorem dX7_snapped_23 : decode cX7_snapped 23 = .ok (.istore_n 1, 1) := by decide +kernel
theorem dX7_snapped_24 : decode cX7_snapped 24 = .ok (.iinc 2 1, 3) := by decide +kernel
theorem dX7_snapped_27 : decode cX7_snapped 27 = .ok (.goto (-23), 3) := by decide +kernel
theorem dX7_snapped_30 : decode cX7_snapped 30 = .ok (.iload_n 1, 1) := by decide +kernel
theorem dX7_snapped_31 : decode cX7_snapped 31 = .ok (.ireturn, 1) := by decide +kernel
theorem dX7_puppet_0 : decode cX7_puppet 0 = .ok (.iload_n 1, 1) := by decide +kernel
theorem dX7_puppet_1 : decode cX7_puppet 1 = .ok (.i2l, 1) := by decide +kernel
theorem dX7_puppet_2 : decode cX7_puppet 2 = .ok (.lconst 0, 1) := by decide +kernel
theorem dX7_puppet_3 : decode cX7_puppet 3 = .ok (.ldc2_w 82, 3) := by decide +kernel
theorem dX7_puppet_6 : decode cX7_puppet 6 = .ok (.invokestatic 52, 3) := by decide +kernel
theorem dX7_puppet_9 : decode cX7_puppet 9 = .ok (.ifCond .ne 8, 3) := by decide +kernel
theorem dX7_puppet_12 : decode cX7_puppet 12 = .ok (.aload_n 0, 1) := by decide +kernel
theorem dX7_puppet_13 : decode cX7_puppet 13 = .ok (.invokevirtual 84, 3) := by decide +kernel
theorem dX7_puppet_16 : decode cX7_puppet 16 = .ok (.ireturn, 1) := by decide +kernel
theorem dX7_puppet_17 : decode cX7_puppet 17 = .ok (.aload_n 0, 1) := by decide +kernel
theorem dX7_puppet_18 : decode cX7_puppet 18 = .ok (.getfield 7, 3) := by decide +kernel
theorem dX7_puppet_21 : decode cX7_puppet 21 = .ok (.iconst 0, 1) := by decide +kernel
theorem dX7_puppet_22 : decode cX7_puppet 22 = .ok (.iaload, 1) := by decide +kernel
theorem dX7_puppet_23 : decode cX7_puppet 23 = .ok (.istore_n 2, 1) := by decide +kernel
theorem dX7_puppet_24 : decode cX7_puppet 24 = .ok (.aload_n 0, 1) := by decide +kernel
theorem dX7_puppet_25 : decode cX7_puppet 25 = .ok (.iload_n 1, 1) := by decide +kernel
theorem dX7_puppet_26 : decode cX7_puppet 26 = .ok (.invokevirtual 38, 3) := by decide +kernel
theorem dX7_puppet_29 : decode cX7_puppet 29 = .ok (.iload_n 2, 1) := by decide +kernel
theorem dX7_puppet_30 : decode cX7_puppet 30 = .ok (.ireturn, 1) := by decide +kernel
theorem dX7_isLimbBy_0 : decode cX7_isLimbBy 0 = .ok (.iload_n 0, 1) := by decide +kernel
theorem dX7_isLimbBy_1 : decode cX7_isLimbBy 1 = .ok (.i2l, 1) := by decide +kernel
theorem dX7_isLimbBy_2 : decode cX7_isLimbBy 2 = .ok (.lconst 0, 1) := by decide +kernel
theorem dX7_isLimbBy_3 : decode cX7_isLimbBy 3 = .ok (.ldc2_w 88, 3) := by decide +kernel
theorem dX7_isLimbBy_6 : decode cX7_isLimbBy 6 = .ok (.invokestatic 52, 3) := by decide +kernel
theorem dX7_isLimbBy_9 : decode cX7_isLimbBy 9 = .ok (.ifCond .eq 56, 3) := by decide +kernel
theorem dX7_isLimbBy_12 : decode cX7_isLimbBy 12 = .ok (.iload_n 1, 1) := by decide +kernel
theorem dX7_isLimbBy_13 : decode cX7_isLimbBy 13 = .ok (.i2l, 1) := by decide +kernel
theorem dX7_isLimbBy_14 : decode cX7_isLimbBy 14 = .ok (.lconst 0, 1) := by decide +kernel
theorem dX7_isLimbBy_15 : decode cX7_isLimbBy 15 = .ok (.ldc2_w 88, 3) := by decide +kernel
theorem dX7_isLimbBy_18 : decode cX7_isLimbBy 18 = .ok (.invokestatic 52, 3) := by decide +kernel
theorem dX7_isLimbBy_21 : decode cX7_isLimbBy 21 = .ok (.ifCond .eq 44, 3) := by decide +kernel
theorem dX7_isLimbBy_24 : decode cX7_isLimbBy 24 = .ok (.iload_n 2, 1) := by decide +kernel
theorem dX7_isLimbBy_25 : decode cX7_isLimbBy 25 = .ok (.i2l, 1) := by decide +kernel
theorem dX7_isLimbBy_26 : decode cX7_isLimbBy 26 = .ok (.lconst 1, 1) := by decide +kernel
theorem dX7_isLimbBy_27 : decode cX7_isLimbBy 27 = .ok (.ldc2_w 90, 3) := by decide +kernel
theorem dX7_isLimbBy_30 : decode cX7_isLimbBy 30 = .ok (.invokestatic 52, 3) := by decide +kernel
theorem dX7_isLimbBy_33 : decode cX7_isLimbBy 33 = .ok (.ifCond .eq 32, 3) := by decide +kernel
theorem dX7_isLimbBy_36 : decode cX7_isLimbBy 36 = .ok (.iload_n 3, 1) := by decide +kernel
theorem dX7_isLimbBy_37 : decode cX7_isLimbBy 37 = .ok (.i2l, 1) := by decide +kernel
theorem dX7_isLimbBy_38 : decode cX7_isLimbBy 38 = .ok (.lconst 1, 1) := by decide +kernel
theorem dX7_isLimbBy_39 : decode cX7_isLimbBy 39 = .ok (.ldc2_w 92, 3) := by decide +kernel
theorem dX7_isLimbBy_42 : decode cX7_isLimbBy 42 = .ok (.invokestatic 52, 3) := by decide +kernel
theorem dX7_isLimbBy_45 : decode cX7_isLimbBy 45 = .ok (.ifCond .eq 20, 3) := by decide +kernel
theorem dX7_isLimbBy_48 : decode cX7_isLimbBy 48 = .ok (.iload 4, 2) := by decide +kernel
theorem dX7_isLimbBy_50 : decode cX7_isLimbBy 50 = .ok (.i2l, 1) := by decide +kernel
theorem dX7_isLimbBy_51 : decode cX7_isLimbBy 51 = .ok (.lconst 0, 1) := by decide +kernel
theorem dX7_isLimbBy_52 : decode cX7_isLimbBy 52 = .ok (.ldc2_w 94, 3) := by decide +kernel
theorem dX7_isLimbBy_55 : decode cX7_isLimbBy 55 = .ok (.invokestatic 52, 3) := by decide +kernel
theorem dX7_isLimbBy_58 : decode cX7_isLimbBy 58 = .ok (.ifCond .eq 7, 3) := by decide +kernel
theorem dX7_isLimbBy_61 : decode cX7_isLimbBy 61 = .ok (.iconst 1, 1) := by decide +kernel
theorem dX7_isLimbBy_62 : decode cX7_isLimbBy 62 = .ok (.goto 4, 3) := by decide +kernel
theorem dX7_isLimbBy_65 : decode cX7_isLimbBy 65 = .ok (.iconst 0, 1) := by decide +kernel
theorem dX7_isLimbBy_66 : decode cX7_isLimbBy 66 = .ok (.ireturn, 1) := by decide +kernel
theorem dX7_limbComes_0 : decode cX7_limbComes 0 = .ok (.aload_n 0, 1) := by decide +kernel
theorem dX7_limbComes_1 : decode cX7_limbComes 1 = .ok (.getfield 7, 3) := by decide +kernel
theorem dX7_limbComes_4 : decode cX7_limbComes 4 = .ok (.iconst 0, 1) := by decide +kernel
theorem dX7_limbComes_5 : decode cX7_limbComes 5 = .ok (.iaload, 1) := by decide +kernel
theorem dX7_limbComes_6 : decode cX7_limbComes 6 = .ok (.istore 6, 2) := by decide +kernel
theorem dX7_limbComes_8 : decode cX7_limbComes 8 = .ok (.aload_n 0, 1) := by decide +kernel
theorem dX7_limbComes_9 : decode cX7_limbComes 9 = .ok (.iload 6, 2) := by decide +kernel
theorem dX7_limbComes_11 : decode cX7_limbComes 11 = .ok (.iconst 0, 1) := by decide +kernel
theorem dX7_limbComes_12 : decode cX7_limbComes 12 = .ok (.iload_n 1, 1) := by decide +kernel
theorem dX7_limbComes_13 : decode cX7_limbComes 13 = .ok (.invokevirtual 75, 3) := by decide +kernel
theorem dX7_limbComes_16 : decode cX7_limbComes 16 = .ok (.aload_n 0, 1) := by decide +kernel
theorem dX7_limbComes_17 : decode cX7_limbComes 17 = .ok (.iload 6, 2) := by decide +kernel
theorem dX7_limbComes_19 : decode cX7_limbComes 19 = .ok (.iconst 1, 1) := by decide +kernel
theorem dX7_limbComes_20 : decode cX7_limbComes 20 = .ok (.iload_n 2, 1) := by decide +kernel
theorem dX7_limbComes_21 : decode cX7_limbComes 21 = .ok (.invokevirtual 75, 3) := by decide +kernel
theorem dX7_limbComes_24 : decode cX7_limbComes 24 = .ok (.aload_n 0, 1) := by decide +kernel
theorem dX7_limbComes_25 : decode cX7_limbComes 25 = .ok (.iload 6, 2) := by decide +kernel
theorem dX7_limbComes_27 : decode cX7_limbComes 27 = .ok (.iconst 2, 1) := by decide +kernel
theorem dX7_limbComes_28 : decode cX7_limbComes 28 = .ok (.iload_n 3, 1) := by decide +kernel
theorem dX7_limbComes_29 : decode cX7_limbComes 29 = .ok (.invokevirtual 75, 3) := by decide +kernel
theorem dX7_limbComes_32 : decode cX7_limbComes 32 = .ok (.aload_n 0, 1) := by decide +kernel
theorem dX7_limbComes_33 : decode cX7_limbComes 33 = .ok (.iload 6, 2) := by decide +kernel
theorem dX7_limbComes_35 : decode cX7_limbComes 35 = .ok (.iconst 3, 1) := by decide +kernel
theorem dX7_limbComes_36 : decode cX7_limbComes 36 = .ok (.iload 4, 2) := by decide +kernel
theorem dX7_limbComes_38 : decode cX7_limbComes 38 = .ok (.invokevirtual 75, 3) := by decide +kernel
theorem dX7_limbComes_41 : decode cX7_limbComes 41 = .ok (.aload_n 0, 1) := by decide +kernel
theorem dX7_limbComes_42 : decode cX7_limbComes 42 = .ok (.iload 6, 2) := by decide +kernel
theorem dX7_limbComes_44 : decode cX7_limbComes 44 = .ok (.iconst 4, 1) := by decide +kernel
theorem dX7_limbComes_45 : decode cX7_limbComes 45 = .ok (.iload 5, 2) := by decide +kernel
theorem dX7_limbComes_47 : decode cX7_limbComes 47 = .ok (.invokevirtual 75, 3) := by decide +kernel
theorem dX7_limbComes_50 : decode cX7_limbComes 50 = .ok (.aload_n 0, 1) := by decide +kernel
theorem dX7_limbComes_51 : decode cX7_limbComes 51 = .ok (.iload 6, 2) := by decide +kernel
theorem dX7_limbComes_53 : decode cX7_limbComes 53 = .ok (.iconst 5, 1) := by decide +kernel
theorem dX7_limbComes_54 : decode cX7_limbComes 54 = .ok (.iconst 0, 1) := by decide +kernel
theorem dX7_limbComes_55 : decode cX7_limbComes 55 = .ok (.invokevirtual 75, 3) := by decide +kernel
theorem dX7_limbComes_58 : decode cX7_limbComes 58 = .ok (.aload_n 0, 1) := by decide +kernel
theorem dX7_limbComes_59 : decode cX7_limbComes 59 = .ok (.iload 6, 2) := by decide +kernel
theorem dX7_limbComes_61 : decode cX7_limbComes 61 = .ok (.bipush 6, 2) := by decide +kernel
theorem dX7_limbComes_63 : decode cX7_limbComes 63 = .ok (.iconst 0, 1) := by decide +kernel
theorem dX7_limbComes_64 : decode cX7_limbComes 64 = .ok (.invokevirtual 75, 3) := by decide +kernel
theorem dX7_limbComes_67 : decode cX7_limbComes 67 = .ok (.aload_n 0, 1) := by decide +kernel
theorem dX7_limbComes_68 : decode cX7_limbComes 68 = .ok (.getfield 7, 3) := by decide +kernel
theorem dX7_limbComes_71 : decode cX7_limbComes 71 = .ok (.iconst 0, 1) := by decide +kernel
theorem dX7_limbComes_72 : decode cX7_limbComes 72 = .ok (.dup2, 1) := by decide +kernel
theorem dX7_limbComes_73 : decode cX7_limbComes 73 = .ok (.iaload, 1) := by decide +kernel
theorem dX7_limbComes_74 : decode cX7_limbComes 74 = .ok (.iconst 1, 1) := by decide +kernel
theorem dX7_limbComes_75 : decode cX7_limbComes 75 = .ok (.iadd, 1) := by decide +kernel
theorem dX7_limbComes_76 : decode cX7_limbComes 76 = .ok (.iastore, 1) := by decide +kernel
theorem dX7_limbComes_77 : decode cX7_limbComes 77 = .ok (.aload_n 0, 1) := by decide +kernel
theorem dX7_limbComes_78 : decode cX7_limbComes 78 = .ok (.getfield 7, 3) := by decide +kernel
theorem dX7_limbComes_81 : decode cX7_limbComes 81 = .ok (.sipush 147, 3) := by decide +kernel
theorem dX7_limbComes_84 : decode cX7_limbComes 84 = .ok (.iconst 0, 1) := by decide +kernel
theorem dX7_limbComes_85 : decode cX7_limbComes 85 = .ok (.iastore, 1) := by decide +kernel
theorem dX7_limbComes_86 : decode cX7_limbComes 86 = .ok (.return_, 1) := by decide +kernel
theorem dX7_limb_0 : decode cX7_limb 0 = .ok (.iload_n 1, 1) := by decide +kernel
theorem dX7_limb_1 : decode cX7_limb 1 = .ok (.iload_n 2, 1) := by decide +kernel
theorem dX7_limb_2 : decode cX7_limb 2 = .ok (.iload_n 3, 1) := by decide +kernel
theorem dX7_limb_3 : decode cX7_limb 3 = .ok (.iload 4, 2) := by decide +kernel
theorem dX7_limb_5 : decode cX7_limb 5 = .ok (.iload 5, 2) := by decide +kernel
theorem dX7_limb_7 : decode cX7_limb 7 = .ok (.invokestatic 96, 3) := by decide +kernel
theorem dX7_limb_10 : decode cX7_limb 10 = .ok (.ifCond .ne 8, 3) := by decide +kernel
theorem dX7_limb_13 : decode cX7_limb 13 = .ok (.aload_n 0, 1) := by decide +kernel
theorem dX7_limb_14 : decode cX7_limb 14 = .ok (.invokevirtual 84, 3) := by decide +kernel
theorem dX7_limb_17 : decode cX7_limb 17 = .ok (.ireturn, 1) := by decide +kernel
theorem dX7_limb_18 : decode cX7_limb 18 = .ok (.aload_n 0, 1) := by decide +kernel
theorem dX7_limb_19 : decode cX7_limb 19 = .ok (.getfield 7, 3) := by decide +kernel
theorem dX7_limb_22 : decode cX7_limb 22 = .ok (.iconst 0, 1) := by decide +kernel
theorem dX7_limb_23 : decode cX7_limb 23 = .ok (.iaload, 1) := by decide +kernel
theorem dX7_limb_24 : decode cX7_limb 24 = .ok (.bipush 7, 2) := by decide +kernel
theorem dX7_limb_26 : decode cX7_limb 26 = .ok (.if_icmp .ne 8, 3) := by decide +kernel
theorem dX7_limb_29 : decode cX7_limb 29 = .ok (.aload_n 0, 1) := by decide +kernel
theorem dX7_limb_30 : decode cX7_limb 30 = .ok (.invokevirtual 100, 3) := by decide +kernel
theorem dX7_limb_33 : decode cX7_limb 33 = .ok (.ireturn, 1) := by decide +kernel
theorem dX7_limb_34 : decode cX7_limb 34 = .ok (.aload_n 0, 1) := by decide +kernel
theorem dX7_limb_35 : decode cX7_limb 35 = .ok (.iload_n 1, 1) := by decide +kernel
theorem dX7_limb_36 : decode cX7_limb 36 = .ok (.iload_n 2, 1) := by decide +kernel
theorem dX7_limb_37 : decode cX7_limb 37 = .ok (.iload_n 3, 1) := by decide +kernel
theorem dX7_limb_38 : decode cX7_limb 38 = .ok (.iload 4, 2) := by decide +kernel
theorem dX7_limb_40 : decode cX7_limb 40 = .ok (.iload 5, 2) := by decide +kernel
theorem dX7_limb_42 : decode cX7_limb 42 = .ok (.invokevirtual 103, 3) := by decide +kernel
theorem dX7_limb_45 : decode cX7_limb 45 = .ok (.aload_n 0, 1) := by decide +kernel
theorem dX7_limb_46 : decode cX7_limb 46 = .ok (.getfield 7, 3) := by decide +kernel
theorem dX7_limb_49 : decode cX7_limb 49 = .ok (.iconst 0, 1) := by decide +kernel
theorem dX7_limb_50 : decode cX7_limb 50 = .ok (.iaload, 1) := by decide +kernel
theorem dX7_limb_51 : decode cX7_limb 51 = .ok (.iconst 1, 1) := by decide +kernel
theorem dX7_limb_52 : decode cX7_limb 52 = .ok (.isub, 1) := by decide +kernel
theorem dX7_limb_53 : decode cX7_limb 53 = .ok (.ireturn, 1) := by decide +kernel
theorem dX7_type_0 : decode cX7_type 0 = .ok (.iload_n 1, 1) := by decide +kernel
theorem dX7_type_1 : decode cX7_type 1 = .ok (.i2l, 1) := by decide +kernel
theorem dX7_type_2 : decode cX7_type 2 = .ok (.lconst 0, 1) := by decide +kernel
theorem dX7_type_3 : decode cX7_type 3 = .ok (.ldc2_w 107, 3) := by decide +kernel
theorem dX7_type_6 : decode cX7_type 6 = .ok (.invokestatic 52, 3) := by decide +kernel
theorem dX7_type_9 : decode cX7_type 9 = .ok (.ifCond .ne 8, 3) := by decide +kernel
theorem dX7_type_12 : decode cX7_type 12 = .ok (.aload_n 0, 1) := by decide +kernel
theorem dX7_type_13 : decode cX7_type 13 = .ok (.invokevirtual 84, 3) := by decide +kernel
theorem dX7_type_16 : decode cX7_type 16 = .ok (.ireturn, 1) := by decide +kernel
theorem dX7_type_17 : decode cX7_type 17 = .ok (.aload_n 0, 1) := by decide +kernel
theorem dX7_type_18 : decode cX7_type 18 = .ok (.getfield 109, 3) := by decide +kernel
theorem dX7_type_21 : decode cX7_type 21 = .ok (.sipush 150, 3) := by decide +kernel
theorem dX7_type_24 : decode cX7_type 24 = .ok (.if_icmp .ne 8, 3) := by decide +kernel
theorem dX7_type_27 : decode cX7_type 27 = .ok (.aload_n 0, 1) := by decide +kernel
theorem dX7_type_28 : decode cX7_type 28 = .ok (.invokevirtual 100, 3) := by decide +kernel
theorem dX7_type_31 : decode cX7_type 31 = .ok (.ireturn, 1) := by decide +kernel
theorem dX7_type_32 : decode cX7_type 32 = .ok (.aload_n 0, 1) := by decide +kernel
theorem dX7_type_33 : decode cX7_type 33 = .ok (.getfield 17, 3) := by decide +kernel
theorem dX7_type_36 : decode cX7_type 36 = .ok (.aload_n 0, 1) := by decide +kernel
theorem dX7_type_37 : decode cX7_type 37 = .ok (.getfield 109, 3) := by decide +kernel
theorem dX7_type_40 : decode cX7_type 40 = .ok (.iload_n 1, 1) := by decide +kernel
theorem dX7_type_41 : decode cX7_type 41 = .ok (.iastore, 1) := by decide +kernel
theorem dX7_type_42 : decode cX7_type 42 = .ok (.aload_n 0, 1) := by decide +kernel
theorem dX7_type_43 : decode cX7_type 43 = .ok (.dup, 1) := by decide +kernel
theorem dX7_type_44 : decode cX7_type 44 = .ok (.getfield 109, 3) := by decide +kernel
theorem dX7_type_47 : decode cX7_type 47 = .ok (.iconst 1, 1) := by decide +kernel
theorem dX7_type_48 : decode cX7_type 48 = .ok (.iadd, 1) := by decide +kernel
theorem dX7_type_49 : decode cX7_type 49 = .ok (.putfield 109, 3) := by decide +kernel
theorem dX7_type_52 : decode cX7_type 52 = .ok (.aload_n 0, 1) := by decide +kernel
theorem dX7_type_53 : decode cX7_type 53 = .ok (.getfield 109, 3) := by decide +kernel
theorem dX7_type_56 : decode cX7_type 56 = .ok (.ireturn, 1) := by decide +kernel
theorem dX7_clear_0 : decode cX7_clear 0 = .ok (.aload_n 0, 1) := by decide +kernel
theorem dX7_clear_1 : decode cX7_clear 1 = .ok (.getfield 109, 3) := by decide +kernel
theorem dX7_clear_4 : decode cX7_clear 4 = .ok (.istore_n 1, 1) := by decide +kernel
theorem dX7_clear_5 : decode cX7_clear 5 = .ok (.aload_n 0, 1) := by decide +kernel
theorem dX7_clear_6 : decode cX7_clear 6 = .ok (.iconst 0, 1) := by decide +kernel
theorem dX7_clear_7 : decode cX7_clear 7 = .ok (.putfield 109, 3) := by decide +kernel
theorem dX7_clear_10 : decode cX7_clear 10 = .ok (.iload_n 1, 1) := by decide +kernel
theorem dX7_clear_11 : decode cX7_clear 11 = .ok (.ireturn, 1) := by decide +kernel
theorem dX7_byteAt_0 : decode cX7_byteAt 0 = .ok (.iload_n 1, 1) := by decide +kernel
theorem dX7_byteAt_1 : decode cX7_byteAt 1 = .ok (.aload_n 0, 1) := by decide +kernel
theorem dX7_byteAt_2 : decode cX7_byteAt 2 = .ok (.getfield 109, 3) := by decide +kernel
theorem dX7_byteAt_5 : decode cX7_byteAt 5 = .ok (.if_icmp .ge 12, 3) := by decide +kernel
theorem dX7_byteAt_8 : decode cX7_byteAt 8 = .ok (.aload_n 0, 1) := by decide +kernel
theorem dX7_byteAt_9 : decode cX7_byteAt 9 = .ok (.getfield 17, 3) := by decide +kernel
theorem dX7_byteAt_12 : decode cX7_byteAt 12 = .ok (.iload_n 1, 1) := by decide +kernel
theorem dX7_byteAt_13 : decode cX7_byteAt 13 = .ok (.iaload, 1) := by decide +kernel
theorem dX7_byteAt_14 : decode cX7_byteAt 14 = .ok (.goto 4, 3) := by decide +kernel
theorem dX7_byteAt_17 : decode cX7_byteAt 17 = .ok (.iconst (-1), 1) := by decide +kernel
theorem dX7_byteAt_18 : decode cX7_byteAt 18 = .ok (.ireturn, 1) := by decide +kernel
theorem dX7_wordAt_0 : decode cX7_wordAt 0 = .ok (.lconst 0, 1) := by decide +kernel
theorem dX7_wordAt_1 : decode cX7_wordAt 1 = .ok (.lstore_n 3, 1) := by decide +kernel
theorem dX7_wordAt_2 : decode cX7_wordAt 2 = .ok (.iload_n 1, 1) := by decide +kernel
theorem dX7_wordAt_3 : decode cX7_wordAt 3 = .ok (.istore 5, 2) := by decide +kernel
theorem dX7_wordAt_5 : decode cX7_wordAt 5 = .ok (.iload 5, 2) := by decide +kernel
theorem dX7_wordAt_7 : decode cX7_wordAt 7 = .ok (.iload_n 2, 1) := by decide +kernel
theorem dX7_wordAt_8 : decode cX7_wordAt 8 = .ok (.if_icmp .ge 35, 3) := by decide +kernel
theorem dX7_wordAt_11 : decode cX7_wordAt 11 = .ok (.iload_n 2, 1) := by decide +kernel
theorem dX7_wordAt_12 : decode cX7_wordAt 12 = .ok (.iload_n 1, 1) := by decide +kernel
theorem dX7_wordAt_13 : decode cX7_wordAt 13 = .ok (.isub, 1) := by decide +kernel
theorem dX7_wordAt_14 : decode cX7_wordAt 14 = .ok (.bipush 6, 2) := by decide +kernel
theorem dX7_wordAt_16 : decode cX7_wordAt 16 = .ok (.if_icmp .le 7, 3) := by decide +kernel
theorem dX7_wordAt_19 : decode cX7_wordAt 19 = .ok (.lconst 0, 1) := by decide +kernel
theorem dX7_wordAt_20 : decode cX7_wordAt 20 = .ok (.goto 16, 3) := by decide +kernel
theorem dX7_wordAt_23 : decode cX7_wordAt 23 = .ok (.lload_n 3, 1) := by decide +kernel
theorem dX7_wordAt_24 : decode cX7_wordAt 24 = .ok (.bipush 7, 2) := by decide +kernel
theorem dX7_wordAt_26 : decode cX7_wordAt 26 = .ok (.lshl, 1) := by decide +kernel
theorem dX7_wordAt_27 : decode cX7_wordAt 27 = .ok (.aload_n 0, 1) := by decide +kernel
theorem dX7_wordAt_28 : decode cX7_wordAt 28 = .ok (.getfield 17, 3) := by decide +kernel
theorem dX7_wordAt_31 : decode cX7_wordAt 31 = .ok (.iload 5, 2) := by decide +kernel
theorem dX7_wordAt_33 : decode cX7_wordAt 33 = .ok (.iaload, 1) := by decide +kernel
theorem dX7_wordAt_34 : decode cX7_wordAt 34 = .ok (.i2l, 1) := by decide +kernel
theorem dX7_wordAt_35 : decode cX7_wordAt 35 = .ok (.lor, 1) := by decide +kernel
theorem dX7_wordAt_36 : decode cX7_wordAt 36 = .ok (.lstore_n 3, 1) := by decide +kernel
theorem dX7_wordAt_37 : decode cX7_wordAt 37 = .ok (.iinc 5 1, 3) := by decide +kernel
theorem dX7_wordAt_40 : decode cX7_wordAt 40 = .ok (.goto (-35), 3) := by decide +kernel
theorem dX7_wordAt_43 : decode cX7_wordAt 43 = .ok (.lload_n 3, 1) := by decide +kernel
theorem dX7_wordAt_44 : decode cX7_wordAt 44 = .ok (.ldc2_w 112, 3) := by decide +kernel
theorem dX7_wordAt_47 : decode cX7_wordAt 47 = .ok (.ldc2_w 114, 3) := by decide +kernel
theorem dX7_wordAt_50 : decode cX7_wordAt 50 = .ok (.ldc2_w 112, 3) := by decide +kernel
theorem dX7_wordAt_53 : decode cX7_wordAt 53 = .ok (.ldc2_w 112, 3) := by decide +kernel
theorem dX7_wordAt_56 : decode cX7_wordAt 56 = .ok (.ldc2_w 116, 3) := by decide +kernel
theorem dX7_wordAt_59 : decode cX7_wordAt 59 = .ok (.ldc2_w 118, 3) := by decide +kernel
theorem dX7_wordAt_62 : decode cX7_wordAt 62 = .ok (.invokestatic 120, 3) := by decide +kernel
theorem dX7_wordAt_65 : decode cX7_wordAt 65 = .ok (.lcmp, 1) := by decide +kernel
theorem dX7_wordAt_66 : decode cX7_wordAt 66 = .ok (.ifCond .ne 7, 3) := by decide +kernel
theorem dX7_wordAt_69 : decode cX7_wordAt 69 = .ok (.iconst 1, 1) := by decide +kernel
theorem dX7_wordAt_70 : decode cX7_wordAt 70 = .ok (.goto 106, 3) := by decide +kernel
theorem dX7_wordAt_73 : decode cX7_wordAt 73 = .ok (.lload_n 3, 1) := by decide +kernel
theorem dX7_wordAt_74 : decode cX7_wordAt 74 = .ok (.lconst 0, 1) := by decide +kernel
theorem dX7_wordAt_75 : decode cX7_wordAt 75 = .ok (.lconst 0, 1) := by decide +kernel
theorem dX7_wordAt_76 : decode cX7_wordAt 76 = .ok (.ldc2_w 124, 3) := by decide +kernel
theorem dX7_wordAt_79 : decode cX7_wordAt 79 = .ok (.ldc2_w 126, 3) := by decide +kernel
theorem dX7_wordAt_82 : decode cX7_wordAt 82 = .ok (.ldc2_w 128, 3) := by decide +kernel
theorem dX7_wordAt_85 : decode cX7_wordAt 85 = .ok (.ldc2_w 130, 3) := by decide +kernel
theorem dX7_wordAt_88 : decode cX7_wordAt 88 = .ok (.invokestatic 120, 3) := by decide +kernel
theorem dX7_wordAt_91 : decode cX7_wordAt 91 = .ok (.lcmp, 1) := by decide +kernel
theorem dX7_wordAt_92 : decode cX7_wordAt 92 = .ok (.ifCond .ne 7, 3) := by decide +kernel
theorem dX7_wordAt_95 : decode cX7_wordAt 95 = .ok (.iconst 2, 1) := by decide +kernel
theorem dX7_wordAt_96 : decode cX7_wordAt 96 = .ok (.goto 80, 3) := by decide +kernel
theorem dX7_wordAt_99 : decode cX7_wordAt 99 = .ok (.lload_n 3, 1) := by decide +kernel
theorem dX7_wordAt_100 : decode cX7_wordAt 100 = .ok (.lconst 0, 1) := by decide +kernel
theorem dX7_wordAt_101 : decode cX7_wordAt 101 = .ok (.lconst 0, 1) := by decide +kernel
theorem dX7_wordAt_102 : decode cX7_wordAt 102 = .ok (.ldc2_w 128, 3) := by decide +kernel
theorem dX7_wordAt_105 : decode cX7_wordAt 105 = .ok (.ldc2_w 132, 3) := by decide +kernel
theorem dX7_wordAt_108 : decode cX7_wordAt 108 = .ok (.ldc2_w 134, 3) := by decide +kernel
theorem dX7_wordAt_111 : decode cX7_wordAt 111 = .ok (.ldc2_w 116, 3) := by decide +kernel
theorem dX7_wordAt_114 : decode cX7_wordAt 114 = .ok (.invokestatic 120, 3) := by decide +kernel
theorem dX7_wordAt_117 : decode cX7_wordAt 117 = .ok (.lcmp, 1) := by decide +kernel
theorem dX7_wordAt_118 : decode cX7_wordAt 118 = .ok (.ifCond .ne 7, 3) := by decide +kernel
theorem dX7_wordAt_121 : decode cX7_wordAt 121 = .ok (.iconst 3, 1) := by decide +kernel
theorem dX7_wordAt_122 : decode cX7_wordAt 122 = .ok (.goto 54, 3) := by decide +kernel
theorem dX7_wordAt_125 : decode cX7_wordAt 125 = .ok (.lload_n 3, 1) := by decide +kernel
theorem dX7_wordAt_126 : decode cX7_wordAt 126 = .ok (.lconst 0, 1) := by decide +kernel
theorem dX7_wordAt_127 : decode cX7_wordAt 127 = .ok (.lconst 0, 1) := by decide +kernel
theorem dX7_wordAt_128 : decode cX7_wordAt 128 = .ok (.lconst 0, 1) := by decide +kernel
theorem dX7_wordAt_129 : decode cX7_wordAt 129 = .ok (.ldc2_w 118, 3) := by decide +kernel
theorem dX7_wordAt_132 : decode cX7_wordAt 132 = .ok (.ldc2_w 126, 3) := by decide +kernel
theorem dX7_wordAt_135 : decode cX7_wordAt 135 = .ok (.ldc2_w 116, 3) := by decide +kernel
theorem dX7_wordAt_138 : decode cX7_wordAt 138 = .ok (.invokestatic 120, 3) := by decide +kernel
theorem dX7_wordAt_141 : decode cX7_wordAt 141 = .ok (.lcmp, 1) := by decide +kernel
theorem dX7_wordAt_142 : decode cX7_wordAt 142 = .ok (.ifCond .ne 7, 3) := by decide +kernel
theorem dX7_wordAt_145 : decode cX7_wordAt 145 = .ok (.iconst 4, 1) := by decide +kernel
theorem dX7_wordAt_146 : decode cX7_wordAt 146 = .ok (.goto 30, 3) := by decide +kernel
theorem dX7_wordAt_149 : decode cX7_wordAt 149 = .ok (.lload_n 3, 1) := by decide +kernel
theorem dX7_wordAt_150 : decode cX7_wordAt 150 = .ok (.lconst 0, 1) := by decide +kernel
theorem dX7_wordAt_151 : decode cX7_wordAt 151 = .ok (.lconst 0, 1) := by decide +kernel
theorem dX7_wordAt_152 : decode cX7_wordAt 152 = .ok (.ldc2_w 136, 3) := by decide +kernel
theorem dX7_wordAt_155 : decode cX7_wordAt 155 = .ok (.ldc2_w 138, 3) := by decide +kernel
theorem dX7_wordAt_158 : decode cX7_wordAt 158 = .ok (.ldc2_w 140, 3) := by decide +kernel
theorem dX7_wordAt_161 : decode cX7_wordAt 161 = .ok (.ldc2_w 142, 3) := by decide +kernel
theorem dX7_wordAt_164 : decode cX7_wordAt 164 = .ok (.invokestatic 120, 3) := by decide +kernel
theorem dX7_wordAt_167 : decode cX7_wordAt 167 = .ok (.lcmp, 1) := by decide +kernel
theorem dX7_wordAt_168 : decode cX7_wordAt 168 = .ok (.ifCond .ne 7, 3) := by decide +kernel
theorem dX7_wordAt_171 : decode cX7_wordAt 171 = .ok (.iconst 5, 1) := by decide +kernel
theorem dX7_wordAt_172 : decode cX7_wordAt 172 = .ok (.goto 4, 3) := by decide +kernel
theorem dX7_wordAt_175 : decode cX7_wordAt 175 = .ok (.iconst 0, 1) := by decide +kernel
theorem dX7_wordAt_176 : decode cX7_wordAt 176 = .ok (.ireturn, 1) := by decide +kernel
theorem dX7_word_0 : decode cX7_word 0 = .ok (.lload_n 0, 1) := by decide +kernel
theorem dX7_word_1 : decode cX7_word 1 = .ok (.bipush 35, 2) := by decide +kernel
theorem dX7_word_3 : decode cX7_word 3 = .ok (.lshl, 1) := by decide +kernel
theorem dX7_word_4 : decode cX7_word 4 = .ok (.lload_n 2, 1) := by decide +kernel
theorem dX7_word_5 : decode cX7_word 5 = .ok (.bipush 28, 2) := by decide +kernel
theorem dX7_word_7 : decode cX7_word 7 = .ok (.lshl, 1) := by decide +kernel
theorem dX7_word_8 : decode cX7_word 8 = .ok (.lor, 1) := by decide +kernel
theorem dX7_word_9 : decode cX7_word 9 = .ok (.lload 4, 2) := by decide +kernel
theorem dX7_word_11 : decode cX7_word 11 = .ok (.bipush 21, 2) := by decide +kernel
theorem dX7_word_13 : decode cX7_word 13 = .ok (.lshl, 1) := by decide +kernel
theorem dX7_word_14 : decode cX7_word 14 = .ok (.lor, 1) := by decide +kernel
theorem dX7_word_15 : decode cX7_word 15 = .ok (.lload 6, 2) := by decide +kernel
theorem dX7_word_17 : decode cX7_word 17 = .ok (.bipush 14, 2) := by decide +kernel
theorem dX7_word_19 : decode cX7_word 19 = .ok (.lshl, 1) := by decide +kernel
theorem dX7_word_20 : decode cX7_word 20 = .ok (.lor, 1) := by decide +kernel
theorem dX7_word_21 : decode cX7_word 21 = .ok (.lload 8, 2) := by decide +kernel
theorem dX7_word_23 : decode cX7_word 23 = .ok (.bipush 7, 2) := by decide +kernel
theorem dX7_word_25 : decode cX7_word 25 = .ok (.lshl, 1) := by decide +kernel
theorem dX7_word_26 : decode cX7_word 26 = .ok (.lor, 1) := by decide +kernel
theorem dX7_word_27 : decode cX7_word 27 = .ok (.lload 10, 2) := by decide +kernel
theorem dX7_word_29 : decode cX7_word 29 = .ok (.lor, 1) := by decide +kernel
theorem dX7_word_30 : decode cX7_word 30 = .ok (.lreturn, 1) := by decide +kernel
theorem dX7_looksOn_0 : decode cX7_looksOn 0 = .ok (.aload_n 0, 1) := by decide +kernel
theorem dX7_looksOn_1 : decode cX7_looksOn 1 = .ok (.aload_n 0, 1) := by decide +kernel
theorem dX7_looksOn_2 : decode cX7_looksOn 2 = .ok (.getfield 144, 3) := by decide +kernel
theorem dX7_looksOn_5 : decode cX7_looksOn 5 = .ok (.invokevirtual 147, 3) := by decide +kernel
theorem dX7_looksOn_8 : decode cX7_looksOn 8 = .ok (.bipush 32, 2) := by decide +kernel
theorem dX7_looksOn_10 : decode cX7_looksOn 10 = .ok (.if_icmp .ne 16, 3) := by decide +kernel
theorem dX7_looksOn_13 : decode cX7_looksOn 13 = .ok (.aload_n 0, 1) := by decide +kernel
theorem dX7_looksOn_14 : decode cX7_looksOn 14 = .ok (.dup, 1) := by decide +kernel
theorem dX7_looksOn_15 : decode cX7_looksOn 15 = .ok (.getfield 144, 3) := by decide +kernel
theorem dX7_looksOn_18 : decode cX7_looksOn 18 = .ok (.iconst 1, 1) := by decide +kernel
theorem dX7_looksOn_19 : decode cX7_looksOn 19 = .ok (.iadd, 1) := by decide +kernel
theorem dX7_looksOn_20 : decode cX7_looksOn 20 = .ok (.putfield 144, 3) := by decide +kernel
theorem dX7_looksOn_23 : decode cX7_looksOn 23 = .ok (.goto (-23), 3) := by decide +kernel
theorem dX7_looksOn_26 : decode cX7_looksOn 26 = .ok (.aload_n 0, 1) := by decide +kernel
theorem dX7_looksOn_27 : decode cX7_looksOn 27 = .ok (.aload_n 0, 1) := by decide +kernel
theorem dX7_looksOn_28 : decode cX7_looksOn 28 = .ok (.getfield 144, 3) := by decide +kernel
theorem dX7_looksOn_31 : decode cX7_looksOn 31 = .ok (.putfield 151, 3) := by decide +kernel
theorem dX7_looksOn_34 : decode cX7_looksOn 34 = .ok (.aload_n 0, 1) := by decide +kernel
theorem dX7_looksOn_35 : decode cX7_looksOn 35 = .ok (.aload_n 0, 1) := by decide +kernel
theorem dX7_looksOn_36 : decode cX7_looksOn 36 = .ok (.getfield 144, 3) := by decide +kernel
theorem dX7_looksOn_39 : decode cX7_looksOn 39 = .ok (.invokevirtual 147, 3) := by decide +kernel
theorem dX7_looksOn_42 : decode cX7_looksOn 42 = .ok (.istore_n 1, 1) := by decide +kernel
theorem dX7_looksOn_43 : decode cX7_looksOn 43 = .ok (.iload_n 1, 1) := by decide +kernel
theorem dX7_looksOn_44 : decode cX7_looksOn 44 = .ok (.i2l, 1) := by decide +kernel
theorem dX7_looksOn_45 : decode cX7_looksOn 45 = .ok (.ldc2_w 138, 3) := by decide +kernel
theorem dX7_looksOn_48 : decode cX7_looksOn 48 = .ok (.ldc2_w 154, 3) := by decide +kernel
theorem dX7_looksOn_51 : decode cX7_looksOn 51 = .ok (.invokestatic 52, 3) := by decide +kernel
theorem dX7_looksOn_54 : decode cX7_looksOn 54 = .ok (.ifCond .eq 61, 3) := by decide +kernel
theorem dX7_looksOn_57 : decode cX7_looksOn 57 = .ok (.aload_n 0, 1) := by decide +kernel
theorem dX7_looksOn_58 : decode cX7_looksOn 58 = .ok (.aload_n 0, 1) := by decide +kernel
theorem dX7_looksOn_59 : decode cX7_looksOn 59 = .ok (.getfield 144, 3) := by decide +kernel
theorem dX7_looksOn_62 : decode cX7_looksOn 62 = .ok (.invokevirtual 147, 3) := by decide +kernel
theorem dX7_looksOn_65 : decode cX7_looksOn 65 = .ok (.i2l, 1) := by decide +kernel
theorem dX7_looksOn_66 : decode cX7_looksOn 66 = .ok (.ldc2_w 138, 3) := by decide +kernel
theorem dX7_looksOn_69 : decode cX7_looksOn 69 = .ok (.ldc2_w 154, 3) := by decide +kernel
theorem dX7_looksOn_72 : decode cX7_looksOn 72 = .ok (.invokestatic 52, 3) := by decide +kernel
theorem dX7_looksOn_75 : decode cX7_looksOn 75 = .ok (.ifCond .eq 16, 3) := by decide +kernel
theorem dX7_looksOn_78 : decode cX7_looksOn 78 = .ok (.aload_n 0, 1) := by decide +kernel
theorem dX7_looksOn_79 : decode cX7_looksOn 79 = .ok (.dup, 1) := by decide +kernel
theorem dX7_looksOn_80 : decode cX7_looksOn 80 = .ok (.getfield 144, 3) := by decide +kernel
theorem dX7_looksOn_83 : decode cX7_looksOn 83 = .ok (.iconst 1, 1) := by decide +kernel
theorem dX7_looksOn_84 : decode cX7_looksOn 84 = .ok (.iadd, 1) := by decide +kernel
theorem dX7_looksOn_85 : decode cX7_looksOn 85 = .ok (.putfield 144, 3) := by decide +kernel
theorem dX7_looksOn_88 : decode cX7_looksOn 88 = .ok (.goto (-31), 3) := by decide +kernel
theorem dX7_looksOn_91 : decode cX7_looksOn 91 = .ok (.aload_n 0, 1) := by decide +kernel
theorem dX7_looksOn_92 : decode cX7_looksOn 92 = .ok (.iconst 1, 1) := by decide +kernel
theorem dX7_looksOn_93 : decode cX7_looksOn 93 = .ok (.putfield 156, 3) := by decide +kernel
theorem dX7_looksOn_96 : decode cX7_looksOn 96 = .ok (.aload_n 0, 1) := by decide +kernel
theorem dX7_looksOn_97 : decode cX7_looksOn 97 = .ok (.aload_n 0, 1) := by decide +kernel
theorem dX7_looksOn_98 : decode cX7_looksOn 98 = .ok (.aload_n 0, 1) := by decide +kernel
theorem dX7_looksOn_99 : decode cX7_looksOn 99 = .ok (.getfield 151, 3) := by decide +kernel
theorem dX7_looksOn_102 : decode cX7_looksOn 102 = .ok (.aload_n 0, 1) := by decide +kernel
theorem dX7_looksOn_103 : decode cX7_looksOn 103 = .ok (.getfield 144, 3) := by decide +kernel
theorem dX7_looksOn_106 : decode cX7_looksOn 106 = .ok (.invokevirtual 159, 3) := by decide +kernel
theorem dX7_looksOn_109 : decode cX7_looksOn 109 = .ok (.putfield 162, 3) := by decide +kernel
theorem dX7_looksOn_112 : decode cX7_looksOn 112 = .ok (.goto 166, 3) := by decide +kernel
theorem dX7_looksOn_115 : decode cX7_looksOn 115 = .ok (.iload_n 1, 1) := by decide +kernel
theorem dX7_looksOn_116 : decode cX7_looksOn 116 = .ok (.i2l, 1) := by decide +kernel
theorem dX7_looksOn_117 : decode cX7_looksOn 117 = .ok (.ldc2_w 165, 3) := by decide +kernel
theorem dX7_looksOn_120 : decode cX7_looksOn 120 = .ok (.ldc2_w 167, 3) := by decide +kernel
theorem dX7_looksOn_123 : decode cX7_looksOn 123 = .ok (.invokestatic 52, 3) := by decide +kernel
theorem dX7_looksOn_126 : decode cX7_looksOn 126 = .ok (.ifCond .eq 111, 3) := by decide +kernel
theorem dX7_looksOn_129 : decode cX7_looksOn 129 = .ok (.aload_n 0, 1) := by decide +kernel
theorem dX7_looksOn_130 : decode cX7_looksOn 130 = .ok (.iconst 0, 1) := by decide +kernel
theorem dX7_looksOn_131 : decode cX7_looksOn 131 = .ok (.putfield 162, 3) := by decide +kernel
theorem dX7_looksOn_134 : decode cX7_looksOn 134 = .ok (.aload_n 0, 1) := by decide +kernel
theorem dX7_looksOn_135 : decode cX7_looksOn 135 = .ok (.aload_n 0, 1) := by decide +kernel
theorem dX7_looksOn_136 : decode cX7_looksOn 136 = .ok (.getfield 144, 3) := by decide +kernel
theorem dX7_looksOn_139 : decode cX7_looksOn 139 = .ok (.invokevirtual 147, 3) := by decide +kernel
theorem dX7_looksOn_142 : decode cX7_looksOn 142 = .ok (.i2l, 1) := by decide +kernel
theorem dX7_looksOn_143 : decode cX7_looksOn 143 = .ok (.ldc2_w 165, 3) := by decide +kernel
theorem dX7_looksOn_146 : decode cX7_looksOn 146 = .ok (.ldc2_w 167, 3) := by decide +kernel
theorem dX7_looksOn_149 : decode cX7_looksOn 149 = .ok (.invokestatic 52, 3) := by decide +kernel
theorem dX7_looksOn_152 : decode cX7_looksOn 152 = .ok (.ifCond .eq 60, 3) := by decide +kernel
theorem dX7_looksOn_155 : decode cX7_looksOn 155 = .ok (.aload_n 0, 1) := by decide +kernel
theorem dX7_looksOn_156 : decode cX7_looksOn 156 = .ok (.aload_n 0, 1) := by decide +kernel
theorem dX7_looksOn_157 : decode cX7_looksOn 157 = .ok (.getfield 144, 3) := by decide +kernel
theorem dX7_looksOn_160 : decode cX7_looksOn 160 = .ok (.aload_n 0, 1) := by decide +kernel
theorem dX7_looksOn_161 : decode cX7_looksOn 161 = .ok (.getfield 151, 3) := by decide +kernel
theorem dX7_looksOn_164 : decode cX7_looksOn 164 = .ok (.isub, 1) := by decide +kernel
theorem dX7_looksOn_165 : decode cX7_looksOn 165 = .ok (.iconst 2, 1) := by decide +kernel
theorem dX7_looksOn_166 : decode cX7_looksOn 166 = .ok (.if_icmp .ge 26, 3) := by decide +kernel
theorem dX7_looksOn_169 : decode cX7_looksOn 169 = .ok (.bipush 10, 2) := by decide +kernel
theorem dX7_looksOn_171 : decode cX7_looksOn 171 = .ok (.aload_n 0, 1) := by decide +kernel
theorem dX7_looksOn_172 : decode cX7_looksOn 172 = .ok (.getfield 162, 3) := by decide +kernel
theorem dX7_looksOn_175 : decode cX7_looksOn 175 = .ok (.imul, 1) := by decide +kernel
theorem dX7_looksOn_176 : decode cX7_looksOn 176 = .ok (.aload_n 0, 1) := by decide +kernel
theorem dX7_looksOn_177 : decode cX7_looksOn 177 = .ok (.getfield 17, 3) := by decide +kernel
theorem dX7_looksOn_180 : decode cX7_looksOn 180 = .ok (.aload_n 0, 1) := by decide +kernel
theorem dX7_looksOn_181 : decode cX7_looksOn 181 = .ok (.getfield 144, 3) := by decide +kernel
theorem dX7_looksOn_184 : decode cX7_looksOn 184 = .ok (.iaload, 1) := by decide +kernel
theorem dX7_looksOn_185 : decode cX7_looksOn 185 = .ok (.iadd, 1) := by decide +kernel
theorem dX7_looksOn_186 : decode cX7_looksOn 186 = .ok (.bipush 48, 2) := by decide +kernel
theorem dX7_looksOn_188 : decode cX7_looksOn 188 = .ok (.isub, 1) := by decide +kernel
theorem dX7_looksOn_189 : decode cX7_looksOn 189 = .ok (.goto 7, 3) := by decide +kernel
theorem dX7_looksOn_192 : decode cX7_looksOn 192 = .ok (.aload_n 0, 1) := by decide +kernel
theorem dX7_looksOn_193 : decode cX7_looksOn 193 = .ok (.getfield 162, 3) := by decide +kernel
theorem dX7_looksOn_196 : decode cX7_looksOn 196 = .ok (.putfield 162, 3) := by decide +kernel
theorem dX7_looksOn_199 : decode cX7_looksOn 199 = .ok (.aload_n 0, 1) := by decide +kernel
theorem dX7_looksOn_200 : decode cX7_looksOn 200 = .ok (.dup, 1) := by decide +kernel
theorem dX7_looksOn_201 : decode cX7_looksOn 201 = .ok (.getfield 144, 3) := by decide +kernel
theorem dX7_looksOn_204 : decode cX7_looksOn 204 = .ok (.iconst 1, 1) := by decide +kernel
theorem dX7_looksOn_205 : decode cX7_looksOn 205 = .ok (.iadd, 1) := by decide +kernel
theorem dX7_looksOn_206 : decode cX7_looksOn 206 = .ok (.putfield 144, 3) := by decide +kernel
theorem dX7_looksOn_209 : decode cX7_looksOn 209 = .ok (.goto (-75), 3) := by decide +kernel
theorem dX7_looksOn_212 : decode cX7_looksOn 212 = .ok (.aload_n 0, 1) := by decide +kernel
theorem dX7_looksOn_213 : decode cX7_looksOn 213 = .ok (.aload_n 0, 1) := by decide +kernel
theorem dX7_looksOn_214 : decode cX7_looksOn 214 = .ok (.getfield 144, 3) := by decide +kernel
theorem dX7_looksOn_217 : decode cX7_looksOn 217 = .ok (.aload_n 0, 1) := by decide +kernel
theorem dX7_looksOn_218 : decode cX7_looksOn 218 = .ok (.getfield 151, 3) := by decide +kernel
theorem dX7_looksOn_221 : decode cX7_looksOn 221 = .ok (.isub, 1) := by decide +kernel
theorem dX7_looksOn_222 : decode cX7_looksOn 222 = .ok (.iconst 2, 1) := by decide +kernel
theorem dX7_looksOn_223 : decode cX7_looksOn 223 = .ok (.if_icmp .le 7, 3) := by decide +kernel
theorem dX7_looksOn_226 : decode cX7_looksOn 226 = .ok (.iconst 5, 1) := by decide +kernel
theorem dX7_looksOn_227 : decode cX7_looksOn 227 = .ok (.goto 4, 3) := by decide +kernel
theorem dX7_looksOn_230 : decode cX7_looksOn 230 = .ok (.iconst 2, 1) := by decide +kernel
theorem dX7_looksOn_231 : decode cX7_looksOn 231 = .ok (.putfield 156, 3) := by decide +kernel
theorem dX7_looksOn_234 : decode cX7_looksOn 234 = .ok (.goto 44, 3) := by decide +kernel
theorem dX7_looksOn_237 : decode cX7_looksOn 237 = .ok (.aload_n 0, 1) := by decide +kernel
theorem dX7_looksOn_238 : decode cX7_looksOn 238 = .ok (.iload_n 1, 1) := by decide +kernel
theorem dX7_looksOn_239 : decode cX7_looksOn 239 = .ok (.bipush 59, 2) := by decide +kernel
theorem dX7_looksOn_241 : decode cX7_looksOn 241 = .ok (.if_icmp .ne 7, 3) := by decide +kernel
theorem dX7_looksOn_244 : decode cX7_looksOn 244 = .ok (.iconst 3, 1) := by decide +kernel
theorem dX7_looksOn_245 : decode cX7_looksOn 245 = .ok (.goto 12, 3) := by decide +kernel
theorem dX7_looksOn_248 : decode cX7_looksOn 248 = .ok (.iload_n 1, 1) := by decide +kernel
theorem dX7_looksOn_249 : decode cX7_looksOn 249 = .ok (.ifCond .ge 7, 3) := by decide +kernel
theorem dX7_looksOn_252 : decode cX7_looksOn 252 = .ok (.iconst 4, 1) := by decide +kernel
theorem dX7_looksOn_253 : decode cX7_looksOn 253 = .ok (.goto 4, 3) := by decide +kernel
theorem dX7_looksOn_256 : decode cX7_looksOn 256 = .ok (.iconst 5, 1) := by decide +kernel
theorem dX7_looksOn_257 : decode cX7_looksOn 257 = .ok (.putfield 156, 3) := by decide +kernel
theorem dX7_looksOn_260 : decode cX7_looksOn 260 = .ok (.aload_n 0, 1) := by decide +kernel
theorem dX7_looksOn_261 : decode cX7_looksOn 261 = .ok (.dup, 1) := by decide +kernel
theorem dX7_looksOn_262 : decode cX7_looksOn 262 = .ok (.getfield 144, 3) := by decide +kernel
theorem dX7_looksOn_265 : decode cX7_looksOn 265 = .ok (.iload_n 1, 1) := by decide +kernel
theorem dX7_looksOn_266 : decode cX7_looksOn 266 = .ok (.ifCond .ge 7, 3) := by decide +kernel
theorem dX7_looksOn_269 : decode cX7_looksOn 269 = .ok (.iconst 0, 1) := by decide +kernel
theorem dX7_looksOn_270 : decode cX7_looksOn 270 = .ok (.goto 4, 3) := by decide +kernel
theorem dX7_looksOn_273 : decode cX7_looksOn 273 = .ok (.iconst 1, 1) := by decide +kernel
theorem dX7_looksOn_274 : decode cX7_looksOn 274 = .ok (.iadd, 1) := by decide +kernel
theorem dX7_looksOn_275 : decode cX7_looksOn 275 = .ok (.putfield 144, 3) := by decide +kernel
theorem dX7_looksOn_278 : decode cX7_looksOn 278 = .ok (.return_, 1) := by decide +kernel
theorem dX7_must_0 : decode cX7_must 0 = .ok (.aload_n 0, 1) := by decide +kernel
theorem dX7_must_1 : decode cX7_must 1 = .ok (.getfield 169, 3) := by decide +kernel
theorem dX7_must_4 : decode cX7_must 4 = .ok (.ifCond .ge 15, 3) := by decide +kernel
theorem dX7_must_7 : decode cX7_must 7 = .ok (.iload_n 1, 1) := by decide +kernel
theorem dX7_must_8 : decode cX7_must 8 = .ok (.ifCond .ne 11, 3) := by decide +kernel
theorem dX7_must_11 : decode cX7_must 11 = .ok (.aload_n 0, 1) := by decide +kernel
theorem dX7_must_12 : decode cX7_must 12 = .ok (.aload_n 0, 1) := by decide +kernel
theorem dX7_must_13 : decode cX7_must 13 = .ok (.getfield 151, 3) := by decide +kernel
theorem dX7_must_16 : decode cX7_must 16 = .ok (.putfield 169, 3) := by decide +kernel
theorem dX7_must_19 : decode cX7_must 19 = .ok (.aload_n 0, 1) := by decide +kernel
theorem dX7_must_20 : decode cX7_must 20 = .ok (.getfield 169, 3) := by decide +kernel
theorem dX7_must_23 : decode cX7_must 23 = .ok (.ifCond .ge 7, 3) := by decide +kernel
theorem dX7_must_26 : decode cX7_must 26 = .ok (.aload_n 0, 1) := by decide +kernel
theorem dX7_must_27 : decode cX7_must 27 = .ok (.invokevirtual 172, 3) := by decide +kernel
theorem dX7_must_30 : decode cX7_must 30 = .ok (.return_, 1) := by decide +kernel
theorem dX7_number_0 : decode cX7_number 0 = .ok (.aload_n 0, 1) := by decide +kernel
theorem dX7_number_1 : decode cX7_number 1 = .ok (.getfield 162, 3) := by decide +kernel
theorem dX7_number_4 : decode cX7_number 4 = .ok (.istore_n 3, 1) := by decide +kernel
theorem dX7_number_5 : decode cX7_number 5 = .ok (.aload_n 0, 1) := by decide +kernel
theorem dX7_number_6 : decode cX7_number 6 = .ok (.aload_n 0, 1) := by decide +kernel
theorem dX7_number_7 : decode cX7_number 7 = .ok (.getfield 156, 3) := by decide +kernel
theorem dX7_number_10 : decode cX7_number 10 = .ok (.iconst 2, 1) := by decide +kernel
theorem dX7_number_11 : decode cX7_number 11 = .ok (.if_icmp .ne 19, 3) := by decide +kernel
theorem dX7_number_14 : decode cX7_number 14 = .ok (.iload_n 3, 1) := by decide +kernel
theorem dX7_number_15 : decode cX7_number 15 = .ok (.i2l, 1) := by decide +kernel
theorem dX7_number_16 : decode cX7_number 16 = .ok (.iload_n 1, 1) := by decide +kernel
theorem dX7_number_17 : decode cX7_number 17 = .ok (.i2l, 1) := by decide +kernel
theorem dX7_number_18 : decode cX7_number 18 = .ok (.iload_n 2, 1) := by decide +kernel
theorem dX7_number_19 : decode cX7_number 19 = .ok (.i2l, 1) := by decide +kernel
theorem dX7_number_20 : decode cX7_number 20 = .ok (.invokestatic 52, 3) := by decide +kernel
theorem dX7_number_23 : decode cX7_number 23 = .ok (.ifCond .eq 7, 3) := by decide +kernel
theorem dX7_number_26 : decode cX7_number 26 = .ok (.iconst 1, 1) := by decide +kernel
theorem dX7_number_27 : decode cX7_number 27 = .ok (.goto 4, 3) := by decide +kernel
theorem dX7_number_30 : decode cX7_number 30 = .ok (.iconst 0, 1) := by decide +kernel
theorem dX7_number_31 : decode cX7_number 31 = .ok (.invokevirtual 175, 3) := by decide +kernel
theorem dX7_number_34 : decode cX7_number 34 = .ok (.iload_n 3, 1) := by decide +kernel
theorem dX7_number_35 : decode cX7_number 35 = .ok (.ireturn, 1) := by decide +kernel
theorem dX7_readsLimb_0 : decode cX7_readsLimb 0 = .ok (.aload_n 0, 1) := by decide +kernel
theorem dX7_readsLimb_1 : decode cX7_readsLimb 1 = .ok (.aload_n 0, 1) := by decide +kernel
theorem dX7_readsLimb_2 : decode cX7_readsLimb 2 = .ok (.getfield 7, 3) := by decide +kernel
theorem dX7_readsLimb_5 : decode cX7_readsLimb 5 = .ok (.iconst 0, 1) := by decide +kernel
theorem dX7_readsLimb_6 : decode cX7_readsLimb 6 = .ok (.iaload, 1) := by decide +kernel
theorem dX7_readsLimb_7 : decode cX7_readsLimb 7 = .ok (.bipush 7, 2) := by decide +kernel
theorem dX7_readsLimb_9 : decode cX7_readsLimb 9 = .ok (.if_icmp .ge 7, 3) := by decide +kernel
theorem dX7_readsLimb_12 : decode cX7_readsLimb 12 = .ok (.iconst 1, 1) := by decide +kernel
theorem dX7_readsLimb_13 : decode cX7_readsLimb 13 = .ok (.goto 4, 3) := by decide +kernel
theorem dX7_readsLimb_16 : decode cX7_readsLimb 16 = .ok (.iconst 0, 1) := by decide +kernel
theorem dX7_readsLimb_17 : decode cX7_readsLimb 17 = .ok (.invokevirtual 175, 3) := by decide +kernel
theorem dX7_readsLimb_20 : decode cX7_readsLimb 20 = .ok (.aload_n 0, 1) := by decide +kernel
theorem dX7_readsLimb_21 : decode cX7_readsLimb 21 = .ok (.iconst 0, 1) := by decide +kernel
theorem dX7_readsLimb_22 : decode cX7_readsLimb 22 = .ok (.iconst 5, 1) := by decide +kernel
theorem dX7_readsLimb_23 : decode cX7_readsLimb 23 = .ok (.invokevirtual 179, 3) := by decide +kernel
theorem dX7_readsLimb_26 : decode cX7_readsLimb 26 = .ok (.istore_n 1, 1) := by decide +kernel
theorem dX7_readsLimb_27 : decode cX7_readsLimb 27 = .ok (.aload_n 0, 1) := by decide +kernel
theorem dX7_readsLimb_28 : decode cX7_readsLimb 28 = .ok (.iconst 0, 1) := by decide +kernel
theorem dX7_readsLimb_29 : decode cX7_readsLimb 29 = .ok (.iconst 5, 1) := by decide +kernel
theorem dX7_readsLimb_30 : decode cX7_readsLimb 30 = .ok (.invokevirtual 179, 3) := by decide +kernel
theorem dX7_readsLimb_33 : decode cX7_readsLimb 33 = .ok (.istore_n 2, 1) := by decide +kernel
theorem dX7_readsLimb_34 : decode cX7_readsLimb 34 = .ok (.aload_n 0, 1) := by decide +kernel
theorem dX7_readsLimb_35 : decode cX7_readsLimb 35 = .ok (.iconst 1, 1) := by decide +kernel
theorem dX7_readsLimb_36 : decode cX7_readsLimb 36 = .ok (.bipush 9, 2) := by decide +kernel
theorem dX7_readsLimb_38 : decode cX7_readsLimb 38 = .ok (.invokevirtual 179, 3) := by decide +kernel
theorem dX7_readsLimb_41 : decode cX7_readsLimb 41 = .ok (.istore_n 3, 1) := by decide +kernel
theorem dX7_readsLimb_42 : decode cX7_readsLimb 42 = .ok (.aload_n 0, 1) := by decide +kernel
theorem dX7_readsLimb_43 : decode cX7_readsLimb 43 = .ok (.iconst 1, 1) := by decide +kernel
theorem dX7_readsLimb_44 : decode cX7_readsLimb 44 = .ok (.bipush 20, 2) := by decide +kernel
theorem dX7_readsLimb_46 : decode cX7_readsLimb 46 = .ok (.invokevirtual 179, 3) := by decide +kernel
theorem dX7_readsLimb_49 : decode cX7_readsLimb 49 = .ok (.istore 4, 2) := by decide +kernel
theorem dX7_readsLimb_51 : decode cX7_readsLimb 51 = .ok (.aload_n 0, 1) := by decide +kernel
theorem dX7_readsLimb_52 : decode cX7_readsLimb 52 = .ok (.iconst 0, 1) := by decide +kernel
theorem dX7_readsLimb_53 : decode cX7_readsLimb 53 = .ok (.bipush 8, 2) := by decide +kernel
theorem dX7_readsLimb_55 : decode cX7_readsLimb 55 = .ok (.invokevirtual 179, 3) := by decide +kernel
theorem dX7_readsLimb_58 : decode cX7_readsLimb 58 = .ok (.istore 5, 2) := by decide +kernel
theorem dX7_readsLimb_60 : decode cX7_readsLimb 60 = .ok (.aload_n 0, 1) := by decide +kernel
theorem dX7_readsLimb_61 : decode cX7_readsLimb 61 = .ok (.getfield 169, 3) := by decide +kernel
theorem dX7_readsLimb_64 : decode cX7_readsLimb 64 = .ok (.ifCond .ge 14, 3) := by decide +kernel
theorem dX7_readsLimb_67 : decode cX7_readsLimb 67 = .ok (.aload_n 0, 1) := by decide +kernel
theorem dX7_readsLimb_68 : decode cX7_readsLimb 68 = .ok (.iload_n 1, 1) := by decide +kernel
theorem dX7_readsLimb_69 : decode cX7_readsLimb 69 = .ok (.iload_n 2, 1) := by decide +kernel
theorem dX7_readsLimb_70 : decode cX7_readsLimb 70 = .ok (.iload_n 3, 1) := by decide +kernel
theorem dX7_readsLimb_71 : decode cX7_readsLimb 71 = .ok (.iload 4, 2) := by decide +kernel
theorem dX7_readsLimb_73 : decode cX7_readsLimb 73 = .ok (.iload 5, 2) := by decide +kernel
theorem dX7_readsLimb_75 : decode cX7_readsLimb 75 = .ok (.invokevirtual 103, 3) := by decide +kernel
theorem dX7_readsLimb_78 : decode cX7_readsLimb 78 = .ok (.return_, 1) := by decide +kernel
theorem dX7_readsMoves_0 : decode cX7_readsMoves 0 = .ok (.aload_n 0, 1) := by decide +kernel
theorem dX7_readsMoves_1 : decode cX7_readsMoves 1 = .ok (.iconst 1, 1) := by decide +kernel
theorem dX7_readsMoves_2 : decode cX7_readsMoves 2 = .ok (.invokevirtual 175, 3) := by decide +kernel
theorem dX7_readsMoves_5 : decode cX7_readsMoves 5 = .ok (.iconst 0, 1) := by decide +kernel
theorem dX7_readsMoves_6 : decode cX7_readsMoves 6 = .ok (.istore_n 1, 1) := by decide +kernel
theorem dX7_readsMoves_7 : decode cX7_readsMoves 7 = .ok (.aload_n 0, 1) := by decide +kernel
theorem dX7_readsMoves_8 : decode cX7_readsMoves 8 = .ok (.getfield 169, 3) := by decide +kernel
theorem dX7_readsMoves_11 : decode cX7_readsMoves 11 = .ok (.ifCond .ge 73, 3) := by decide +kernel
theorem dX7_readsMoves_14 : decode cX7_readsMoves 14 = .ok (.iload_n 1, 1) := by decide +kernel
theorem dX7_readsMoves_15 : decode cX7_readsMoves 15 = .ok (.ifCond .eq 11, 3) := by decide +kernel
theorem dX7_readsMoves_18 : decode cX7_readsMoves 18 = .ok (.aload_n 0, 1) := by decide +kernel
theorem dX7_readsMoves_19 : decode cX7_readsMoves 19 = .ok (.getfield 156, 3) := by decide +kernel
theorem dX7_readsMoves_22 : decode cX7_readsMoves 22 = .ok (.iconst 3, 1) := by decide +kernel
theorem dX7_readsMoves_23 : decode cX7_readsMoves 23 = .ok (.if_icmp .eq 61, 3) := by decide +kernel
theorem dX7_readsMoves_26 : decode cX7_readsMoves 26 = .ok (.aload_n 0, 1) := by decide +kernel
theorem dX7_readsMoves_27 : decode cX7_readsMoves 27 = .ok (.getfield 162, 3) := by decide +kernel
theorem dX7_readsMoves_30 : decode cX7_readsMoves 30 = .ok (.istore_n 2, 1) := by decide +kernel
theorem dX7_readsMoves_31 : decode cX7_readsMoves 31 = .ok (.aload_n 0, 1) := by decide +kernel
theorem dX7_readsMoves_32 : decode cX7_readsMoves 32 = .ok (.aload_n 0, 1) := by decide +kernel
theorem dX7_readsMoves_33 : decode cX7_readsMoves 33 = .ok (.getfield 156, 3) := by decide +kernel
theorem dX7_readsMoves_36 : decode cX7_readsMoves 36 = .ok (.iconst 2, 1) := by decide +kernel
theorem dX7_readsMoves_37 : decode cX7_readsMoves 37 = .ok (.if_icmp .ne 25, 3) := by decide +kernel
theorem dX7_readsMoves_40 : decode cX7_readsMoves 40 = .ok (.iload_n 2, 1) := by decide +kernel
theorem dX7_readsMoves_41 : decode cX7_readsMoves 41 = .ok (.i2l, 1) := by decide +kernel
theorem dX7_readsMoves_42 : decode cX7_readsMoves 42 = .ok (.lconst 0, 1) := by decide +kernel
theorem dX7_readsMoves_43 : decode cX7_readsMoves 43 = .ok (.ldc2_w 182, 3) := by decide +kernel
theorem dX7_readsMoves_46 : decode cX7_readsMoves 46 = .ok (.invokestatic 52, 3) := by decide +kernel
theorem dX7_readsMoves_49 : decode cX7_readsMoves 49 = .ok (.ifCond .eq 13, 3) := by decide +kernel
theorem dX7_readsMoves_52 : decode cX7_readsMoves 52 = .ok (.iload_n 1, 1) := by decide +kernel
theorem dX7_readsMoves_53 : decode cX7_readsMoves 53 = .ok (.bipush 9, 2) := by decide +kernel
theorem dX7_readsMoves_55 : decode cX7_readsMoves 55 = .ok (.if_icmp .ge 7, 3) := by decide +kernel
theorem dX7_readsMoves_58 : decode cX7_readsMoves 58 = .ok (.iconst 1, 1) := by decide +kernel
theorem dX7_readsMoves_59 : decode cX7_readsMoves 59 = .ok (.goto 4, 3) := by decide +kernel
theorem dX7_readsMoves_62 : decode cX7_readsMoves 62 = .ok (.iconst 0, 1) := by decide +kernel
theorem dX7_readsMoves_63 : decode cX7_readsMoves 63 = .ok (.invokevirtual 175, 3) := by decide +kernel
theorem dX7_readsMoves_66 : decode cX7_readsMoves 66 = .ok (.aload_n 0, 1) := by decide +kernel
theorem dX7_readsMoves_67 : decode cX7_readsMoves 67 = .ok (.getfield 169, 3) := by decide +kernel
theorem dX7_readsMoves_70 : decode cX7_readsMoves 70 = .ok (.ifCond .ge 8, 3) := by decide +kernel
theorem dX7_readsMoves_73 : decode cX7_readsMoves 73 = .ok (.aload_n 0, 1) := by decide +kernel
theorem dX7_readsMoves_74 : decode cX7_readsMoves 74 = .ok (.iload_n 2, 1) := by decide +kernel
theorem dX7_readsMoves_75 : decode cX7_readsMoves 75 = .ok (.invokevirtual 184, 3) := by decide +kernel
theorem dX7_readsMoves_78 : decode cX7_readsMoves 78 = .ok (.iinc 1 1, 3) := by decide +kernel
theorem dX7_readsMoves_81 : decode cX7_readsMoves 81 = .ok (.goto (-74), 3) := by decide +kernel
theorem dX7_readsMoves_84 : decode cX7_readsMoves 84 = .ok (.return_, 1) := by decide +kernel
theorem dX7_readsItem_0 : decode cX7_readsItem 0 = .ok (.aload_n 0, 1) := by decide +kernel
theorem dX7_readsItem_1 : decode cX7_readsItem 1 = .ok (.getfield 156, 3) := by decide +kernel
theorem dX7_readsItem_4 : decode cX7_readsItem 4 = .ok (.iconst 1, 1) := by decide +kernel
theorem dX7_readsItem_5 : decode cX7_readsItem 5 = .ok (.if_icmp .ne 10, 3) := by decide +kernel
theorem dX7_readsItem_8 : decode cX7_readsItem 8 = .ok (.aload_n 0, 1) := by decide +kernel
theorem dX7_readsItem_9 : decode cX7_readsItem 9 = .ok (.getfield 162, 3) := by decide +kernel
theorem dX7_readsItem_12 : decode cX7_readsItem 12 = .ok (.goto 4, 3) := by decide +kernel
theorem dX7_readsItem_15 : decode cX7_readsItem 15 = .ok (.iconst 0, 1) := by decide +kernel
theorem dX7_readsItem_16 : decode cX7_readsItem 16 = .ok (.istore_n 1, 1) := by decide +kernel
theorem dX7_readsItem_17 : decode cX7_readsItem 17 = .ok (.iload_n 1, 1) := by decide +kernel
theorem dX7_readsItem_18 : decode cX7_readsItem 18 = .ok (.iconst 2, 1) := by decide +kernel
theorem dX7_readsItem_19 : decode cX7_readsItem 19 = .ok (.if_icmp .ne 10, 3) := by decide +kernel
theorem dX7_readsItem_22 : decode cX7_readsItem 22 = .ok (.aload_n 0, 1) := by decide +kernel
theorem dX7_readsItem_23 : decode cX7_readsItem 23 = .ok (.invokevirtual 187, 3) := by decide +kernel
theorem dX7_readsItem_26 : decode cX7_readsItem 26 = .ok (.goto 132, 3) := by decide +kernel
theorem dX7_readsItem_29 : decode cX7_readsItem 29 = .ok (.iload_n 1, 1) := by decide +kernel
theorem dX7_readsItem_30 : decode cX7_readsItem 30 = .ok (.iconst 3, 1) := by decide +kernel
theorem dX7_readsItem_31 : decode cX7_readsItem 31 = .ok (.if_icmp .ne 10, 3) := by decide +kernel
theorem dX7_readsItem_34 : decode cX7_readsItem 34 = .ok (.aload_n 0, 1) := by decide +kernel
theorem dX7_readsItem_35 : decode cX7_readsItem 35 = .ok (.invokevirtual 190, 3) := by decide +kernel
theorem dX7_readsItem_38 : decode cX7_readsItem 38 = .ok (.goto 120, 3) := by decide +kernel
theorem dX7_readsItem_41 : decode cX7_readsItem 41 = .ok (.iload_n 1, 1) := by decide +kernel
theorem dX7_readsItem_42 : decode cX7_readsItem 42 = .ok (.iconst 4, 1) := by decide +kernel
theorem dX7_readsItem_43 : decode cX7_readsItem 43 = .ok (.if_icmp .ne 61, 3) := by decide +kernel
theorem dX7_readsItem_46 : decode cX7_readsItem 46 = .ok (.aload_n 0, 1) := by decide +kernel
theorem dX7_readsItem_47 : decode cX7_readsItem 47 = .ok (.iconst 1, 1) := by decide +kernel
theorem dX7_readsItem_48 : decode cX7_readsItem 48 = .ok (.invokevirtual 175, 3) := by decide +kernel
theorem dX7_readsItem_51 : decode cX7_readsItem 51 = .ok (.aload_n 0, 1) := by decide +kernel
theorem dX7_readsItem_52 : decode cX7_readsItem 52 = .ok (.getfield 162, 3) := by decide +kernel
theorem dX7_readsItem_55 : decode cX7_readsItem 55 = .ok (.istore_n 2, 1) := by decide +kernel
theorem dX7_readsItem_56 : decode cX7_readsItem 56 = .ok (.aload_n 0, 1) := by decide +kernel
theorem dX7_readsItem_57 : decode cX7_readsItem 57 = .ok (.aload_n 0, 1) := by decide +kernel
theorem dX7_readsItem_58 : decode cX7_readsItem 58 = .ok (.getfield 156, 3) := by decide +kernel
theorem dX7_readsItem_61 : decode cX7_readsItem 61 = .ok (.iconst 2, 1) := by decide +kernel
theorem dX7_readsItem_62 : decode cX7_readsItem 62 = .ok (.if_icmp .ne 23, 3) := by decide +kernel
theorem dX7_readsItem_65 : decode cX7_readsItem 65 = .ok (.aload_n 0, 1) := by decide +kernel
theorem dX7_readsItem_66 : decode cX7_readsItem 66 = .ok (.iload_n 2, 1) := by decide +kernel
theorem dX7_readsItem_67 : decode cX7_readsItem 67 = .ok (.invokevirtual 193, 3) := by decide +kernel
theorem dX7_readsItem_70 : decode cX7_readsItem 70 = .ok (.ifCond .eq 15, 3) := by decide +kernel
theorem dX7_readsItem_73 : decode cX7_readsItem 73 = .ok (.aload_n 0, 1) := by decide +kernel
theorem dX7_readsItem_74 : decode cX7_readsItem 74 = .ok (.iload_n 2, 1) := by decide +kernel
theorem dX7_readsItem_75 : decode cX7_readsItem 75 = .ok (.invokevirtual 60, 3) := by decide +kernel
theorem dX7_readsItem_78 : decode cX7_readsItem 78 = .ok (.ifCond .eq 7, 3) := by decide +kernel
theorem dX7_readsItem_81 : decode cX7_readsItem 81 = .ok (.iconst 1, 1) := by decide +kernel
theorem dX7_readsItem_82 : decode cX7_readsItem 82 = .ok (.goto 4, 3) := by decide +kernel
theorem dX7_readsItem_85 : decode cX7_readsItem 85 = .ok (.iconst 0, 1) := by decide +kernel
theorem dX7_readsItem_86 : decode cX7_readsItem 86 = .ok (.invokevirtual 175, 3) := by decide +kernel
theorem dX7_readsItem_89 : decode cX7_readsItem 89 = .ok (.aload_n 0, 1) := by decide +kernel
theorem dX7_readsItem_90 : decode cX7_readsItem 90 = .ok (.getfield 169, 3) := by decide +kernel
theorem dX7_readsItem_93 : decode cX7_readsItem 93 = .ok (.ifCond .ge 8, 3) := by decide +kernel
theorem dX7_readsItem_96 : decode cX7_readsItem 96 = .ok (.aload_n 0, 1) := by decide +kernel
theorem dX7_readsItem_97 : decode cX7_readsItem 97 = .ok (.iload_n 2, 1) := by decide +kernel
theorem dX7_readsItem_98 : decode cX7_readsItem 98 = .ok (.invokevirtual 196, 3) := by decide +kernel
theorem dX7_readsItem_101 : decode cX7_readsItem 101 = .ok (.goto 57, 3) := by decide +kernel
theorem dX7_readsItem_104 : decode cX7_readsItem 104 = .ok (.iload_n 1, 1) := by decide +kernel
theorem dX7_readsItem_105 : decode cX7_readsItem 105 = .ok (.iconst 5, 1) := by decide +kernel
theorem dX7_readsItem_106 : decode cX7_readsItem 106 = .ok (.if_icmp .ne 47, 3) := by decide +kernel
theorem dX7_readsItem_109 : decode cX7_readsItem 109 = .ok (.aload_n 0, 1) := by decide +kernel
theorem dX7_readsItem_110 : decode cX7_readsItem 110 = .ok (.iconst 1, 1) := by decide +kernel
theorem dX7_readsItem_111 : decode cX7_readsItem 111 = .ok (.invokevirtual 175, 3) := by decide +kernel
theorem dX7_readsItem_114 : decode cX7_readsItem 114 = .ok (.aload_n 0, 1) := by decide +kernel
theorem dX7_readsItem_115 : decode cX7_readsItem 115 = .ok (.iconst 0, 1) := by decide +kernel
theorem dX7_readsItem_116 : decode cX7_readsItem 116 = .ok (.aload_n 0, 1) := by decide +kernel
theorem dX7_readsItem_117 : decode cX7_readsItem 117 = .ok (.getfield 7, 3) := by decide +kernel
theorem dX7_readsItem_120 : decode cX7_readsItem 120 = .ok (.iconst 0, 1) := by decide +kernel
theorem dX7_readsItem_121 : decode cX7_readsItem 121 = .ok (.iaload, 1) := by decide +kernel
theorem dX7_readsItem_122 : decode cX7_readsItem 122 = .ok (.iconst 1, 1) := by decide +kernel
theorem dX7_readsItem_123 : decode cX7_readsItem 123 = .ok (.isub, 1) := by decide +kernel
theorem dX7_readsItem_124 : decode cX7_readsItem 124 = .ok (.invokevirtual 179, 3) := by decide +kernel
theorem dX7_readsItem_127 : decode cX7_readsItem 127 = .ok (.istore_n 2, 1) := by decide +kernel
theorem dX7_readsItem_128 : decode cX7_readsItem 128 = .ok (.aload_n 0, 1) := by decide +kernel
theorem dX7_readsItem_129 : decode cX7_readsItem 129 = .ok (.iconst 0, 1) := by decide +kernel
theorem dX7_readsItem_130 : decode cX7_readsItem 130 = .ok (.bipush 8, 2) := by decide +kernel
theorem dX7_readsItem_132 : decode cX7_readsItem 132 = .ok (.invokevirtual 179, 3) := by decide +kernel
theorem dX7_readsItem_135 : decode cX7_readsItem 135 = .ok (.istore_n 3, 1) := by decide +kernel
theorem dX7_readsItem_136 : decode cX7_readsItem 136 = .ok (.aload_n 0, 1) := by decide +kernel
theorem dX7_readsItem_137 : decode cX7_readsItem 137 = .ok (.getfield 169, 3) := by decide +kernel
theorem dX7_readsItem_140 : decode cX7_readsItem 140 = .ok (.ifCond .ge 10, 3) := by decide +kernel
theorem dX7_readsItem_143 : decode cX7_readsItem 143 = .ok (.aload_n 0, 1) := by decide +kernel
theorem dX7_readsItem_144 : decode cX7_readsItem 144 = .ok (.iload_n 2, 1) := by decide +kernel
theorem dX7_readsItem_145 : decode cX7_readsItem 145 = .ok (.iconst 4, 1) := by decide +kernel
theorem dX7_readsItem_146 : decode cX7_readsItem 146 = .ok (.iload_n 3, 1) := by decide +kernel
theorem dX7_readsItem_147 : decode cX7_readsItem 147 = .ok (.invokevirtual 75, 3) := by decide +kernel
theorem dX7_readsItem_150 : decode cX7_readsItem 150 = .ok (.goto 8, 3) := by decide +kernel
theorem dX7_readsItem_153 : decode cX7_readsItem 153 = .ok (.aload_n 0, 1) := by decide +kernel
theorem dX7_readsItem_154 : decode cX7_readsItem 154 = .ok (.iconst 0, 1) := by decide +kernel
theorem dX7_readsItem_155 : decode cX7_readsItem 155 = .ok (.invokevirtual 175, 3) := by decide +kernel
theorem dX7_readsItem_158 : decode cX7_readsItem 158 = .ok (.aload_n 0, 1) := by decide +kernel
theorem dX7_readsItem_159 : decode cX7_readsItem 159 = .ok (.aload_n 0, 1) := by decide +kernel
theorem dX7_readsItem_160 : decode cX7_readsItem 160 = .ok (.getfield 156, 3) := by decide +kernel
theorem dX7_readsItem_163 : decode cX7_readsItem 163 = .ok (.iconst 3, 1) := by decide +kernel
theorem dX7_readsItem_164 : decode cX7_readsItem 164 = .ok (.if_icmp .ne 7, 3) := by decide +kernel
theorem dX7_readsItem_167 : decode cX7_readsItem 167 = .ok (.iconst 1, 1) := by decide +kernel
theorem dX7_readsItem_168 : decode cX7_readsItem 168 = .ok (.goto 4, 3) := by decide +kernel
theorem dX7_readsItem_171 : decode cX7_readsItem 171 = .ok (.iconst 0, 1) := by decide +kernel
theorem dX7_readsItem_172 : decode cX7_readsItem 172 = .ok (.invokevirtual 175, 3) := by decide +kernel
theorem dX7_readsItem_175 : decode cX7_readsItem 175 = .ok (.return_, 1) := by decide +kernel
theorem dX7_read_0 : decode cX7_read 0 = .ok (.iconst 0, 1) := by decide +kernel
theorem dX7_read_1 : decode cX7_read 1 = .ok (.istore_n 1, 1) := by decide +kernel
theorem dX7_read_2 : decode cX7_read 2 = .ok (.iload_n 1, 1) := by decide +kernel
theorem dX7_read_3 : decode cX7_read 3 = .ok (.sipush 340, 3) := by decide +kernel
theorem dX7_read_6 : decode cX7_read 6 = .ok (.if_icmp .ge 21, 3) := by decide +kernel
theorem dX7_read_9 : decode cX7_read 9 = .ok (.aload_n 0, 1) := by decide +kernel
theorem dX7_read_10 : decode cX7_read 10 = .ok (.getfield 20, 3) := by decide +kernel
theorem dX7_read_13 : decode cX7_read 13 = .ok (.iload_n 1, 1) := by decide +kernel
theorem dX7_read_14 : decode cX7_read 14 = .ok (.aload_n 0, 1) := by decide +kernel
theorem dX7_read_15 : decode cX7_read 15 = .ok (.getfield 7, 3) := by decide +kernel
theorem dX7_read_18 : decode cX7_read 18 = .ok (.iload_n 1, 1) := by decide +kernel
theorem dX7_read_19 : decode cX7_read 19 = .ok (.iaload, 1) := by decide +kernel
theorem dX7_read_20 : decode cX7_read 20 = .ok (.iastore, 1) := by decide +kernel
theorem dX7_read_21 : decode cX7_read 21 = .ok (.iinc 1 1, 3) := by decide +kernel
theorem dX7_read_24 : decode cX7_read 24 = .ok (.goto (-22), 3) := by decide +kernel
theorem dX7_read_27 : decode cX7_read 27 = .ok (.aload_n 0, 1) := by decide +kernel
theorem dX7_read_28 : decode cX7_read 28 = .ok (.iconst 0, 1) := by decide +kernel
theorem dX7_read_29 : decode cX7_read 29 = .ok (.putfield 144, 3) := by decide +kernel
theorem dX7_read_32 : decode cX7_read 32 = .ok (.aload_n 0, 1) := by decide +kernel
theorem dX7_read_33 : decode cX7_read 33 = .ok (.iconst (-1), 1) := by decide +kernel
theorem dX7_read_34 : decode cX7_read 34 = .ok (.putfield 169, 3) := by decide +kernel
theorem dX7_read_37 : decode cX7_read 37 = .ok (.aload_n 0, 1) := by decide +kernel
theorem dX7_read_38 : decode cX7_read 38 = .ok (.invokevirtual 172, 3) := by decide +kernel
theorem dX7_read_41 : decode cX7_read 41 = .ok (.aload_n 0, 1) := by decide +kernel
theorem dX7_read_42 : decode cX7_read 42 = .ok (.aload_n 0, 1) := by decide +kernel
theorem dX7_read_43 : decode cX7_read 43 = .ok (.getfield 156, 3) := by decide +kernel
theorem dX7_read_46 : decode cX7_read 46 = .ok (.iconst 1, 1) := by decide +kernel
theorem dX7_read_47 : decode cX7_read 47 = .ok (.if_icmp .ne 15, 3) := by decide +kernel
theorem dX7_read_50 : decode cX7_read 50 = .ok (.aload_n 0, 1) := by decide +kernel
theorem dX7_read_51 : decode cX7_read 51 = .ok (.getfield 162, 3) := by decide +kernel
theorem dX7_read_54 : decode cX7_read 54 = .ok (.iconst 1, 1) := by decide +kernel
theorem dX7_read_55 : decode cX7_read 55 = .ok (.if_icmp .ne 7, 3) := by decide +kernel
theorem dX7_read_58 : decode cX7_read 58 = .ok (.iconst 1, 1) := by decide +kernel
theorem dX7_read_59 : decode cX7_read 59 = .ok (.goto 4, 3) := by decide +kernel
theorem dX7_read_62 : decode cX7_read 62 = .ok (.iconst 0, 1) := by decide +kernel
theorem dX7_read_63 : decode cX7_read 63 = .ok (.invokevirtual 175, 3) := by decide +kernel
theorem dX7_read_66 : decode cX7_read 66 = .ok (.aload_n 0, 1) := by decide +kernel
theorem dX7_read_67 : decode cX7_read 67 = .ok (.iconst 0, 1) := by decide +kernel
theorem dX7_read_68 : decode cX7_read 68 = .ok (.bipush 40, 2) := by decide +kernel
theorem dX7_read_70 : decode cX7_read 70 = .ok (.invokevirtual 179, 3) := by decide +kernel
theorem dX7_read_73 : decode cX7_read 73 = .ok (.istore_n 1, 1) := by decide +kernel
theorem dX7_read_74 : decode cX7_read 74 = .ok (.aload_n 0, 1) := by decide +kernel
theorem dX7_read_75 : decode cX7_read 75 = .ok (.aload_n 0, 1) := by decide +kernel
theorem dX7_read_76 : decode cX7_read 76 = .ok (.getfield 156, 3) := by decide +kernel
theorem dX7_read_79 : decode cX7_read 79 = .ok (.iconst 3, 1) := by decide +kernel
theorem dX7_read_80 : decode cX7_read 80 = .ok (.if_icmp .ne 7, 3) := by decide +kernel
theorem dX7_read_83 : decode cX7_read 83 = .ok (.iconst 1, 1) := by decide +kernel
theorem dX7_read_84 : decode cX7_read 84 = .ok (.goto 4, 3) := by decide +kernel
theorem dX7_read_87 : decode cX7_read 87 = .ok (.iconst 0, 1) := by decide +kernel
theorem dX7_read_88 : decode cX7_read 88 = .ok (.invokevirtual 175, 3) := by decide +kernel
theorem dX7_read_91 : decode cX7_read 91 = .ok (.iconst 1, 1) := by decide +kernel
theorem dX7_read_92 : decode cX7_read 92 = .ok (.istore_n 2, 1) := by decide +kernel
theorem dX7_read_93 : decode cX7_read 93 = .ok (.aload_n 0, 1) := by decide +kernel
theorem dX7_read_94 : decode cX7_read 94 = .ok (.getfield 169, 3) := by decide +kernel
theorem dX7_read_97 : decode cX7_read 97 = .ok (.ifCond .ge 8, 3) := by decide +kernel
theorem dX7_read_100 : decode cX7_read 100 = .ok (.aload_n 0, 1) := by decide +kernel
theorem dX7_read_101 : decode cX7_read 101 = .ok (.iload_n 1, 1) := by decide +kernel
theorem dX7_read_102 : decode cX7_read 102 = .ok (.invokevirtual 38, 3) := by decide +kernel
theorem dX7_read_105 : decode cX7_read 105 = .ok (.aload_n 0, 1) := by decide +kernel
theorem dX7_read_106 : decode cX7_read 106 = .ok (.getfield 169, 3) := by decide +kernel
theorem dX7_read_109 : decode cX7_read 109 = .ok (.ifCond .ge 21, 3) := by decide +kernel
theorem dX7_read_112 : decode cX7_read 112 = .ok (.aload_n 0, 1) := by decide +kernel
theorem dX7_read_113 : decode cX7_read 113 = .ok (.getfield 156, 3) := by decide +kernel
theorem dX7_read_116 : decode cX7_read 116 = .ok (.iconst 4, 1) := by decide +kernel
theorem dX7_read_117 : decode cX7_read 117 = .ok (.if_icmp .eq 13, 3) := by decide +kernel
theorem dX7_read_120 : decode cX7_read 120 = .ok (.aload_n 0, 1) := by decide +kernel
theorem dX7_read_121 : decode cX7_read 121 = .ok (.invokevirtual 199, 3) := by decide +kernel
theorem dX7_read_124 : decode cX7_read 124 = .ok (.iinc 2 1, 3) := by decide +kernel
theorem dX7_read_127 : decode cX7_read 127 = .ok (.goto (-22), 3) := by decide +kernel
theorem dX7_read_130 : decode cX7_read 130 = .ok (.aload_n 0, 1) := by decide +kernel
theorem dX7_read_131 : decode cX7_read 131 = .ok (.getfield 169, 3) := by decide +kernel
theorem dX7_read_134 : decode cX7_read 134 = .ok (.ifCond .ge 14, 3) := by decide +kernel
theorem dX7_read_137 : decode cX7_read 137 = .ok (.aload_n 0, 1) := by decide +kernel
theorem dX7_read_138 : decode cX7_read 138 = .ok (.getfield 7, 3) := by decide +kernel
theorem dX7_read_141 : decode cX7_read 141 = .ok (.sipush 147, 3) := by decide +kernel
theorem dX7_read_144 : decode cX7_read 144 = .ok (.iconst 0, 1) := by decide +kernel
theorem dX7_read_145 : decode cX7_read 145 = .ok (.iastore, 1) := by decide +kernel
theorem dX7_read_146 : decode cX7_read 146 = .ok (.iload_n 2, 1) := by decide +kernel
theorem dX7_read_147 : decode cX7_read 147 = .ok (.ireturn, 1) := by decide +kernel
theorem dX7_read_148 : decode cX7_read 148 = .ok (.iconst 0, 1) := by decide +kernel
theorem dX7_read_149 : decode cX7_read 149 = .ok (.istore_n 3, 1) := by decide +kernel
theorem dX7_read_150 : decode cX7_read 150 = .ok (.iload_n 3, 1) := by decide +kernel
theorem dX7_read_151 : decode cX7_read 151 = .ok (.sipush 340, 3) := by decide +kernel
theorem dX7_read_154 : decode cX7_read 154 = .ok (.if_icmp .ge 21, 3) := by decide +kernel
theorem dX7_read_157 : decode cX7_read 157 = .ok (.aload_n 0, 1) := by decide +kernel
theorem dX7_read_158 : decode cX7_read 158 = .ok (.getfield 7, 3) := by decide +kernel
theorem dX7_read_161 : decode cX7_read 161 = .ok (.iload_n 3, 1) := by decide +kernel
theorem dX7_read_162 : decode cX7_read 162 = .ok (.aload_n 0, 1) := by decide +kernel
theorem dX7_read_163 : decode cX7_read 163 = .ok (.getfield 20, 3) := by decide +kernel
theorem dX7_read_166 : decode cX7_read 166 = .ok (.iload_n 3, 1) := by decide +kernel
theorem dX7_read_167 : decode cX7_read 167 = .ok (.iaload, 1) := by decide +kernel
theorem dX7_read_168 : decode cX7_read 168 = .ok (.iastore, 1) := by decide +kernel
theorem dX7_read_169 : decode cX7_read 169 = .ok (.iinc 3 1, 3) := by decide +kernel
theorem dX7_read_172 : decode cX7_read 172 = .ok (.goto (-22), 3) := by decide +kernel
theorem dX7_read_175 : decode cX7_read 175 = .ok (.bipush (-10), 2) := by decide +kernel
theorem dX7_read_177 : decode cX7_read 177 = .ok (.aload_n 0, 1) := by decide +kernel
theorem dX7_read_178 : decode cX7_read 178 = .ok (.getfield 169, 3) := by decide +kernel
theorem dX7_read_181 : decode cX7_read 181 = .ok (.isub, 1) := by decide +kernel
theorem dX7_read_182 : decode cX7_read 182 = .ok (.ireturn, 1) := by decide +kernel
theorem dX7_notes_0 : decode cX7_notes 0 = .ok (.aload_n 0, 1) := by decide +kernel
theorem dX7_notes_1 : decode cX7_notes 1 = .ok (.getfield 7, 3) := by decide +kernel
theorem dX7_notes_4 : decode cX7_notes 4 = .ok (.sipush 147, 3) := by decide +kernel
theorem dX7_notes_7 : decode cX7_notes 7 = .ok (.iaload, 1) := by decide +kernel
theorem dX7_notes_8 : decode cX7_notes 8 = .ok (.bipush 8, 2) := by decide +kernel
theorem dX7_notes_10 : decode cX7_notes 10 = .ok (.if_icmp .ne 45, 3) := by decide +kernel
theorem dX7_notes_13 : decode cX7_notes 13 = .ok (.sipush 172, 3) := by decide +kernel
theorem dX7_notes_16 : decode cX7_notes 16 = .ok (.istore_n 1, 1) := by decide +kernel
theorem dX7_notes_17 : decode cX7_notes 17 = .ok (.iload_n 1, 1) := by decide +kernel
theorem dX7_notes_18 : decode cX7_notes 18 = .ok (.sipush 340, 3) := by decide +kernel
theorem dX7_notes_21 : decode cX7_notes 21 = .ok (.if_icmp .ge 24, 3) := by decide +kernel
theorem dX7_notes_24 : decode cX7_notes 24 = .ok (.aload_n 0, 1) := by decide +kernel
theorem dX7_notes_25 : decode cX7_notes 25 = .ok (.getfield 7, 3) := by decide +kernel
theorem dX7_notes_28 : decode cX7_notes 28 = .ok (.iload_n 1, 1) := by decide +kernel
theorem dX7_notes_29 : decode cX7_notes 29 = .ok (.bipush 24, 2) := by decide +kernel
theorem dX7_notes_31 : decode cX7_notes 31 = .ok (.isub, 1) := by decide +kernel
theorem dX7_notes_32 : decode cX7_notes 32 = .ok (.aload_n 0, 1) := by decide +kernel
theorem dX7_notes_33 : decode cX7_notes 33 = .ok (.getfield 7, 3) := by decide +kernel
theorem dX7_notes_36 : decode cX7_notes 36 = .ok (.iload_n 1, 1) := by decide +kernel
theorem dX7_notes_37 : decode cX7_notes 37 = .ok (.iaload, 1) := by decide +kernel
theorem dX7_notes_38 : decode cX7_notes 38 = .ok (.iastore, 1) := by decide +kernel
theorem dX7_notes_39 : decode cX7_notes 39 = .ok (.iinc 1 1, 3) := by decide +kernel
theorem dX7_notes_42 : decode cX7_notes 42 = .ok (.goto (-25), 3) := by decide +kernel
theorem dX7_notes_45 : decode cX7_notes 45 = .ok (.aload_n 0, 1) := by decide +kernel
theorem dX7_notes_46 : decode cX7_notes 46 = .ok (.getfield 7, 3) := by decide +kernel
theorem dX7_notes_49 : decode cX7_notes 49 = .ok (.sipush 147, 3) := by decide +kernel
theorem dX7_notes_52 : decode cX7_notes 52 = .ok (.bipush 7, 2) := by decide +kernel
theorem dX7_notes_54 : decode cX7_notes 54 = .ok (.iastore, 1) := by decide +kernel
theorem dX7_notes_55 : decode cX7_notes 55 = .ok (.sipush 148, 3) := by decide +kernel
theorem dX7_notes_58 : decode cX7_notes 58 = .ok (.bipush 24, 2) := by decide +kernel
theorem dX7_notes_60 : decode cX7_notes 60 = .ok (.aload_n 0, 1) := by decide +kernel
theorem dX7_notes_61 : decode cX7_notes 61 = .ok (.getfield 7, 3) := by decide +kernel
theorem dX7_notes_64 : decode cX7_notes 64 = .ok (.sipush 147, 3) := by decide +kernel
theorem dX7_notes_67 : decode cX7_notes 67 = .ok (.iaload, 1) := by decide +kernel
theorem dX7_notes_68 : decode cX7_notes 68 = .ok (.imul, 1) := by decide +kernel
theorem dX7_notes_69 : decode cX7_notes 69 = .ok (.iadd, 1) := by decide +kernel
theorem dX7_notes_70 : decode cX7_notes 70 = .ok (.istore_n 1, 1) := by decide +kernel
theorem dX7_notes_71 : decode cX7_notes 71 = .ok (.iconst 0, 1) := by decide +kernel
theorem dX7_notes_72 : decode cX7_notes 72 = .ok (.istore_n 2, 1) := by decide +kernel
theorem dX7_notes_73 : decode cX7_notes 73 = .ok (.iload_n 2, 1) := by decide +kernel
theorem dX7_notes_74 : decode cX7_notes 74 = .ok (.iconst 3, 1) := by decide +kernel
theorem dX7_notes_75 : decode cX7_notes 75 = .ok (.if_icmp .ge 25, 3) := by decide +kernel
theorem dX7_notes_78 : decode cX7_notes 78 = .ok (.aload_n 0, 1) := by decide +kernel
theorem dX7_notes_79 : decode cX7_notes 79 = .ok (.getfield 7, 3) := by decide +kernel
theorem dX7_notes_82 : decode cX7_notes 82 = .ok (.iload_n 1, 1) := by decide +kernel
theorem dX7_notes_83 : decode cX7_notes 83 = .ok (.iload_n 2, 1) := by decide +kernel
theorem dX7_notes_84 : decode cX7_notes 84 = .ok (.iadd, 1) := by decide +kernel
theorem dX7_notes_85 : decode cX7_notes 85 = .ok (.aload_n 0, 1) := by decide +kernel
theorem dX7_notes_86 : decode cX7_notes 86 = .ok (.getfield 7, 3) := by decide +kernel
theorem dX7_notes_89 : decode cX7_notes 89 = .ok (.iconst 1, 1) := by decide +kernel
theorem dX7_notes_90 : decode cX7_notes 90 = .ok (.iload_n 2, 1) := by decide +kernel
theorem dX7_notes_91 : decode cX7_notes 91 = .ok (.iadd, 1) := by decide +kernel
theorem dX7_notes_92 : decode cX7_notes 92 = .ok (.iaload, 1) := by decide +kernel
theorem dX7_notes_93 : decode cX7_notes 93 = .ok (.iastore, 1) := by decide +kernel
theorem dX7_notes_94 : decode cX7_notes 94 = .ok (.iinc 2 1, 3) := by decide +kernel
theorem dX7_notes_97 : decode cX7_notes 97 = .ok (.goto (-24), 3) := by decide +kernel
theorem dX7_notes_100 : decode cX7_notes 100 = .ok (.iconst 0, 1) := by decide +kernel
theorem dX7_notes_101 : decode cX7_notes 101 = .ok (.istore_n 2, 1) := by decide +kernel
theorem dX7_notes_102 : decode cX7_notes 102 = .ok (.iload_n 2, 1) := by decide +kernel
theorem dX7_notes_103 : decode cX7_notes 103 = .ok (.bipush 7, 2) := by decide +kernel
theorem dX7_notes_105 : decode cX7_notes 105 = .ok (.if_icmp .ge 44, 3) := by decide +kernel
theorem dX7_notes_108 : decode cX7_notes 108 = .ok (.iconst 0, 1) := by decide +kernel
theorem dX7_notes_109 : decode cX7_notes 109 = .ok (.istore_n 3, 1) := by decide +kernel
theorem dX7_notes_110 : decode cX7_notes 110 = .ok (.iload_n 3, 1) := by decide +kernel
theorem dX7_notes_111 : decode cX7_notes 111 = .ok (.iconst 3, 1) := by decide +kernel
theorem dX7_notes_112 : decode cX7_notes 112 = .ok (.if_icmp .ge 31, 3) := by decide +kernel
theorem dX7_notes_115 : decode cX7_notes 115 = .ok (.aload_n 0, 1) := by decide +kernel
theorem dX7_notes_116 : decode cX7_notes 116 = .ok (.getfield 7, 3) := by decide +kernel
theorem dX7_notes_119 : decode cX7_notes 119 = .ok (.iload_n 1, 1) := by decide +kernel
theorem dX7_notes_120 : decode cX7_notes 120 = .ok (.iconst 3, 1) := by decide +kernel
theorem dX7_notes_121 : decode cX7_notes 121 = .ok (.iadd, 1) := by decide +kernel
theorem dX7_notes_122 : decode cX7_notes 122 = .ok (.iconst 3, 1) := by decide +kernel
theorem dX7_notes_123 : decode cX7_notes 123 = .ok (.iload_n 2, 1) := by decide +kernel
theorem dX7_notes_124 : decode cX7_notes 124 = .ok (.imul, 1) := by decide +kernel
theorem dX7_notes_125 : decode cX7_notes 125 = .ok (.iadd, 1) := by decide +kernel
theorem dX7_notes_126 : decode cX7_notes 126 = .ok (.iload_n 3, 1) := by decide +kernel
theorem dX7_notes_127 : decode cX7_notes 127 = .ok (.iadd, 1) := by decide +kernel
theorem dX7_notes_128 : decode cX7_notes 128 = .ok (.aload_n 0, 1) := by decide +kernel
theorem dX7_notes_129 : decode cX7_notes 129 = .ok (.iload_n 2, 1) := by decide +kernel
theorem dX7_notes_130 : decode cX7_notes 130 = .ok (.iconst 4, 1) := by decide +kernel
theorem dX7_notes_131 : decode cX7_notes 131 = .ok (.iload_n 3, 1) := by decide +kernel
theorem dX7_notes_132 : decode cX7_notes 132 = .ok (.iadd, 1) := by decide +kernel
theorem dX7_notes_133 : decode cX7_notes 133 = .ok (.invokevirtual 56, 3) := by decide +kernel
theorem dX7_notes_136 : decode cX7_notes 136 = .ok (.iastore, 1) := by decide +kernel
theorem dX7_notes_137 : decode cX7_notes 137 = .ok (.iinc 3 1, 3) := by decide +kernel
theorem dX7_notes_140 : decode cX7_notes 140 = .ok (.goto (-30), 3) := by decide +kernel
theorem dX7_notes_143 : decode cX7_notes 143 = .ok (.iinc 2 1, 3) := by decide +kernel
theorem dX7_notes_146 : decode cX7_notes 146 = .ok (.goto (-44), 3) := by decide +kernel
theorem dX7_notes_149 : decode cX7_notes 149 = .ok (.aload_n 0, 1) := by decide +kernel
theorem dX7_notes_150 : decode cX7_notes 150 = .ok (.getfield 7, 3) := by decide +kernel
theorem dX7_notes_153 : decode cX7_notes 153 = .ok (.sipush 147, 3) := by decide +kernel
theorem dX7_notes_156 : decode cX7_notes 156 = .ok (.dup2, 1) := by decide +kernel
theorem dX7_notes_157 : decode cX7_notes 157 = .ok (.iaload, 1) := by decide +kernel
theorem dX7_notes_158 : decode cX7_notes 158 = .ok (.iconst 1, 1) := by decide +kernel
theorem dX7_notes_159 : decode cX7_notes 159 = .ok (.iadd, 1) := by decide +kernel
theorem dX7_notes_160 : decode cX7_notes 160 = .ok (.iastore, 1) := by decide +kernel
theorem dX7_notes_161 : decode cX7_notes 161 = .ok (.return_, 1) := by decide +kernel
theorem dX7_moves_0 : decode cX7_moves 0 = .ok (.iload_n 1, 1) := by decide +kernel
theorem dX7_moves_1 : decode cX7_moves 1 = .ok (.i2l, 1) := by decide +kernel
theorem dX7_moves_2 : decode cX7_moves 2 = .ok (.lconst 0, 1) := by decide +kernel
theorem dX7_moves_3 : decode cX7_moves 3 = .ok (.ldc2_w 182, 3) := by decide +kernel
theorem dX7_moves_6 : decode cX7_moves 6 = .ok (.invokestatic 52, 3) := by decide +kernel
theorem dX7_moves_9 : decode cX7_moves 9 = .ok (.ifCond .ne 8, 3) := by decide +kernel
theorem dX7_moves_12 : decode cX7_moves 12 = .ok (.aload_n 0, 1) := by decide +kernel
theorem dX7_moves_13 : decode cX7_moves 13 = .ok (.invokevirtual 84, 3) := by decide +kernel
theorem dX7_moves_16 : decode cX7_moves 16 = .ok (.ireturn, 1) := by decide +kernel
theorem dX7_moves_17 : decode cX7_moves 17 = .ok (.aload_n 0, 1) := by decide +kernel
theorem dX7_moves_18 : decode cX7_moves 18 = .ok (.getfield 7, 3) := by decide +kernel
theorem dX7_moves_21 : decode cX7_moves 21 = .ok (.iconst 3, 1) := by decide +kernel
theorem dX7_moves_22 : decode cX7_moves 22 = .ok (.iaload, 1) := by decide +kernel
theorem dX7_moves_23 : decode cX7_moves 23 = .ok (.sipush 9999, 3) := by decide +kernel
theorem dX7_moves_26 : decode cX7_moves 26 = .ok (.if_icmp .ne 8, 3) := by decide +kernel
theorem dX7_moves_29 : decode cX7_moves 29 = .ok (.aload_n 0, 1) := by decide +kernel
theorem dX7_moves_30 : decode cX7_moves 30 = .ok (.invokevirtual 202, 3) := by decide +kernel
theorem dX7_moves_33 : decode cX7_moves 33 = .ok (.ireturn, 1) := by decide +kernel
theorem dX7_moves_34 : decode cX7_moves 34 = .ok (.aload_n 0, 1) := by decide +kernel
theorem dX7_moves_35 : decode cX7_moves 35 = .ok (.invokevirtual 205, 3) := by decide +kernel
theorem dX7_moves_38 : decode cX7_moves 38 = .ok (.aload_n 0, 1) := by decide +kernel
theorem dX7_moves_39 : decode cX7_moves 39 = .ok (.iload_n 1, 1) := by decide +kernel
theorem dX7_moves_40 : decode cX7_moves 40 = .ok (.invokevirtual 184, 3) := by decide +kernel
theorem dX7_moves_43 : decode cX7_moves 43 = .ok (.aload_n 0, 1) := by decide +kernel
theorem dX7_moves_44 : decode cX7_moves 44 = .ok (.invokevirtual 208, 3) := by decide +kernel
theorem dX7_moves_47 : decode cX7_moves 47 = .ok (.ireturn, 1) := by decide +kernel
theorem dX7_unsnaps_0 : decode cX7_unsnaps 0 = .ok (.aload_n 0, 1) := by decide +kernel
theorem dX7_unsnaps_1 : decode cX7_unsnaps 1 = .ok (.iload_n 1, 1) := by decide +kernel
theorem dX7_unsnaps_2 : decode cX7_unsnaps 2 = .ok (.iconst 5, 1) := by decide +kernel
theorem dX7_unsnaps_3 : decode cX7_unsnaps 3 = .ok (.iconst 0, 1) := by decide +kernel
theorem dX7_unsnaps_4 : decode cX7_unsnaps 4 = .ok (.invokevirtual 75, 3) := by decide +kernel
theorem dX7_unsnaps_7 : decode cX7_unsnaps 7 = .ok (.aload_n 0, 1) := by decide +kernel
theorem dX7_unsnaps_8 : decode cX7_unsnaps 8 = .ok (.iload_n 1, 1) := by decide +kernel
theorem dX7_unsnaps_9 : decode cX7_unsnaps 9 = .ok (.bipush 6, 2) := by decide +kernel
theorem dX7_unsnaps_11 : decode cX7_unsnaps 11 = .ok (.iconst 0, 1) := by decide +kernel
theorem dX7_unsnaps_12 : decode cX7_unsnaps 12 = .ok (.invokevirtual 75, 3) := by decide +kernel
theorem dX7_unsnaps_15 : decode cX7_unsnaps 15 = .ok (.return_, 1) := by decide +kernel
theorem dX7_ties_0 : decode cX7_ties 0 = .ok (.aload_n 0, 1) := by decide +kernel
theorem dX7_ties_1 : decode cX7_ties 1 = .ok (.iload_n 1, 1) := by decide +kernel
theorem dX7_ties_2 : decode cX7_ties 2 = .ok (.invokevirtual 193, 3) := by decide +kernel
theorem dX7_ties_5 : decode cX7_ties 5 = .ok (.ifCond .ne 8, 3) := by decide +kernel
theorem dX7_ties_8 : decode cX7_ties 8 = .ok (.aload_n 0, 1) := by decide +kernel
theorem dX7_ties_9 : decode cX7_ties 9 = .ok (.invokevirtual 84, 3) := by decide +kernel
theorem dX7_ties_12 : decode cX7_ties 12 = .ok (.ireturn, 1) := by decide +kernel
theorem dX7_ties_13 : decode cX7_ties 13 = .ok (.aload_n 0, 1) := by decide +kernel
theorem dX7_ties_14 : decode cX7_ties 14 = .ok (.iload_n 1, 1) := by decide +kernel
theorem dX7_ties_15 : decode cX7_ties 15 = .ok (.invokevirtual 60, 3) := by decide +kernel
theorem dX7_ties_18 : decode cX7_ties 18 = .ok (.ifCond .ne 8, 3) := by decide +kernel
theorem dX7_ties_21 : decode cX7_ties 21 = .ok (.aload_n 0, 1) := by decide +kernel
theorem dX7_ties_22 : decode cX7_ties 22 = .ok (.invokevirtual 202, 3) := by decide +kernel
theorem dX7_ties_25 : decode cX7_ties 25 = .ok (.ireturn, 1) := by decide +kernel
theorem dX7_ties_26 : decode cX7_ties 26 = .ok (.aload_n 0, 1) := by decide +kernel
theorem dX7_ties_27 : decode cX7_ties 27 = .ok (.invokevirtual 205, 3) := by decide +kernel
theorem dX7_ties_30 : decode cX7_ties 30 = .ok (.aload_n 0, 1) := by decide +kernel
theorem dX7_ties_31 : decode cX7_ties 31 = .ok (.iload_n 1, 1) := by decide +kernel
theorem dX7_ties_32 : decode cX7_ties 32 = .ok (.iconst 5, 1) := by decide +kernel
theorem dX7_ties_33 : decode cX7_ties 33 = .ok (.invokevirtual 56, 3) := by decide +kernel
theorem dX7_ties_36 : decode cX7_ties 36 = .ok (.istore_n 2, 1) := by decide +kernel
theorem dX7_ties_37 : decode cX7_ties 37 = .ok (.aload_n 0, 1) := by decide +kernel
theorem dX7_ties_38 : decode cX7_ties 38 = .ok (.iload_n 1, 1) := by decide +kernel
theorem dX7_ties_39 : decode cX7_ties 39 = .ok (.invokevirtual 196, 3) := by decide +kernel
theorem dX7_ties_42 : decode cX7_ties 42 = .ok (.iload_n 2, 1) := by decide +kernel
theorem dX7_ties_43 : decode cX7_ties 43 = .ok (.ireturn, 1) := by decide +kernel
theorem dX7_hangs_0 : decode cX7_hangs 0 = .ok (.aload_n 0, 1) := by decide +kernel
theorem dX7_hangs_1 : decode cX7_hangs 1 = .ok (.iload_n 1, 1) := by decide +kernel
theorem dX7_hangs_2 : decode cX7_hangs 2 = .ok (.invokevirtual 193, 3) := by decide +kernel
theorem dX7_hangs_5 : decode cX7_hangs 5 = .ok (.ifCond .eq 15, 3) := by decide +kernel
theorem dX7_hangs_8 : decode cX7_hangs 8 = .ok (.iload_n 2, 1) := by decide +kernel
theorem dX7_hangs_9 : decode cX7_hangs 9 = .ok (.i2l, 1) := by decide +kernel
theorem dX7_hangs_10 : decode cX7_hangs 10 = .ok (.lconst 0, 1) := by decide +kernel
theorem dX7_hangs_11 : decode cX7_hangs 11 = .ok (.ldc2_w 94, 3) := by decide +kernel
theorem dX7_hangs_14 : decode cX7_hangs 14 = .ok (.invokestatic 52, 3) := by decide +kernel
theorem dX7_hangs_17 : decode cX7_hangs 17 = .ok (.ifCond .ne 8, 3) := by decide +kernel
theorem dX7_hangs_20 : decode cX7_hangs 20 = .ok (.aload_n 0, 1) := by decide +kernel
theorem dX7_hangs_21 : decode cX7_hangs 21 = .ok (.invokevirtual 84, 3) := by decide +kernel
theorem dX7_hangs_24 : decode cX7_hangs 24 = .ok (.ireturn, 1) := by decide +kernel
theorem dX7_hangs_25 : decode cX7_hangs 25 = .ok (.aload_n 0, 1) := by decide +kernel
theorem dX7_hangs_26 : decode cX7_hangs 26 = .ok (.iload_n 1, 1) := by decide +kernel
theorem dX7_hangs_27 : decode cX7_hangs 27 = .ok (.iconst 4, 1) := by decide +kernel
theorem dX7_hangs_28 : decode cX7_hangs 28 = .ok (.invokevirtual 56, 3) := by decide +kernel
theorem dX7_hangs_31 : decode cX7_hangs 31 = .ok (.istore_n 3, 1) := by decide +kernel
theorem dX7_hangs_32 : decode cX7_hangs 32 = .ok (.iload_n 3, 1) := by decide +kernel
theorem dX7_hangs_33 : decode cX7_hangs 33 = .ok (.iload_n 2, 1) := by decide +kernel
theorem dX7_hangs_34 : decode cX7_hangs 34 = .ok (.if_icmp .ne 8, 3) := by decide +kernel
theorem dX7_hangs_37 : decode cX7_hangs 37 = .ok (.aload_n 0, 1) := by decide +kernel
theorem dX7_hangs_38 : decode cX7_hangs 38 = .ok (.invokevirtual 202, 3) := by decide +kernel
theorem dX7_hangs_41 : decode cX7_hangs 41 = .ok (.ireturn, 1) := by decide +kernel
theorem dX7_hangs_42 : decode cX7_hangs 42 = .ok (.aload_n 0, 1) := by decide +kernel
theorem dX7_hangs_43 : decode cX7_hangs 43 = .ok (.invokevirtual 205, 3) := by decide +kernel
theorem dX7_hangs_46 : decode cX7_hangs 46 = .ok (.aload_n 0, 1) := by decide +kernel
theorem dX7_hangs_47 : decode cX7_hangs 47 = .ok (.iload_n 1, 1) := by decide +kernel
theorem dX7_hangs_48 : decode cX7_hangs 48 = .ok (.iconst 4, 1) := by decide +kernel
theorem dX7_hangs_49 : decode cX7_hangs 49 = .ok (.iload_n 2, 1) := by decide +kernel
theorem dX7_hangs_50 : decode cX7_hangs 50 = .ok (.invokevirtual 75, 3) := by decide +kernel
theorem dX7_hangs_53 : decode cX7_hangs 53 = .ok (.iload_n 3, 1) := by decide +kernel
theorem dX7_hangs_54 : decode cX7_hangs 54 = .ok (.ireturn, 1) := by decide +kernel
theorem dX7_undo_0 : decode cX7_undo 0 = .ok (.aload_n 0, 1) := by decide +kernel
theorem dX7_undo_1 : decode cX7_undo 1 = .ok (.getfield 7, 3) := by decide +kernel
theorem dX7_undo_4 : decode cX7_undo 4 = .ok (.sipush 147, 3) := by decide +kernel
theorem dX7_undo_7 : decode cX7_undo 7 = .ok (.iaload, 1) := by decide +kernel
theorem dX7_undo_8 : decode cX7_undo 8 = .ok (.ifCond .ne 8, 3) := by decide +kernel
theorem dX7_undo_11 : decode cX7_undo 11 = .ok (.aload_n 0, 1) := by decide +kernel
theorem dX7_undo_12 : decode cX7_undo 12 = .ok (.invokevirtual 202, 3) := by decide +kernel
theorem dX7_undo_15 : decode cX7_undo 15 = .ok (.ireturn, 1) := by decide +kernel
theorem dX7_undo_16 : decode cX7_undo 16 = .ok (.aload_n 0, 1) := by decide +kernel
theorem dX7_undo_17 : decode cX7_undo 17 = .ok (.getfield 7, 3) := by decide +kernel
theorem dX7_undo_20 : decode cX7_undo 20 = .ok (.sipush 147, 3) := by decide +kernel
theorem dX7_undo_23 : decode cX7_undo 23 = .ok (.dup2, 1) := by decide +kernel
theorem dX7_undo_24 : decode cX7_undo 24 = .ok (.iaload, 1) := by decide +kernel
theorem dX7_undo_25 : decode cX7_undo 25 = .ok (.iconst 1, 1) := by decide +kernel
theorem dX7_undo_26 : decode cX7_undo 26 = .ok (.isub, 1) := by decide +kernel
theorem dX7_undo_27 : decode cX7_undo 27 = .ok (.iastore, 1) := by decide +kernel
theorem dX7_undo_28 : decode cX7_undo 28 = .ok (.sipush 148, 3) := by decide +kernel
theorem dX7_undo_31 : decode cX7_undo 31 = .ok (.bipush 24, 2) := by decide +kernel
theorem dX7_undo_33 : decode cX7_undo 33 = .ok (.aload_n 0, 1) := by decide +kernel
theorem dX7_undo_34 : decode cX7_undo 34 = .ok (.getfield 7, 3) := by decide +kernel
theorem dX7_undo_37 : decode cX7_undo 37 = .ok (.sipush 147, 3) := by decide +kernel
theorem dX7_undo_40 : decode cX7_undo 40 = .ok (.iaload, 1) := by decide +kernel
theorem dX7_undo_41 : decode cX7_undo 41 = .ok (.imul, 1) := by decide +kernel
theorem dX7_undo_42 : decode cX7_undo 42 = .ok (.iadd, 1) := by decide +kernel
theorem dX7_undo_43 : decode cX7_undo 43 = .ok (.istore_n 1, 1) := by decide +kernel
theorem dX7_undo_44 : decode cX7_undo 44 = .ok (.iconst 0, 1) := by decide +kernel
theorem dX7_undo_45 : decode cX7_undo 45 = .ok (.istore_n 2, 1) := by decide +kernel
theorem dX7_undo_46 : decode cX7_undo 46 = .ok (.iload_n 2, 1) := by decide +kernel
theorem dX7_undo_47 : decode cX7_undo 47 = .ok (.iconst 3, 1) := by decide +kernel
theorem dX7_undo_48 : decode cX7_undo 48 = .ok (.if_icmp .ge 25, 3) := by decide +kernel
theorem dX7_undo_51 : decode cX7_undo 51 = .ok (.aload_n 0, 1) := by decide +kernel
theorem dX7_undo_52 : decode cX7_undo 52 = .ok (.getfield 7, 3) := by decide +kernel
theorem dX7_undo_55 : decode cX7_undo 55 = .ok (.iconst 1, 1) := by decide +kernel
theorem dX7_undo_56 : decode cX7_undo 56 = .ok (.iload_n 2, 1) := by decide +kernel
theorem dX7_undo_57 : decode cX7_undo 57 = .ok (.iadd, 1) := by decide +kernel
theorem dX7_undo_58 : decode cX7_undo 58 = .ok (.aload_n 0, 1) := by decide +kernel
theorem dX7_undo_59 : decode cX7_undo 59 = .ok (.getfield 7, 3) := by decide +kernel
theorem dX7_undo_62 : decode cX7_undo 62 = .ok (.iload_n 1, 1) := by decide +kernel
theorem dX7_undo_63 : decode cX7_undo 63 = .ok (.iload_n 2, 1) := by decide +kernel
theorem dX7_undo_64 : decode cX7_undo 64 = .ok (.iadd, 1) := by decide +kernel
theorem dX7_undo_65 : decode cX7_undo 65 = .ok (.iaload, 1) := by decide +kernel
theorem dX7_undo_66 : decode cX7_undo 66 = .ok (.iastore, 1) := by decide +kernel
theorem dX7_undo_67 : decode cX7_undo 67 = .ok (.iinc 2 1, 3) := by decide +kernel
theorem dX7_undo_70 : decode cX7_undo 70 = .ok (.goto (-24), 3) := by decide +kernel
theorem dX7_undo_73 : decode cX7_undo 73 = .ok (.iconst 0, 1) := by decide +kernel
theorem dX7_undo_74 : decode cX7_undo 74 = .ok (.istore_n 2, 1) := by decide +kernel
theorem dX7_undo_75 : decode cX7_undo 75 = .ok (.iload_n 2, 1) := by decide +kernel
theorem dX7_undo_76 : decode cX7_undo 76 = .ok (.bipush 7, 2) := by decide +kernel
theorem dX7_undo_78 : decode cX7_undo 78 = .ok (.if_icmp .ge 44, 3) := by decide +kernel
theorem dX7_undo_81 : decode cX7_undo 81 = .ok (.iconst 0, 1) := by decide +kernel
theorem dX7_undo_82 : decode cX7_undo 82 = .ok (.istore_n 3, 1) := by decide +kernel
theorem dX7_undo_83 : decode cX7_undo 83 = .ok (.iload_n 3, 1) := by decide +kernel
theorem dX7_undo_84 : decode cX7_undo 84 = .ok (.iconst 3, 1) := by decide +kernel
theorem dX7_undo_85 : decode cX7_undo 85 = .ok (.if_icmp .ge 31, 3) := by decide +kernel
theorem dX7_undo_88 : decode cX7_undo 88 = .ok (.aload_n 0, 1) := by decide +kernel
theorem dX7_undo_89 : decode cX7_undo 89 = .ok (.iload_n 2, 1) := by decide +kernel
theorem dX7_undo_90 : decode cX7_undo 90 = .ok (.iconst 4, 1) := by decide +kernel
theorem dX7_undo_91 : decode cX7_undo 91 = .ok (.iload_n 3, 1) := by decide +kernel
theorem dX7_undo_92 : decode cX7_undo 92 = .ok (.iadd, 1) := by decide +kernel
theorem dX7_undo_93 : decode cX7_undo 93 = .ok (.aload_n 0, 1) := by decide +kernel
theorem dX7_undo_94 : decode cX7_undo 94 = .ok (.getfield 7, 3) := by decide +kernel
theorem dX7_undo_97 : decode cX7_undo 97 = .ok (.iload_n 1, 1) := by decide +kernel
theorem dX7_undo_98 : decode cX7_undo 98 = .ok (.iconst 3, 1) := by decide +kernel
theorem dX7_undo_99 : decode cX7_undo 99 = .ok (.iadd, 1) := by decide +kernel
theorem dX7_undo_100 : decode cX7_undo 100 = .ok (.iconst 3, 1) := by decide +kernel
theorem dX7_undo_101 : decode cX7_undo 101 = .ok (.iload_n 2, 1) := by decide +kernel
theorem dX7_undo_102 : decode cX7_undo 102 = .ok (.imul, 1) := by decide +kernel
theorem dX7_undo_103 : decode cX7_undo 103 = .ok (.iadd, 1) := by decide +kernel
theorem dX7_undo_104 : decode cX7_undo 104 = .ok (.iload_n 3, 1) := by decide +kernel
theorem dX7_undo_105 : decode cX7_undo 105 = .ok (.iadd, 1) := by decide +kernel
theorem dX7_undo_106 : decode cX7_undo 106 = .ok (.iaload, 1) := by decide +kernel
theorem dX7_undo_107 : decode cX7_undo 107 = .ok (.invokevirtual 75, 3) := by decide +kernel
theorem dX7_undo_110 : decode cX7_undo 110 = .ok (.iinc 3 1, 3) := by decide +kernel
theorem dX7_undo_113 : decode cX7_undo 113 = .ok (.goto (-30), 3) := by decide +kernel
theorem dX7_undo_116 : decode cX7_undo 116 = .ok (.iinc 2 1, 3) := by decide +kernel
theorem dX7_undo_119 : decode cX7_undo 119 = .ok (.goto (-44), 3) := by decide +kernel
theorem dX7_undo_122 : decode cX7_undo 122 = .ok (.aload_n 0, 1) := by decide +kernel
theorem dX7_undo_123 : decode cX7_undo 123 = .ok (.getfield 7, 3) := by decide +kernel
theorem dX7_undo_126 : decode cX7_undo 126 = .ok (.iconst 3, 1) := by decide +kernel
theorem dX7_undo_127 : decode cX7_undo 127 = .ok (.iaload, 1) := by decide +kernel
theorem dX7_undo_128 : decode cX7_undo 128 = .ok (.ireturn, 1) := by decide +kernel
theorem dX7_of_0 : decode cX7_of 0 = .ok (.aload_n 0, 1) := by decide +kernel
theorem dX7_of_1 : decode cX7_of 1 = .ok (.iload_n 1, 1) := by decide +kernel
theorem dX7_of_2 : decode cX7_of 2 = .ok (.invokevirtual 193, 3) := by decide +kernel
theorem dX7_of_5 : decode cX7_of 5 = .ok (.ifCond .eq 15, 3) := by decide +kernel
theorem dX7_of_8 : decode cX7_of 8 = .ok (.iload_n 2, 1) := by decide +kernel
theorem dX7_of_9 : decode cX7_of 9 = .ok (.i2l, 1) := by decide +kernel
theorem dX7_of_10 : decode cX7_of 10 = .ok (.lconst 0, 1) := by decide +kernel
theorem dX7_of_11 : decode cX7_of 11 = .ok (.ldc2_w 211, 3) := by decide +kernel
theorem dX7_of_14 : decode cX7_of 14 = .ok (.invokestatic 52, 3) := by decide +kernel
theorem dX7_of_17 : decode cX7_of 17 = .ok (.ifCond .ne 8, 3) := by decide +kernel
theorem dX7_of_20 : decode cX7_of 20 = .ok (.aload_n 0, 1) := by decide +kernel
theorem dX7_of_21 : decode cX7_of 21 = .ok (.invokevirtual 84, 3) := by decide +kernel
theorem dX7_of_24 : decode cX7_of 24 = .ok (.ireturn, 1) := by decide +kernel
theorem dX7_of_25 : decode cX7_of 25 = .ok (.iload_n 2, 1) := by decide +kernel
theorem dX7_of_26 : decode cX7_of 26 = .ok (.bipush 7, 2) := by decide +kernel
theorem dX7_of_28 : decode cX7_of 28 = .ok (.if_icmp .ge 12, 3) := by decide +kernel
theorem dX7_of_31 : decode cX7_of 31 = .ok (.aload_n 0, 1) := by decide +kernel
theorem dX7_of_32 : decode cX7_of 32 = .ok (.iload_n 1, 1) := by decide +kernel
theorem dX7_of_33 : decode cX7_of 33 = .ok (.iload_n 2, 1) := by decide +kernel
theorem dX7_of_34 : decode cX7_of 34 = .ok (.invokevirtual 56, 3) := by decide +kernel
theorem dX7_of_37 : decode cX7_of 37 = .ok (.goto 8, 3) := by decide +kernel
theorem dX7_of_40 : decode cX7_of 40 = .ok (.aload_n 0, 1) := by decide +kernel
theorem dX7_of_41 : decode cX7_of 41 = .ok (.iload_n 1, 1) := by decide +kernel
theorem dX7_of_42 : decode cX7_of 42 = .ok (.invokevirtual 213, 3) := by decide +kernel
theorem dX7_of_45 : decode cX7_of 45 = .ok (.ireturn, 1) := by decide +kernel
theorem dX7_asides_0 : decode cX7_asides 0 = .ok (.iconst 0, 1) := by decide +kernel
theorem dX7_asides_1 : decode cX7_asides 1 = .ok (.istore_n 1, 1) := by decide +kernel
theorem dX7_asides_2 : decode cX7_asides 2 = .ok (.iload_n 1, 1) := by decide +kernel
theorem dX7_asides_3 : decode cX7_asides 3 = .ok (.bipush 53, 2) := by decide +kernel
theorem dX7_asides_5 : decode cX7_asides 5 = .ok (.if_icmp .ge 21, 3) := by decide +kernel
theorem dX7_asides_8 : decode cX7_asides 8 = .ok (.aload_n 0, 1) := by decide +kernel
theorem dX7_asides_9 : decode cX7_asides 9 = .ok (.getfield 23, 3) := by decide +kernel
theorem dX7_asides_12 : decode cX7_asides 12 = .ok (.iload_n 1, 1) := by decide +kernel
theorem dX7_asides_13 : decode cX7_asides 13 = .ok (.aload_n 0, 1) := by decide +kernel
theorem dX7_asides_14 : decode cX7_asides 14 = .ok (.getfield 7, 3) := by decide +kernel
theorem dX7_asides_17 : decode cX7_asides 17 = .ok (.iload_n 1, 1) := by decide +kernel
theorem dX7_asides_18 : decode cX7_asides 18 = .ok (.iaload, 1) := by decide +kernel
theorem dX7_asides_19 : decode cX7_asides 19 = .ok (.iastore, 1) := by decide +kernel
theorem dX7_asides_20 : decode cX7_asides 20 = .ok (.iinc 1 1, 3) := by decide +kernel
theorem dX7_asides_23 : decode cX7_asides 23 = .ok (.goto (-21), 3) := by decide +kernel
theorem dX7_asides_26 : decode cX7_asides 26 = .ok (.return_, 1) := by decide +kernel
theorem dX7_backs_0 : decode cX7_backs 0 = .ok (.iconst 0, 1) := by decide +kernel
theorem dX7_backs_1 : decode cX7_backs 1 = .ok (.istore_n 1, 1) := by decide +kernel
theorem dX7_backs_2 : decode cX7_backs 2 = .ok (.iload_n 1, 1) := by decide +kernel
theorem dX7_backs_3 : decode cX7_backs 3 = .ok (.bipush 53, 2) := by decide +kernel
theorem dX7_backs_5 : decode cX7_backs 5 = .ok (.if_icmp .ge 21, 3) := by decide +kernel
theorem dX7_backs_8 : decode cX7_backs 8 = .ok (.aload_n 0, 1) := by decide +kernel
theorem dX7_backs_9 : decode cX7_backs 9 = .ok (.getfield 7, 3) := by decide +kernel
theorem dX7_backs_12 : decode cX7_backs 12 = .ok (.iload_n 1, 1) := by decide +kernel
theorem dX7_backs_13 : decode cX7_backs 13 = .ok (.aload_n 0, 1) := by decide +kernel
theorem dX7_backs_14 : decode cX7_backs 14 = .ok (.getfield 23, 3) := by decide +kernel
theorem dX7_backs_17 : decode cX7_backs 17 = .ok (.iload_n 1, 1) := by decide +kernel
theorem dX7_backs_18 : decode cX7_backs 18 = .ok (.iaload, 1) := by decide +kernel
theorem dX7_backs_19 : decode cX7_backs 19 = .ok (.iastore, 1) := by decide +kernel
theorem dX7_backs_20 : decode cX7_backs 20 = .ok (.iinc 1 1, 3) := by decide +kernel
theorem dX7_backs_23 : decode cX7_backs 23 = .ok (.goto (-21), 3) := by decide +kernel
theorem dX7_backs_26 : decode cX7_backs 26 = .ok (.return_, 1) := by decide +kernel
theorem dX7_found_0 : decode cX7_found 0 = .ok (.iload_n 2, 1) := by decide +kernel
theorem dX7_found_1 : decode cX7_found 1 = .ok (.ifCond .ge 7, 3) := by decide +kernel
theorem dX7_found_4 : decode cX7_found 4 = .ok (.iload_n 1, 1) := by decide +kernel
theorem dX7_found_5 : decode cX7_found 5 = .ok (.goto 14, 3) := by decide +kernel
theorem dX7_found_8 : decode cX7_found 8 = .ok (.iload_n 1, 1) := by decide +kernel
theorem dX7_found_9 : decode cX7_found 9 = .ok (.iload_n 2, 1) := by decide +kernel
theorem dX7_found_10 : decode cX7_found 10 = .ok (.if_icmp .le 7, 3) := by decide +kernel
theorem dX7_found_13 : decode cX7_found 13 = .ok (.iload_n 3, 1) := by decide +kernel
theorem dX7_found_14 : decode cX7_found 14 = .ok (.goto 5, 3) := by decide +kernel
theorem dX7_found_17 : decode cX7_found 17 = .ok (.bipush (-5), 2) := by decide +kernel
theorem dX7_found_19 : decode cX7_found 19 = .ok (.ireturn, 1) := by decide +kernel
theorem dX7_touch_0 : decode cX7_touch 0 = .ok (.iload_n 1, 1) := by decide +kernel
theorem dX7_touch_1 : decode cX7_touch 1 = .ok (.iconst (-1), 1) := by decide +kernel
theorem dX7_touch_2 : decode cX7_touch 2 = .ok (.if_icmp .ge 8, 3) := by decide +kernel
theorem dX7_touch_5 : decode cX7_touch 5 = .ok (.aload_n 0, 1) := by decide +kernel
theorem dX7_touch_6 : decode cX7_touch 6 = .ok (.invokevirtual 216, 3) := by decide +kernel
theorem dX7_touch_9 : decode cX7_touch 9 = .ok (.ireturn, 1) := by decide +kernel
theorem dX7_touch_10 : decode cX7_touch 10 = .ok (.iconst 0, 1) := by decide +kernel
theorem dX7_touch_11 : decode cX7_touch 11 = .ok (.istore_n 2, 1) := by decide +kernel
theorem dX7_touch_12 : decode cX7_touch 12 = .ok (.iconst 0, 1) := by decide +kernel
theorem dX7_touch_13 : decode cX7_touch 13 = .ok (.istore_n 3, 1) := by decide +kernel
theorem dX7_touch_14 : decode cX7_touch 14 = .ok (.iconst 0, 1) := by decide +kernel
theorem dX7_touch_15 : decode cX7_touch 15 = .ok (.istore 4, 2) := by decide +kernel
theorem dX7_touch_17 : decode cX7_touch 17 = .ok (.iload 4, 2) := by decide +kernel
theorem dX7_touch_19 : decode cX7_touch 19 = .ok (.aload_n 0, 1) := by decide +kernel
theorem dX7_touch_20 : decode cX7_touch 20 = .ok (.getfield 7, 3) := by decide +kernel
theorem dX7_touch_23 : decode cX7_touch 23 = .ok (.iconst 0, 1) := by decide +kernel
theorem dX7_touch_24 : decode cX7_touch 24 = .ok (.iaload, 1) := by decide +kernel
theorem dX7_touch_25 : decode cX7_touch 25 = .ok (.if_icmp .ge 86, 3) := by decide +kernel
theorem dX7_touch_28 : decode cX7_touch 28 = .ok (.iload 4, 2) := by decide +kernel
theorem dX7_touch_30 : decode cX7_touch 30 = .ok (.iconst 1, 1) := by decide +kernel
theorem dX7_touch_31 : decode cX7_touch 31 = .ok (.iadd, 1) := by decide +kernel
theorem dX7_touch_32 : decode cX7_touch 32 = .ok (.istore 5, 2) := by decide +kernel
theorem dX7_touch_34 : decode cX7_touch 34 = .ok (.iload 5, 2) := by decide +kernel
theorem dX7_touch_36 : decode cX7_touch 36 = .ok (.aload_n 0, 1) := by decide +kernel
theorem dX7_touch_37 : decode cX7_touch 37 = .ok (.getfield 7, 3) := by decide +kernel
theorem dX7_touch_40 : decode cX7_touch 40 = .ok (.iconst 0, 1) := by decide +kernel
theorem dX7_touch_41 : decode cX7_touch 41 = .ok (.iaload, 1) := by decide +kernel
theorem dX7_touch_42 : decode cX7_touch 42 = .ok (.if_icmp .ge 63, 3) := by decide +kernel
theorem dX7_touch_45 : decode cX7_touch 45 = .ok (.aload_n 0, 1) := by decide +kernel
theorem dX7_touch_46 : decode cX7_touch 46 = .ok (.iload 4, 2) := by decide +kernel
theorem dX7_touch_48 : decode cX7_touch 48 = .ok (.invokevirtual 60, 3) := by decide +kernel
theorem dX7_touch_51 : decode cX7_touch 51 = .ok (.ifCond .ne 48, 3) := by decide +kernel
theorem dX7_touch_54 : decode cX7_touch 54 = .ok (.aload_n 0, 1) := by decide +kernel
theorem dX7_touch_55 : decode cX7_touch 55 = .ok (.iload 5, 2) := by decide +kernel
theorem dX7_touch_57 : decode cX7_touch 57 = .ok (.invokevirtual 60, 3) := by decide +kernel
theorem dX7_touch_60 : decode cX7_touch 60 = .ok (.ifCond .ne 39, 3) := by decide +kernel
theorem dX7_touch_63 : decode cX7_touch 63 = .ok (.aload_n 0, 1) := by decide +kernel
theorem dX7_touch_64 : decode cX7_touch 64 = .ok (.iload 4, 2) := by decide +kernel
theorem dX7_touch_66 : decode cX7_touch 66 = .ok (.invokevirtual 213, 3) := by decide +kernel
theorem dX7_touch_69 : decode cX7_touch 69 = .ok (.aload_n 0, 1) := by decide +kernel
theorem dX7_touch_70 : decode cX7_touch 70 = .ok (.iload 5, 2) := by decide +kernel
theorem dX7_touch_72 : decode cX7_touch 72 = .ok (.invokevirtual 213, 3) := by decide +kernel
theorem dX7_touch_75 : decode cX7_touch 75 = .ok (.if_icmp .ne 24, 3) := by decide +kernel
theorem dX7_touch_78 : decode cX7_touch 78 = .ok (.iload_n 2, 1) := by decide +kernel
theorem dX7_touch_79 : decode cX7_touch 79 = .ok (.iload_n 1, 1) := by decide +kernel
theorem dX7_touch_80 : decode cX7_touch 80 = .ok (.if_icmp .ne 14, 3) := by decide +kernel
theorem dX7_touch_83 : decode cX7_touch 83 = .ok (.bipush 10, 2) := by decide +kernel
theorem dX7_touch_85 : decode cX7_touch 85 = .ok (.iload 4, 2) := by decide +kernel
theorem dX7_touch_87 : decode cX7_touch 87 = .ok (.imul, 1) := by decide +kernel
theorem dX7_touch_88 : decode cX7_touch 88 = .ok (.iload 5, 2) := by decide +kernel
theorem dX7_touch_90 : decode cX7_touch 90 = .ok (.iadd, 1) := by decide +kernel
theorem dX7_touch_91 : decode cX7_touch 91 = .ok (.goto 4, 3) := by decide +kernel
theorem dX7_touch_94 : decode cX7_touch 94 = .ok (.iload_n 3, 1) := by decide +kernel
theorem dX7_touch_95 : decode cX7_touch 95 = .ok (.istore_n 3, 1) := by decide +kernel
theorem dX7_touch_96 : decode cX7_touch 96 = .ok (.iinc 2 1, 3) := by decide +kernel
theorem dX7_touch_99 : decode cX7_touch 99 = .ok (.iinc 5 1, 3) := by decide +kernel
theorem dX7_touch_102 : decode cX7_touch 102 = .ok (.goto (-68), 3) := by decide +kernel
theorem dX7_touch_105 : decode cX7_touch 105 = .ok (.iinc 4 1, 3) := by decide +kernel
theorem dX7_touch_108 : decode cX7_touch 108 = .ok (.goto (-91), 3) := by decide +kernel
theorem dX7_touch_111 : decode cX7_touch 111 = .ok (.aload_n 0, 1) := by decide +kernel
theorem dX7_touch_112 : decode cX7_touch 112 = .ok (.iload_n 2, 1) := by decide +kernel
theorem dX7_touch_113 : decode cX7_touch 113 = .ok (.iload_n 1, 1) := by decide +kernel
theorem dX7_touch_114 : decode cX7_touch 114 = .ok (.iload_n 3, 1) := by decide +kernel
theorem dX7_touch_115 : decode cX7_touch 115 = .ok (.invokevirtual 219, 3) := by decide +kernel
theorem dX7_touch_118 : decode cX7_touch 118 = .ok (.ireturn, 1) := by decide +kernel
theorem dX7_safe_0 : decode cX7_safe 0 = .ok (.aload_n 0, 1) := by decide +kernel
theorem dX7_safe_1 : decode cX7_safe 1 = .ok (.iload_n 1, 1) := by decide +kernel
theorem dX7_safe_2 : decode cX7_safe 2 = .ok (.invokevirtual 193, 3) := by decide +kernel
theorem dX7_safe_5 : decode cX7_safe 5 = .ok (.ifCond .ne 8, 3) := by decide +kernel
theorem dX7_safe_8 : decode cX7_safe 8 = .ok (.aload_n 0, 1) := by decide +kernel
theorem dX7_safe_9 : decode cX7_safe 9 = .ok (.invokevirtual 84, 3) := by decide +kernel
theorem dX7_safe_12 : decode cX7_safe 12 = .ok (.ireturn, 1) := by decide +kernel
theorem dX7_safe_13 : decode cX7_safe 13 = .ok (.aload_n 0, 1) := by decide +kernel
theorem dX7_safe_14 : decode cX7_safe 14 = .ok (.invokevirtual 222, 3) := by decide +kernel
theorem dX7_safe_17 : decode cX7_safe 17 = .ok (.iconst 0, 1) := by decide +kernel
theorem dX7_safe_18 : decode cX7_safe 18 = .ok (.istore_n 2, 1) := by decide +kernel
theorem dX7_safe_19 : decode cX7_safe 19 = .ok (.iload_n 2, 1) := by decide +kernel
theorem dX7_safe_20 : decode cX7_safe 20 = .ok (.bipush 61, 2) := by decide +kernel
theorem dX7_safe_22 : decode cX7_safe 22 = .ok (.if_icmp .ge 22, 3) := by decide +kernel
theorem dX7_safe_25 : decode cX7_safe 25 = .ok (.aload_n 0, 1) := by decide +kernel
theorem dX7_safe_26 : decode cX7_safe 26 = .ok (.iload_n 1, 1) := by decide +kernel
theorem dX7_safe_27 : decode cX7_safe 27 = .ok (.invokevirtual 60, 3) := by decide +kernel
theorem dX7_safe_30 : decode cX7_safe 30 = .ok (.ifCond .ne 14, 3) := by decide +kernel
theorem dX7_safe_33 : decode cX7_safe 33 = .ok (.aload_n 0, 1) := by decide +kernel
theorem dX7_safe_34 : decode cX7_safe 34 = .ok (.iconst 4, 1) := by decide +kernel
theorem dX7_safe_35 : decode cX7_safe 35 = .ok (.invokevirtual 184, 3) := by decide +kernel
theorem dX7_safe_38 : decode cX7_safe 38 = .ok (.iinc 2 1, 3) := by decide +kernel
theorem dX7_safe_41 : decode cX7_safe 41 = .ok (.goto (-22), 3) := by decide +kernel
theorem dX7_safe_44 : decode cX7_safe 44 = .ok (.aload_n 0, 1) := by decide +kernel
theorem dX7_safe_45 : decode cX7_safe 45 = .ok (.invokevirtual 225, 3) := by decide +kernel
theorem dX7_safe_48 : decode cX7_safe 48 = .ok (.iload_n 2, 1) := by decide +kernel
theorem dX7_safe_49 : decode cX7_safe 49 = .ok (.bipush 61, 2) := by decide +kernel
theorem dX7_safe_51 : decode cX7_safe 51 = .ok (.if_icmp .ge 7, 3) := by decide +kernel
theorem dX7_safe_54 : decode cX7_safe 54 = .ok (.iload_n 2, 1) := by decide +kernel
theorem dX7_safe_55 : decode cX7_safe 55 = .ok (.goto 6, 3) := by decide +kernel
theorem dX7_safe_58 : decode cX7_safe 58 = .ok (.sipush (-1001), 3) := by decide +kernel
theorem dX7_safe_61 : decode cX7_safe 61 = .ok (.ireturn, 1) := by decide +kernel
theorem dX7_goesBy_0 : decode cX7_goesBy 0 = .ok (.iconst 1, 1) := by decide +kernel
theorem dX7_goesBy_1 : decode cX7_goesBy 1 = .ok (.istore_n 3, 1) := by decide +kernel
theorem dX7_goesBy_2 : decode cX7_goesBy 2 = .ok (.iconst 1, 1) := by decide +kernel
theorem dX7_goesBy_3 : decode cX7_goesBy 3 = .ok (.istore 4, 2) := by decide +kernel
theorem dX7_goesBy_5 : decode cX7_goesBy 5 = .ok (.iload 4, 2) := by decide +kernel
theorem dX7_goesBy_7 : decode cX7_goesBy 7 = .ok (.iload_n 2, 1) := by decide +kernel
theorem dX7_goesBy_8 : decode cX7_goesBy 8 = .ok (.if_icmp .ge 13, 3) := by decide +kernel
theorem dX7_goesBy_11 : decode cX7_goesBy 11 = .ok (.iload_n 3, 1) := by decide +kernel
theorem dX7_goesBy_12 : decode cX7_goesBy 12 = .ok (.iconst 5, 1) := by decide +kernel
theorem dX7_goesBy_13 : decode cX7_goesBy 13 = .ok (.imul, 1) := by decide +kernel
theorem dX7_goesBy_14 : decode cX7_goesBy 14 = .ok (.istore_n 3, 1) := by decide +kernel
theorem dX7_goesBy_15 : decode cX7_goesBy 15 = .ok (.iinc 4 1, 3) := by decide +kernel
theorem dX7_goesBy_18 : decode cX7_goesBy 18 = .ok (.goto (-13), 3) := by decide +kernel
theorem dX7_goesBy_21 : decode cX7_goesBy 21 = .ok (.iconst 0, 1) := by decide +kernel
theorem dX7_goesBy_22 : decode cX7_goesBy 22 = .ok (.istore 4, 2) := by decide +kernel
theorem dX7_goesBy_24 : decode cX7_goesBy 24 = .ok (.iload 4, 2) := by decide +kernel
theorem dX7_goesBy_26 : decode cX7_goesBy 26 = .ok (.iload_n 2, 1) := by decide +kernel
theorem dX7_goesBy_27 : decode cX7_goesBy 27 = .ok (.if_icmp .ge 22, 3) := by decide +kernel
theorem dX7_goesBy_30 : decode cX7_goesBy 30 = .ok (.aload_n 0, 1) := by decide +kernel
theorem dX7_goesBy_31 : decode cX7_goesBy 31 = .ok (.iload_n 1, 1) := by decide +kernel
theorem dX7_goesBy_32 : decode cX7_goesBy 32 = .ok (.iload_n 3, 1) := by decide +kernel
theorem dX7_goesBy_33 : decode cX7_goesBy 33 = .ok (.idiv, 1) := by decide +kernel
theorem dX7_goesBy_34 : decode cX7_goesBy 34 = .ok (.iconst 5, 1) := by decide +kernel
theorem dX7_goesBy_35 : decode cX7_goesBy 35 = .ok (.irem, 1) := by decide +kernel
theorem dX7_goesBy_36 : decode cX7_goesBy 36 = .ok (.invokevirtual 184, 3) := by decide +kernel
theorem dX7_goesBy_39 : decode cX7_goesBy 39 = .ok (.iload_n 3, 1) := by decide +kernel
theorem dX7_goesBy_40 : decode cX7_goesBy 40 = .ok (.iconst 5, 1) := by decide +kernel
theorem dX7_goesBy_41 : decode cX7_goesBy 41 = .ok (.idiv, 1) := by decide +kernel
theorem dX7_goesBy_42 : decode cX7_goesBy 42 = .ok (.istore_n 3, 1) := by decide +kernel
theorem dX7_goesBy_43 : decode cX7_goesBy 43 = .ok (.iinc 4 1, 3) := by decide +kernel
theorem dX7_goesBy_46 : decode cX7_goesBy 46 = .ok (.goto (-22), 3) := by decide +kernel
theorem dX7_goesBy_49 : decode cX7_goesBy 49 = .ok (.return_, 1) := by decide +kernel
theorem dX7_fewest_0 : decode cX7_fewest 0 = .ok (.iconst 1, 1) := by decide +kernel
theorem dX7_fewest_1 : decode cX7_fewest 1 = .ok (.istore 5, 2) := by decide +kernel
theorem dX7_fewest_3 : decode cX7_fewest 3 = .ok (.aload_n 0, 1) := by decide +kernel
theorem dX7_fewest_4 : decode cX7_fewest 4 = .ok (.invokevirtual 222, 3) := by decide +kernel
theorem dX7_fewest_7 : decode cX7_fewest 7 = .ok (.iconst 0, 1) := by decide +kernel
theorem dX7_fewest_8 : decode cX7_fewest 8 = .ok (.istore 6, 2) := by decide +kernel
theorem dX7_fewest_10 : decode cX7_fewest 10 = .ok (.iload 6, 2) := by decide +kernel
theorem dX7_fewest_12 : decode cX7_fewest 12 = .ok (.bipush 6, 2) := by decide +kernel
theorem dX7_fewest_14 : decode cX7_fewest 14 = .ok (.if_icmp .ge 83, 3) := by decide +kernel
theorem dX7_fewest_17 : decode cX7_fewest 17 = .ok (.iconst 0, 1) := by decide +kernel
theorem dX7_fewest_18 : decode cX7_fewest 18 = .ok (.istore 7, 2) := by decide +kernel
theorem dX7_fewest_20 : decode cX7_fewest 20 = .ok (.iload 7, 2) := by decide +kernel
theorem dX7_fewest_22 : decode cX7_fewest 22 = .ok (.iload 5, 2) := by decide +kernel
theorem dX7_fewest_24 : decode cX7_fewest 24 = .ok (.if_icmp .ge 61, 3) := by decide +kernel
theorem dX7_fewest_27 : decode cX7_fewest 27 = .ok (.aload_n 0, 1) := by decide +kernel
theorem dX7_fewest_28 : decode cX7_fewest 28 = .ok (.iload 7, 2) := by decide +kernel
theorem dX7_fewest_30 : decode cX7_fewest 30 = .ok (.iload 6, 2) := by decide +kernel
theorem dX7_fewest_32 : decode cX7_fewest 32 = .ok (.invokevirtual 228, 3) := by decide +kernel
theorem dX7_fewest_35 : decode cX7_fewest 35 = .ok (.aload_n 0, 1) := by decide +kernel
theorem dX7_fewest_36 : decode cX7_fewest 36 = .ok (.iload_n 1, 1) := by decide +kernel
theorem dX7_fewest_37 : decode cX7_fewest 37 = .ok (.invokevirtual 213, 3) := by decide +kernel
theorem dX7_fewest_40 : decode cX7_fewest 40 = .ok (.iload_n 2, 1) := by decide +kernel
theorem dX7_fewest_41 : decode cX7_fewest 41 = .ok (.if_icmp .ne 17, 3) := by decide +kernel
theorem dX7_fewest_44 : decode cX7_fewest 44 = .ok (.aload_n 0, 1) := by decide +kernel
theorem dX7_fewest_45 : decode cX7_fewest 45 = .ok (.iload_n 3, 1) := by decide +kernel
theorem dX7_fewest_46 : decode cX7_fewest 46 = .ok (.invokevirtual 213, 3) := by decide +kernel
theorem dX7_fewest_49 : decode cX7_fewest 49 = .ok (.iload 4, 2) := by decide +kernel
theorem dX7_fewest_51 : decode cX7_fewest 51 = .ok (.if_icmp .ne 7, 3) := by decide +kernel
theorem dX7_fewest_54 : decode cX7_fewest 54 = .ok (.iconst 1, 1) := by decide +kernel
theorem dX7_fewest_55 : decode cX7_fewest 55 = .ok (.goto 4, 3) := by decide +kernel
theorem dX7_fewest_58 : decode cX7_fewest 58 = .ok (.iconst 0, 1) := by decide +kernel
theorem dX7_fewest_59 : decode cX7_fewest 59 = .ok (.istore 8, 2) := by decide +kernel
theorem dX7_fewest_61 : decode cX7_fewest 61 = .ok (.aload_n 0, 1) := by decide +kernel
theorem dX7_fewest_62 : decode cX7_fewest 62 = .ok (.invokevirtual 225, 3) := by decide +kernel
theorem dX7_fewest_65 : decode cX7_fewest 65 = .ok (.iload 8, 2) := by decide +kernel
theorem dX7_fewest_67 : decode cX7_fewest 67 = .ok (.ifCond .eq 12, 3) := by decide +kernel
theorem dX7_fewest_70 : decode cX7_fewest 70 = .ok (.aload_n 0, 1) := by decide +kernel
theorem dX7_fewest_71 : decode cX7_fewest 71 = .ok (.iload 7, 2) := by decide +kernel
theorem dX7_fewest_73 : decode cX7_fewest 73 = .ok (.putfield 232, 3) := by decide +kernel
theorem dX7_fewest_76 : decode cX7_fewest 76 = .ok (.iload 6, 2) := by decide +kernel
theorem dX7_fewest_78 : decode cX7_fewest 78 = .ok (.ireturn, 1) := by decide +kernel
theorem dX7_fewest_79 : decode cX7_fewest 79 = .ok (.iinc 7 1, 3) := by decide +kernel
theorem dX7_fewest_82 : decode cX7_fewest 82 = .ok (.goto (-62), 3) := by decide +kernel
theorem dX7_fewest_85 : decode cX7_fewest 85 = .ok (.iload 5, 2) := by decide +kernel
theorem dX7_fewest_87 : decode cX7_fewest 87 = .ok (.iconst 5, 1) := by decide +kernel
theorem dX7_fewest_88 : decode cX7_fewest 88 = .ok (.imul, 1) := by decide +kernel
theorem dX7_fewest_89 : decode cX7_fewest 89 = .ok (.istore 5, 2) := by decide +kernel
theorem dX7_fewest_91 : decode cX7_fewest 91 = .ok (.iinc 6 1, 3) := by decide +kernel
theorem dX7_fewest_94 : decode cX7_fewest 94 = .ok (.goto (-84), 3) := by decide +kernel
theorem dX7_fewest_97 : decode cX7_fewest 97 = .ok (.sipush (-1001), 3) := by decide +kernel
theorem dX7_fewest_100 : decode cX7_fewest 100 = .ok (.ireturn, 1) := by decide +kernel
theorem dX7_few_0 : decode cX7_few 0 = .ok (.aload_n 0, 1) := by decide +kernel
theorem dX7_few_1 : decode cX7_few 1 = .ok (.iload_n 1, 1) := by decide +kernel
theorem dX7_few_2 : decode cX7_few 2 = .ok (.invokevirtual 193, 3) := by decide +kernel
theorem dX7_few_5 : decode cX7_few 5 = .ok (.ifCond .eq 22, 3) := by decide +kernel
theorem dX7_few_8 : decode cX7_few 8 = .ok (.iload_n 2, 1) := by decide +kernel
theorem dX7_few_9 : decode cX7_few 9 = .ok (.i2l, 1) := by decide +kernel
theorem dX7_few_10 : decode cX7_few 10 = .ok (.ldc2_w 235, 3) := by decide +kernel
theorem dX7_few_13 : decode cX7_few 13 = .ok (.ldc2_w 237, 3) := by decide +kernel
theorem dX7_few_16 : decode cX7_few 16 = .ok (.invokestatic 52, 3) := by decide +kernel
theorem dX7_few_19 : decode cX7_few 19 = .ok (.ifCond .eq 8, 3) := by decide +kernel
theorem dX7_few_22 : decode cX7_few 22 = .ok (.iload_n 3, 1) := by decide +kernel
theorem dX7_few_23 : decode cX7_few 23 = .ok (.iconst (-1), 1) := by decide +kernel
theorem dX7_few_24 : decode cX7_few 24 = .ok (.if_icmp .ge 8, 3) := by decide +kernel
theorem dX7_few_27 : decode cX7_few 27 = .ok (.aload_n 0, 1) := by decide +kernel
theorem dX7_few_28 : decode cX7_few 28 = .ok (.invokevirtual 216, 3) := by decide +kernel
theorem dX7_few_31 : decode cX7_few 31 = .ok (.ireturn, 1) := by decide +kernel
theorem dX7_few_32 : decode cX7_few 32 = .ok (.aload_n 0, 1) := by decide +kernel
theorem dX7_few_33 : decode cX7_few 33 = .ok (.iload_n 1, 1) := by decide +kernel
theorem dX7_few_34 : decode cX7_few 34 = .ok (.iload_n 2, 1) := by decide +kernel
theorem dX7_few_35 : decode cX7_few 35 = .ok (.iload_n 1, 1) := by decide +kernel
theorem dX7_few_36 : decode cX7_few 36 = .ok (.iload_n 2, 1) := by decide +kernel
theorem dX7_few_37 : decode cX7_few 37 = .ok (.invokevirtual 239, 3) := by decide +kernel
theorem dX7_few_40 : decode cX7_few 40 = .ok (.istore 4, 2) := by decide +kernel
theorem dX7_few_42 : decode cX7_few 42 = .ok (.iload 4, 2) := by decide +kernel
theorem dX7_few_44 : decode cX7_few 44 = .ok (.sipush (-1001), 3) := by decide +kernel
theorem dX7_few_47 : decode cX7_few 47 = .ok (.if_icmp .ne 6, 3) := by decide +kernel
theorem dX7_few_50 : decode cX7_few 50 = .ok (.bipush (-6), 2) := by decide +kernel
theorem dX7_few_52 : decode cX7_few 52 = .ok (.ireturn, 1) := by decide +kernel
theorem dX7_few_53 : decode cX7_few 53 = .ok (.aload_n 0, 1) := by decide +kernel
theorem dX7_few_54 : decode cX7_few 54 = .ok (.getfield 232, 3) := by decide +kernel
theorem dX7_few_57 : decode cX7_few 57 = .ok (.istore 5, 2) := by decide +kernel
theorem dX7_few_59 : decode cX7_few 59 = .ok (.iconst 0, 1) := by decide +kernel
theorem dX7_few_60 : decode cX7_few 60 = .ok (.istore 6, 2) := by decide +kernel
theorem dX7_few_62 : decode cX7_few 62 = .ok (.iload 4, 2) := by decide +kernel
theorem dX7_few_64 : decode cX7_few 64 = .ok (.iconst 1, 1) := by decide +kernel
theorem dX7_few_65 : decode cX7_few 65 = .ok (.isub, 1) := by decide +kernel
theorem dX7_few_66 : decode cX7_few 66 = .ok (.istore 7, 2) := by decide +kernel
theorem dX7_few_68 : decode cX7_few 68 = .ok (.iload 7, 2) := by decide +kernel
theorem dX7_few_70 : decode cX7_few 70 = .ok (.ifCond .lt 32, 3) := by decide +kernel
theorem dX7_few_73 : decode cX7_few 73 = .ok (.iload 7, 2) := by decide +kernel
theorem dX7_few_75 : decode cX7_few 75 = .ok (.iload_n 3, 1) := by decide +kernel
theorem dX7_few_76 : decode cX7_few 76 = .ok (.if_icmp .ne 10, 3) := by decide +kernel
theorem dX7_few_79 : decode cX7_few 79 = .ok (.iload 5, 2) := by decide +kernel
theorem dX7_few_81 : decode cX7_few 81 = .ok (.iconst 5, 1) := by decide +kernel
theorem dX7_few_82 : decode cX7_few 82 = .ok (.irem, 1) := by decide +kernel
theorem dX7_few_83 : decode cX7_few 83 = .ok (.goto 5, 3) := by decide +kernel
theorem dX7_few_86 : decode cX7_few 86 = .ok (.iload 6, 2) := by decide +kernel
theorem dX7_few_88 : decode cX7_few 88 = .ok (.istore 6, 2) := by decide +kernel
theorem dX7_few_90 : decode cX7_few 90 = .ok (.iload 5, 2) := by decide +kernel
theorem dX7_few_92 : decode cX7_few 92 = .ok (.iconst 5, 1) := by decide +kernel
theorem dX7_few_93 : decode cX7_few 93 = .ok (.idiv, 1) := by decide +kernel
theorem dX7_few_94 : decode cX7_few 94 = .ok (.istore 5, 2) := by decide +kernel
theorem dX7_few_96 : decode cX7_few 96 = .ok (.iinc 7 (-1), 3) := by decide +kernel
theorem dX7_few_99 : decode cX7_few 99 = .ok (.goto (-31), 3) := by decide +kernel
theorem dX7_few_102 : decode cX7_few 102 = .ok (.aload_n 0, 1) := by decide +kernel
theorem dX7_few_103 : decode cX7_few 103 = .ok (.iload 4, 2) := by decide +kernel
theorem dX7_few_105 : decode cX7_few 105 = .ok (.iload_n 3, 1) := by decide +kernel
theorem dX7_few_106 : decode cX7_few 106 = .ok (.iload 6, 2) := by decide +kernel
theorem dX7_few_108 : decode cX7_few 108 = .ok (.invokevirtual 219, 3) := by decide +kernel
theorem dX7_few_111 : decode cX7_few 111 = .ok (.ireturn, 1) := by decide +kernel
theorem dX7_both_0 : decode cX7_both 0 = .ok (.aload_n 0, 1) := by decide +kernel
theorem dX7_both_1 : decode cX7_both 1 = .ok (.iload_n 1, 1) := by decide +kernel
theorem dX7_both_2 : decode cX7_both 2 = .ok (.invokevirtual 193, 3) := by decide +kernel
theorem dX7_both_5 : decode cX7_both 5 = .ok (.ifCond .eq 45, 3) := by decide +kernel
theorem dX7_both_8 : decode cX7_both 8 = .ok (.aload_n 0, 1) := by decide +kernel
theorem dX7_both_9 : decode cX7_both 9 = .ok (.iload_n 3, 1) := by decide +kernel
theorem dX7_both_10 : decode cX7_both 10 = .ok (.invokevirtual 193, 3) := by decide +kernel
theorem dX7_both_13 : decode cX7_both 13 = .ok (.ifCond .eq 37, 3) := by decide +kernel
theorem dX7_both_16 : decode cX7_both 16 = .ok (.iload_n 1, 1) := by decide +kernel
theorem dX7_both_17 : decode cX7_both 17 = .ok (.iload_n 3, 1) := by decide +kernel
theorem dX7_both_18 : decode cX7_both 18 = .ok (.if_icmp .eq 32, 3) := by decide +kernel
theorem dX7_both_21 : decode cX7_both 21 = .ok (.iload_n 2, 1) := by decide +kernel
theorem dX7_both_22 : decode cX7_both 22 = .ok (.i2l, 1) := by decide +kernel
theorem dX7_both_23 : decode cX7_both 23 = .ok (.ldc2_w 235, 3) := by decide +kernel
theorem dX7_both_26 : decode cX7_both 26 = .ok (.ldc2_w 237, 3) := by decide +kernel
theorem dX7_both_29 : decode cX7_both 29 = .ok (.invokestatic 52, 3) := by decide +kernel
theorem dX7_both_32 : decode cX7_both 32 = .ok (.ifCond .eq 18, 3) := by decide +kernel
theorem dX7_both_35 : decode cX7_both 35 = .ok (.iload 4, 2) := by decide +kernel
theorem dX7_both_37 : decode cX7_both 37 = .ok (.i2l, 1) := by decide +kernel
theorem dX7_both_38 : decode cX7_both 38 = .ok (.ldc2_w 235, 3) := by decide +kernel
theorem dX7_both_41 : decode cX7_both 41 = .ok (.ldc2_w 237, 3) := by decide +kernel
theorem dX7_both_44 : decode cX7_both 44 = .ok (.invokestatic 52, 3) := by decide +kernel
theorem dX7_both_47 : decode cX7_both 47 = .ok (.ifCond .ne 8, 3) := by decide +kernel
theorem dX7_both_50 : decode cX7_both 50 = .ok (.aload_n 0, 1) := by decide +kernel
theorem dX7_both_51 : decode cX7_both 51 = .ok (.invokevirtual 84, 3) := by decide +kernel
theorem dX7_both_54 : decode cX7_both 54 = .ok (.ireturn, 1) := by decide +kernel
theorem dX7_both_55 : decode cX7_both 55 = .ok (.aload_n 0, 1) := by decide +kernel
theorem dX7_both_56 : decode cX7_both 56 = .ok (.iload_n 1, 1) := by decide +kernel
theorem dX7_both_57 : decode cX7_both 57 = .ok (.iload_n 2, 1) := by decide +kernel
theorem dX7_both_58 : decode cX7_both 58 = .ok (.iload_n 3, 1) := by decide +kernel
theorem dX7_both_59 : decode cX7_both 59 = .ok (.iload 4, 2) := by decide +kernel
theorem dX7_both_61 : decode cX7_both 61 = .ok (.invokevirtual 239, 3) := by decide +kernel
theorem dX7_both_64 : decode cX7_both 64 = .ok (.ireturn, 1) := by decide +kernel
theorem dX7_off_0 : decode cX7_off 0 = .ok (.iload_n 0, 1) := by decide +kernel
theorem dX7_off_1 : decode cX7_off 1 = .ok (.iload_n 1, 1) := by decide +kernel
theorem dX7_off_2 : decode cX7_off 2 = .ok (.if_icmp .ge 9, 3) := by decide +kernel
theorem dX7_off_5 : decode cX7_off 5 = .ok (.iload_n 1, 1) := by decide +kernel
theorem dX7_off_6 : decode cX7_off 6 = .ok (.iload_n 0, 1) := by decide +kernel
theorem dX7_off_7 : decode cX7_off 7 = .ok (.isub, 1) := by decide +kernel
theorem dX7_off_8 : decode cX7_off 8 = .ok (.goto 6, 3) := by decide +kernel
theorem dX7_off_11 : decode cX7_off 11 = .ok (.iload_n 0, 1) := by decide +kernel
theorem dX7_off_12 : decode cX7_off 12 = .ok (.iload_n 1, 1) := by decide +kernel
theorem dX7_off_13 : decode cX7_off 13 = .ok (.isub, 1) := by decide +kernel
theorem dX7_off_14 : decode cX7_off 14 = .ok (.ireturn, 1) := by decide +kernel
theorem dX7_hole_0 : decode cX7_hole 0 = .ok (.aload_n 0, 1) := by decide +kernel
theorem dX7_hole_1 : decode cX7_hole 1 = .ok (.iload_n 1, 1) := by decide +kernel
theorem dX7_hole_2 : decode cX7_hole 2 = .ok (.invokevirtual 193, 3) := by decide +kernel
theorem dX7_hole_5 : decode cX7_hole 5 = .ok (.ifCond .eq 27, 3) := by decide +kernel
theorem dX7_hole_8 : decode cX7_hole 8 = .ok (.iload_n 2, 1) := by decide +kernel
theorem dX7_hole_9 : decode cX7_hole 9 = .ok (.i2l, 1) := by decide +kernel
theorem dX7_hole_10 : decode cX7_hole 10 = .ok (.ldc2_w 235, 3) := by decide +kernel
theorem dX7_hole_13 : decode cX7_hole 13 = .ok (.ldc2_w 237, 3) := by decide +kernel
theorem dX7_hole_16 : decode cX7_hole 16 = .ok (.invokestatic 52, 3) := by decide +kernel
theorem dX7_hole_19 : decode cX7_hole 19 = .ok (.ifCond .eq 13, 3) := by decide +kernel
theorem dX7_hole_22 : decode cX7_hole 22 = .ok (.iload_n 3, 1) := by decide +kernel
theorem dX7_hole_23 : decode cX7_hole 23 = .ok (.i2l, 1) := by decide +kernel
theorem dX7_hole_24 : decode cX7_hole 24 = .ok (.lconst 0, 1) := by decide +kernel
theorem dX7_hole_25 : decode cX7_hole 25 = .ok (.lconst 1, 1) := by decide +kernel
theorem dX7_hole_26 : decode cX7_hole 26 = .ok (.invokestatic 52, 3) := by decide +kernel
theorem dX7_hole_29 : decode cX7_hole 29 = .ok (.ifCond .ne 8, 3) := by decide +kernel
theorem dX7_hole_32 : decode cX7_hole 32 = .ok (.aload_n 0, 1) := by decide +kernel
theorem dX7_hole_33 : decode cX7_hole 33 = .ok (.invokevirtual 84, 3) := by decide +kernel
theorem dX7_hole_36 : decode cX7_hole 36 = .ok (.ireturn, 1) := by decide +kernel
theorem dX7_hole_37 : decode cX7_hole 37 = .ok (.iconst 0, 1) := by decide +kernel
theorem dX7_hole_38 : decode cX7_hole 38 = .ok (.istore 4, 2) := by decide +kernel
theorem dX7_hole_40 : decode cX7_hole 40 = .ok (.iconst 1, 1) := by decide +kernel
theorem dX7_hole_41 : decode cX7_hole 41 = .ok (.istore 5, 2) := by decide +kernel
theorem dX7_hole_43 : decode cX7_hole 43 = .ok (.iload 5, 2) := by decide +kernel
theorem dX7_hole_45 : decode cX7_hole 45 = .ok (.bipush 9, 2) := by decide +kernel
theorem dX7_hole_47 : decode cX7_hole 47 = .ok (.if_icmp .ge 43, 3) := by decide +kernel
theorem dX7_hole_50 : decode cX7_hole 50 = .ok (.aload_n 0, 1) := by decide +kernel
theorem dX7_hole_51 : decode cX7_hole 51 = .ok (.iload_n 1, 1) := by decide +kernel
theorem dX7_hole_52 : decode cX7_hole 52 = .ok (.iload 5, 2) := by decide +kernel
theorem dX7_hole_54 : decode cX7_hole 54 = .ok (.invokevirtual 72, 3) := by decide +kernel
theorem dX7_hole_57 : decode cX7_hole 57 = .ok (.iload_n 2, 1) := by decide +kernel
theorem dX7_hole_58 : decode cX7_hole 58 = .ok (.invokestatic 242, 3) := by decide +kernel
theorem dX7_hole_61 : decode cX7_hole 61 = .ok (.aload_n 0, 1) := by decide +kernel
theorem dX7_hole_62 : decode cX7_hole 62 = .ok (.iload_n 1, 1) := by decide +kernel
theorem dX7_hole_63 : decode cX7_hole 63 = .ok (.iload 4, 2) := by decide +kernel
theorem dX7_hole_65 : decode cX7_hole 65 = .ok (.invokevirtual 72, 3) := by decide +kernel
theorem dX7_hole_68 : decode cX7_hole 68 = .ok (.iload_n 2, 1) := by decide +kernel
theorem dX7_hole_69 : decode cX7_hole 69 = .ok (.invokestatic 242, 3) := by decide +kernel
theorem dX7_hole_72 : decode cX7_hole 72 = .ok (.if_icmp .ge 8, 3) := by decide +kernel
theorem dX7_hole_75 : decode cX7_hole 75 = .ok (.iload 5, 2) := by decide +kernel
theorem dX7_hole_77 : decode cX7_hole 77 = .ok (.goto 5, 3) := by decide +kernel
theorem dX7_hole_80 : decode cX7_hole 80 = .ok (.iload 4, 2) := by decide +kernel
theorem dX7_hole_82 : decode cX7_hole 82 = .ok (.istore 4, 2) := by decide +kernel
theorem dX7_hole_84 : decode cX7_hole 84 = .ok (.iinc 5 1, 3) := by decide +kernel
theorem dX7_hole_87 : decode cX7_hole 87 = .ok (.goto (-44), 3) := by decide +kernel
theorem dX7_hole_90 : decode cX7_hole 90 = .ok (.iload_n 3, 1) := by decide +kernel
theorem dX7_hole_91 : decode cX7_hole 91 = .ok (.ifCond .ne 8, 3) := by decide +kernel
theorem dX7_hole_94 : decode cX7_hole 94 = .ok (.iload 4, 2) := by decide +kernel
theorem dX7_hole_96 : decode cX7_hole 96 = .ok (.goto 14, 3) := by decide +kernel
theorem dX7_hole_99 : decode cX7_hole 99 = .ok (.aload_n 0, 1) := by decide +kernel
theorem dX7_hole_100 : decode cX7_hole 100 = .ok (.iload_n 1, 1) := by decide +kernel
theorem dX7_hole_101 : decode cX7_hole 101 = .ok (.iload 4, 2) := by decide +kernel
theorem dX7_hole_103 : decode cX7_hole 103 = .ok (.invokevirtual 72, 3) := by decide +kernel
theorem dX7_hole_106 : decode cX7_hole 106 = .ok (.iload_n 2, 1) := by decide +kernel
theorem dX7_hole_107 : decode cX7_hole 107 = .ok (.invokestatic 242, 3) := by decide +kernel
theorem dX7_hole_110 : decode cX7_hole 110 = .ok (.ireturn, 1) := by decide +kernel
theorem dX7_beat_0 : decode cX7_beat 0 = .ok (.iload_n 1, 1) := by decide +kernel
theorem dX7_beat_1 : decode cX7_beat 1 = .ok (.i2l, 1) := by decide +kernel
theorem dX7_beat_2 : decode cX7_beat 2 = .ok (.lconst 0, 1) := by decide +kernel
theorem dX7_beat_3 : decode cX7_beat 3 = .ok (.ldc2_w 211, 3) := by decide +kernel
theorem dX7_beat_6 : decode cX7_beat 6 = .ok (.invokestatic 52, 3) := by decide +kernel
theorem dX7_beat_9 : decode cX7_beat 9 = .ok (.ifCond .eq 29, 3) := by decide +kernel
theorem dX7_beat_12 : decode cX7_beat 12 = .ok (.iload_n 2, 1) := by decide +kernel
theorem dX7_beat_13 : decode cX7_beat 13 = .ok (.i2l, 1) := by decide +kernel
theorem dX7_beat_14 : decode cX7_beat 14 = .ok (.lconst 0, 1) := by decide +kernel
theorem dX7_beat_15 : decode cX7_beat 15 = .ok (.ldc2_w 182, 3) := by decide +kernel
theorem dX7_beat_18 : decode cX7_beat 18 = .ok (.invokestatic 52, 3) := by decide +kernel
theorem dX7_beat_21 : decode cX7_beat 21 = .ok (.ifCond .eq 17, 3) := by decide +kernel
theorem dX7_beat_24 : decode cX7_beat 24 = .ok (.iload_n 3, 1) := by decide +kernel
theorem dX7_beat_25 : decode cX7_beat 25 = .ok (.i2l, 1) := by decide +kernel
theorem dX7_beat_26 : decode cX7_beat 26 = .ok (.ldc2_w 235, 3) := by decide +kernel
theorem dX7_beat_29 : decode cX7_beat 29 = .ok (.ldc2_w 237, 3) := by decide +kernel
theorem dX7_beat_32 : decode cX7_beat 32 = .ok (.invokestatic 52, 3) := by decide +kernel
theorem dX7_beat_35 : decode cX7_beat 35 = .ok (.ifCond .ne 8, 3) := by decide +kernel
theorem dX7_beat_38 : decode cX7_beat 38 = .ok (.aload_n 0, 1) := by decide +kernel
theorem dX7_beat_39 : decode cX7_beat 39 = .ok (.invokevirtual 84, 3) := by decide +kernel
theorem dX7_beat_42 : decode cX7_beat 42 = .ok (.ireturn, 1) := by decide +kernel
theorem dX7_beat_43 : decode cX7_beat 43 = .ok (.aload_n 0, 1) := by decide +kernel
theorem dX7_beat_44 : decode cX7_beat 44 = .ok (.getfield 7, 3) := by decide +kernel
theorem dX7_beat_47 : decode cX7_beat 47 = .ok (.bipush 54, 2) := by decide +kernel
theorem dX7_beat_49 : decode cX7_beat 49 = .ok (.iconst 2, 1) := by decide +kernel
theorem dX7_beat_50 : decode cX7_beat 50 = .ok (.iload_n 1, 1) := by decide +kernel
theorem dX7_beat_51 : decode cX7_beat 51 = .ok (.imul, 1) := by decide +kernel
theorem dX7_beat_52 : decode cX7_beat 52 = .ok (.iadd, 1) := by decide +kernel
theorem dX7_beat_53 : decode cX7_beat 53 = .ok (.iaload, 1) := by decide +kernel
theorem dX7_beat_54 : decode cX7_beat 54 = .ok (.istore 4, 2) := by decide +kernel
theorem dX7_beat_56 : decode cX7_beat 56 = .ok (.aload_n 0, 1) := by decide +kernel
theorem dX7_beat_57 : decode cX7_beat 57 = .ok (.getfield 7, 3) := by decide +kernel
theorem dX7_beat_60 : decode cX7_beat 60 = .ok (.bipush 54, 2) := by decide +kernel
theorem dX7_beat_62 : decode cX7_beat 62 = .ok (.iconst 2, 1) := by decide +kernel
theorem dX7_beat_63 : decode cX7_beat 63 = .ok (.iload_n 1, 1) := by decide +kernel
theorem dX7_beat_64 : decode cX7_beat 64 = .ok (.imul, 1) := by decide +kernel
theorem dX7_beat_65 : decode cX7_beat 65 = .ok (.iadd, 1) := by decide +kernel
theorem dX7_beat_66 : decode cX7_beat 66 = .ok (.iload_n 2, 1) := by decide +kernel
theorem dX7_beat_67 : decode cX7_beat 67 = .ok (.iastore, 1) := by decide +kernel
theorem dX7_beat_68 : decode cX7_beat 68 = .ok (.aload_n 0, 1) := by decide +kernel
theorem dX7_beat_69 : decode cX7_beat 69 = .ok (.getfield 7, 3) := by decide +kernel
theorem dX7_beat_72 : decode cX7_beat 72 = .ok (.bipush 54, 2) := by decide +kernel
theorem dX7_beat_74 : decode cX7_beat 74 = .ok (.iconst 2, 1) := by decide +kernel
theorem dX7_beat_75 : decode cX7_beat 75 = .ok (.iload_n 1, 1) := by decide +kernel
theorem dX7_beat_76 : decode cX7_beat 76 = .ok (.imul, 1) := by decide +kernel
theorem dX7_beat_77 : decode cX7_beat 77 = .ok (.iadd, 1) := by decide +kernel
theorem dX7_beat_78 : decode cX7_beat 78 = .ok (.iconst 1, 1) := by decide +kernel
theorem dX7_beat_79 : decode cX7_beat 79 = .ok (.iadd, 1) := by decide +kernel
theorem dX7_beat_80 : decode cX7_beat 80 = .ok (.iload_n 3, 1) := by decide +kernel
theorem dX7_beat_81 : decode cX7_beat 81 = .ok (.iastore, 1) := by decide +kernel
theorem dX7_beat_82 : decode cX7_beat 82 = .ok (.iload 4, 2) := by decide +kernel
theorem dX7_beat_84 : decode cX7_beat 84 = .ok (.ireturn, 1) := by decide +kernel
theorem dX7_dance_0 : decode cX7_dance 0 = .ok (.iload_n 1, 1) := by decide +kernel
theorem dX7_dance_1 : decode cX7_dance 1 = .ok (.i2l, 1) := by decide +kernel
theorem dX7_dance_2 : decode cX7_dance 2 = .ok (.lconst 0, 1) := by decide +kernel
theorem dX7_dance_3 : decode cX7_dance 3 = .ok (.ldc2_w 245, 3) := by decide +kernel
theorem dX7_dance_6 : decode cX7_dance 6 = .ok (.invokestatic 52, 3) := by decide +kernel
theorem dX7_dance_9 : decode cX7_dance 9 = .ok (.ifCond .ne 8, 3) := by decide +kernel
theorem dX7_dance_12 : decode cX7_dance 12 = .ok (.aload_n 0, 1) := by decide +kernel
theorem dX7_dance_13 : decode cX7_dance 13 = .ok (.invokevirtual 84, 3) := by decide +kernel
theorem dX7_dance_16 : decode cX7_dance 16 = .ok (.ireturn, 1) := by decide +kernel
theorem dX7_dance_17 : decode cX7_dance 17 = .ok (.aload_n 0, 1) := by decide +kernel
theorem dX7_dance_18 : decode cX7_dance 18 = .ok (.getfield 7, 3) := by decide +kernel
theorem dX7_dance_21 : decode cX7_dance 21 = .ok (.bipush 53, 2) := by decide +kernel
theorem dX7_dance_23 : decode cX7_dance 23 = .ok (.iaload, 1) := by decide +kernel
theorem dX7_dance_24 : decode cX7_dance 24 = .ok (.istore_n 2, 1) := by decide +kernel
theorem dX7_dance_25 : decode cX7_dance 25 = .ok (.aload_n 0, 1) := by decide +kernel
theorem dX7_dance_26 : decode cX7_dance 26 = .ok (.getfield 7, 3) := by decide +kernel
theorem dX7_dance_29 : decode cX7_dance 29 = .ok (.bipush 53, 2) := by decide +kernel
theorem dX7_dance_31 : decode cX7_dance 31 = .ok (.iload_n 1, 1) := by decide +kernel
theorem dX7_dance_32 : decode cX7_dance 32 = .ok (.iastore, 1) := by decide +kernel
theorem dX7_dance_33 : decode cX7_dance 33 = .ok (.iload_n 2, 1) := by decide +kernel
theorem dX7_dance_34 : decode cX7_dance 34 = .ok (.ireturn, 1) := by decide +kernel
theorem dX7_comesOut_0 : decode cX7_comesOut 0 = .ok (.aload_n 0, 1) := by decide +kernel
theorem dX7_comesOut_1 : decode cX7_comesOut 1 = .ok (.aload_n 0, 1) := by decide +kernel
theorem dX7_comesOut_2 : decode cX7_comesOut 2 = .ok (.getfield 7, 3) := by decide +kernel
theorem dX7_comesOut_5 : decode cX7_comesOut 5 = .ok (.bipush 53, 2) := by decide +kernel
theorem dX7_comesOut_7 : decode cX7_comesOut 7 = .ok (.iaload, 1) := by decide +kernel
theorem dX7_comesOut_8 : decode cX7_comesOut 8 = .ok (.invokevirtual 193, 3) := by decide +kernel
theorem dX7_comesOut_11 : decode cX7_comesOut 11 = .ok (.ifCond .ne 5, 3) := by decide +kernel
theorem dX7_comesOut_14 : decode cX7_comesOut 14 = .ok (.iconst 0, 1) := by decide +kernel
theorem dX7_comesOut_15 : decode cX7_comesOut 15 = .ok (.ireturn, 1) := by decide +kernel
theorem dX7_comesOut_16 : decode cX7_comesOut 16 = .ok (.aload_n 0, 1) := by decide +kernel
theorem dX7_comesOut_17 : decode cX7_comesOut 17 = .ok (.invokevirtual 222, 3) := by decide +kernel
theorem dX7_comesOut_20 : decode cX7_comesOut 20 = .ok (.iconst 0, 1) := by decide +kernel
theorem dX7_comesOut_21 : decode cX7_comesOut 21 = .ok (.istore_n 1, 1) := by decide +kernel
theorem dX7_comesOut_22 : decode cX7_comesOut 22 = .ok (.iconst 0, 1) := by decide +kernel
theorem dX7_comesOut_23 : decode cX7_comesOut 23 = .ok (.istore_n 2, 1) := by decide +kernel
theorem dX7_comesOut_24 : decode cX7_comesOut 24 = .ok (.iload_n 2, 1) := by decide +kernel
theorem dX7_comesOut_25 : decode cX7_comesOut 25 = .ok (.bipush 8, 2) := by decide +kernel
theorem dX7_comesOut_27 : decode cX7_comesOut 27 = .ok (.if_icmp .ge 59, 3) := by decide +kernel
theorem dX7_comesOut_30 : decode cX7_comesOut 30 = .ok (.aload_n 0, 1) := by decide +kernel
theorem dX7_comesOut_31 : decode cX7_comesOut 31 = .ok (.aload_n 0, 1) := by decide +kernel
theorem dX7_comesOut_32 : decode cX7_comesOut 32 = .ok (.getfield 7, 3) := by decide +kernel
theorem dX7_comesOut_35 : decode cX7_comesOut 35 = .ok (.bipush 54, 2) := by decide +kernel
theorem dX7_comesOut_37 : decode cX7_comesOut 37 = .ok (.iconst 2, 1) := by decide +kernel
theorem dX7_comesOut_38 : decode cX7_comesOut 38 = .ok (.iload_n 2, 1) := by decide +kernel
theorem dX7_comesOut_39 : decode cX7_comesOut 39 = .ok (.imul, 1) := by decide +kernel
theorem dX7_comesOut_40 : decode cX7_comesOut 40 = .ok (.iadd, 1) := by decide +kernel
theorem dX7_comesOut_41 : decode cX7_comesOut 41 = .ok (.iaload, 1) := by decide +kernel
theorem dX7_comesOut_42 : decode cX7_comesOut 42 = .ok (.invokevirtual 184, 3) := by decide +kernel
theorem dX7_comesOut_45 : decode cX7_comesOut 45 = .ok (.iload_n 1, 1) := by decide +kernel
theorem dX7_comesOut_46 : decode cX7_comesOut 46 = .ok (.aload_n 0, 1) := by decide +kernel
theorem dX7_comesOut_47 : decode cX7_comesOut 47 = .ok (.aload_n 0, 1) := by decide +kernel
theorem dX7_comesOut_48 : decode cX7_comesOut 48 = .ok (.getfield 7, 3) := by decide +kernel
theorem dX7_comesOut_51 : decode cX7_comesOut 51 = .ok (.bipush 53, 2) := by decide +kernel
theorem dX7_comesOut_53 : decode cX7_comesOut 53 = .ok (.iaload, 1) := by decide +kernel
theorem dX7_comesOut_54 : decode cX7_comesOut 54 = .ok (.invokevirtual 213, 3) := by decide +kernel
theorem dX7_comesOut_57 : decode cX7_comesOut 57 = .ok (.aload_n 0, 1) := by decide +kernel
theorem dX7_comesOut_58 : decode cX7_comesOut 58 = .ok (.getfield 7, 3) := by decide +kernel
theorem dX7_comesOut_61 : decode cX7_comesOut 61 = .ok (.bipush 54, 2) := by decide +kernel
theorem dX7_comesOut_63 : decode cX7_comesOut 63 = .ok (.iconst 2, 1) := by decide +kernel
theorem dX7_comesOut_64 : decode cX7_comesOut 64 = .ok (.iload_n 2, 1) := by decide +kernel
theorem dX7_comesOut_65 : decode cX7_comesOut 65 = .ok (.imul, 1) := by decide +kernel
theorem dX7_comesOut_66 : decode cX7_comesOut 66 = .ok (.iadd, 1) := by decide +kernel
theorem dX7_comesOut_67 : decode cX7_comesOut 67 = .ok (.iconst 1, 1) := by decide +kernel
theorem dX7_comesOut_68 : decode cX7_comesOut 68 = .ok (.iadd, 1) := by decide +kernel
theorem dX7_comesOut_69 : decode cX7_comesOut 69 = .ok (.iaload, 1) := by decide +kernel
theorem dX7_comesOut_70 : decode cX7_comesOut 70 = .ok (.if_icmp .ne 7, 3) := by decide +kernel
theorem dX7_comesOut_73 : decode cX7_comesOut 73 = .ok (.iconst 1, 1) := by decide +kernel
theorem dX7_comesOut_74 : decode cX7_comesOut 74 = .ok (.goto 4, 3) := by decide +kernel
theorem dX7_comesOut_77 : decode cX7_comesOut 77 = .ok (.iconst 0, 1) := by decide +kernel
theorem dX7_comesOut_78 : decode cX7_comesOut 78 = .ok (.iadd, 1) := by decide +kernel
theorem dX7_comesOut_79 : decode cX7_comesOut 79 = .ok (.istore_n 1, 1) := by decide +kernel
theorem dX7_comesOut_80 : decode cX7_comesOut 80 = .ok (.iinc 2 1, 3) := by decide +kernel
theorem dX7_comesOut_83 : decode cX7_comesOut 83 = .ok (.goto (-59), 3) := by decide +kernel
theorem dX7_comesOut_86 : decode cX7_comesOut 86 = .ok (.aload_n 0, 1) := by decide +kernel
theorem dX7_comesOut_87 : decode cX7_comesOut 87 = .ok (.invokevirtual 225, 3) := by decide +kernel
theorem dX7_comesOut_90 : decode cX7_comesOut 90 = .ok (.iload_n 1, 1) := by decide +kernel
theorem dX7_comesOut_91 : decode cX7_comesOut 91 = .ok (.ireturn, 1) := by decide +kernel
theorem dX7_snaps_0 : decode cX7_snaps 0 = .ok (.aload_n 0, 1) := by decide +kernel
theorem dX7_snaps_1 : decode cX7_snaps 1 = .ok (.invokevirtual 222, 3) := by decide +kernel
theorem dX7_snaps_4 : decode cX7_snaps 4 = .ok (.aload_n 0, 1) := by decide +kernel
theorem dX7_snaps_5 : decode cX7_snaps 5 = .ok (.invokevirtual 208, 3) := by decide +kernel
theorem dX7_snaps_8 : decode cX7_snaps 8 = .ok (.istore_n 1, 1) := by decide +kernel
theorem dX7_snaps_9 : decode cX7_snaps 9 = .ok (.sipush (-1001), 3) := by decide +kernel
theorem dX7_snaps_12 : decode cX7_snaps 12 = .ok (.istore_n 2, 1) := by decide +kernel
theorem dX7_snaps_13 : decode cX7_snaps 13 = .ok (.iconst 0, 1) := by decide +kernel
theorem dX7_snaps_14 : decode cX7_snaps 14 = .ok (.istore_n 3, 1) := by decide +kernel
theorem dX7_snaps_15 : decode cX7_snaps 15 = .ok (.iload_n 3, 1) := by decide +kernel
theorem dX7_snaps_16 : decode cX7_snaps 16 = .ok (.bipush 8, 2) := by decide +kernel
theorem dX7_snaps_18 : decode cX7_snaps 18 = .ok (.if_icmp .ge 45, 3) := by decide +kernel
theorem dX7_snaps_21 : decode cX7_snaps 21 = .ok (.aload_n 0, 1) := by decide +kernel
theorem dX7_snaps_22 : decode cX7_snaps 22 = .ok (.aload_n 0, 1) := by decide +kernel
theorem dX7_snaps_23 : decode cX7_snaps 23 = .ok (.getfield 7, 3) := by decide +kernel
theorem dX7_snaps_26 : decode cX7_snaps 26 = .ok (.bipush 54, 2) := by decide +kernel
theorem dX7_snaps_28 : decode cX7_snaps 28 = .ok (.iconst 2, 1) := by decide +kernel
theorem dX7_snaps_29 : decode cX7_snaps 29 = .ok (.iload_n 3, 1) := by decide +kernel
theorem dX7_snaps_30 : decode cX7_snaps 30 = .ok (.imul, 1) := by decide +kernel
theorem dX7_snaps_31 : decode cX7_snaps 31 = .ok (.iadd, 1) := by decide +kernel
theorem dX7_snaps_32 : decode cX7_snaps 32 = .ok (.iaload, 1) := by decide +kernel
theorem dX7_snaps_33 : decode cX7_snaps 33 = .ok (.invokevirtual 184, 3) := by decide +kernel
theorem dX7_snaps_36 : decode cX7_snaps 36 = .ok (.iload_n 2, 1) := by decide +kernel
theorem dX7_snaps_37 : decode cX7_snaps 37 = .ok (.sipush (-1001), 3) := by decide +kernel
theorem dX7_snaps_40 : decode cX7_snaps 40 = .ok (.if_icmp .ne 15, 3) := by decide +kernel
theorem dX7_snaps_43 : decode cX7_snaps 43 = .ok (.aload_n 0, 1) := by decide +kernel
theorem dX7_snaps_44 : decode cX7_snaps 44 = .ok (.invokevirtual 208, 3) := by decide +kernel
theorem dX7_snaps_47 : decode cX7_snaps 47 = .ok (.iload_n 1, 1) := by decide +kernel
theorem dX7_snaps_48 : decode cX7_snaps 48 = .ok (.if_icmp .le 7, 3) := by decide +kernel
theorem dX7_snaps_51 : decode cX7_snaps 51 = .ok (.iload_n 3, 1) := by decide +kernel
theorem dX7_snaps_52 : decode cX7_snaps 52 = .ok (.goto 4, 3) := by decide +kernel
theorem dX7_snaps_55 : decode cX7_snaps 55 = .ok (.iload_n 2, 1) := by decide +kernel
theorem dX7_snaps_56 : decode cX7_snaps 56 = .ok (.istore_n 2, 1) := by decide +kernel
theorem dX7_snaps_57 : decode cX7_snaps 57 = .ok (.iinc 3 1, 3) := by decide +kernel
theorem dX7_snaps_60 : decode cX7_snaps 60 = .ok (.goto (-45), 3) := by decide +kernel
theorem dX7_snaps_63 : decode cX7_snaps 63 = .ok (.aload_n 0, 1) := by decide +kernel
theorem dX7_snaps_64 : decode cX7_snaps 64 = .ok (.invokevirtual 225, 3) := by decide +kernel
theorem dX7_snaps_67 : decode cX7_snaps 67 = .ok (.iload_n 2, 1) := by decide +kernel
theorem dX7_snaps_68 : decode cX7_snaps 68 = .ok (.ireturn, 1) := by decide +kernel
theorem dX7_tells_0 : decode cX7_tells 0 = .ok (.aload_n 0, 1) := by decide +kernel
theorem dX7_tells_1 : decode cX7_tells 1 = .ok (.getfield 7, 3) := by decide +kernel
theorem dX7_tells_4 : decode cX7_tells 4 = .ok (.iload_n 1, 1) := by decide +kernel
theorem dX7_tells_5 : decode cX7_tells 5 = .ok (.iaload, 1) := by decide +kernel
theorem dX7_tells_6 : decode cX7_tells 6 = .ok (.iload_n 3, 1) := by decide +kernel
theorem dX7_tells_7 : decode cX7_tells 7 = .ok (.if_icmp .ne 8, 3) := by decide +kernel
theorem dX7_tells_10 : decode cX7_tells 10 = .ok (.aload_n 0, 1) := by decide +kernel
theorem dX7_tells_11 : decode cX7_tells 11 = .ok (.invokevirtual 100, 3) := by decide +kernel
theorem dX7_tells_14 : decode cX7_tells 14 = .ok (.ireturn, 1) := by decide +kernel
theorem dX7_tells_15 : decode cX7_tells 15 = .ok (.iload_n 1, 1) := by decide +kernel
theorem dX7_tells_16 : decode cX7_tells 16 = .ok (.iconst 1, 1) := by decide +kernel
theorem dX7_tells_17 : decode cX7_tells 17 = .ok (.iadd, 1) := by decide +kernel
theorem dX7_tells_18 : decode cX7_tells 18 = .ok (.iload_n 2, 1) := by decide +kernel
theorem dX7_tells_19 : decode cX7_tells 19 = .ok (.aload_n 0, 1) := by decide +kernel
theorem dX7_tells_20 : decode cX7_tells 20 = .ok (.getfield 7, 3) := by decide +kernel
theorem dX7_tells_23 : decode cX7_tells 23 = .ok (.iload_n 1, 1) := by decide +kernel
theorem dX7_tells_24 : decode cX7_tells 24 = .ok (.iaload, 1) := by decide +kernel
theorem dX7_tells_25 : decode cX7_tells 25 = .ok (.imul, 1) := by decide +kernel
theorem dX7_tells_26 : decode cX7_tells 26 = .ok (.iadd, 1) := by decide +kernel
theorem dX7_tells_27 : decode cX7_tells 27 = .ok (.istore 9, 2) := by decide +kernel
theorem dX7_tells_29 : decode cX7_tells 29 = .ok (.aload_n 0, 1) := by decide +kernel
theorem dX7_tells_30 : decode cX7_tells 30 = .ok (.getfield 7, 3) := by decide +kernel
theorem dX7_tells_33 : decode cX7_tells 33 = .ok (.iload 9, 2) := by decide +kernel
theorem dX7_tells_35 : decode cX7_tells 35 = .ok (.iload 4, 2) := by decide +kernel
theorem dX7_tells_37 : decode cX7_tells 37 = .ok (.iastore, 1) := by decide +kernel
theorem dX7_tells_38 : decode cX7_tells 38 = .ok (.aload_n 0, 1) := by decide +kernel
theorem dX7_tells_39 : decode cX7_tells 39 = .ok (.getfield 7, 3) := by decide +kernel
theorem dX7_tells_42 : decode cX7_tells 42 = .ok (.iload 9, 2) := by decide +kernel
theorem dX7_tells_44 : decode cX7_tells 44 = .ok (.iconst 1, 1) := by decide +kernel
theorem dX7_tells_45 : decode cX7_tells 45 = .ok (.iadd, 1) := by decide +kernel
theorem dX7_tells_46 : decode cX7_tells 46 = .ok (.iload 5, 2) := by decide +kernel
theorem dX7_tells_48 : decode cX7_tells 48 = .ok (.iastore, 1) := by decide +kernel
theorem dX7_tells_49 : decode cX7_tells 49 = .ok (.aload_n 0, 1) := by decide +kernel
theorem dX7_tells_50 : decode cX7_tells 50 = .ok (.getfield 7, 3) := by decide +kernel
theorem dX7_tells_53 : decode cX7_tells 53 = .ok (.iload 9, 2) := by decide +kernel
theorem dX7_tells_55 : decode cX7_tells 55 = .ok (.iconst 2, 1) := by decide +kernel
theorem dX7_tells_56 : decode cX7_tells 56 = .ok (.iadd, 1) := by decide +kernel
theorem dX7_tells_57 : decode cX7_tells 57 = .ok (.iload 6, 2) := by decide +kernel
theorem dX7_tells_59 : decode cX7_tells 59 = .ok (.iastore, 1) := by decide +kernel
theorem dX7_tells_60 : decode cX7_tells 60 = .ok (.aload_n 0, 1) := by decide +kernel
theorem dX7_tells_61 : decode cX7_tells 61 = .ok (.getfield 7, 3) := by decide +kernel
theorem dX7_tells_64 : decode cX7_tells 64 = .ok (.iload 9, 2) := by decide +kernel
theorem dX7_tells_66 : decode cX7_tells 66 = .ok (.iconst 3, 1) := by decide +kernel
theorem dX7_tells_67 : decode cX7_tells 67 = .ok (.iadd, 1) := by decide +kernel
theorem dX7_tells_68 : decode cX7_tells 68 = .ok (.iload 7, 2) := by decide +kernel
theorem dX7_tells_70 : decode cX7_tells 70 = .ok (.iastore, 1) := by decide +kernel
theorem dX7_tells_71 : decode cX7_tells 71 = .ok (.iload_n 2, 1) := by decide +kernel
theorem dX7_tells_72 : decode cX7_tells 72 = .ok (.iconst 5, 1) := by decide +kernel
theorem dX7_tells_73 : decode cX7_tells 73 = .ok (.if_icmp .ne 14, 3) := by decide +kernel
theorem dX7_tells_76 : decode cX7_tells 76 = .ok (.aload_n 0, 1) := by decide +kernel
theorem dX7_tells_77 : decode cX7_tells 77 = .ok (.getfield 7, 3) := by decide +kernel
theorem dX7_tells_80 : decode cX7_tells 80 = .ok (.iload 9, 2) := by decide +kernel
theorem dX7_tells_82 : decode cX7_tells 82 = .ok (.iconst 4, 1) := by decide +kernel
theorem dX7_tells_83 : decode cX7_tells 83 = .ok (.iadd, 1) := by decide +kernel
theorem dX7_tells_84 : decode cX7_tells 84 = .ok (.iload 8, 2) := by decide +kernel
theorem dX7_tells_86 : decode cX7_tells 86 = .ok (.iastore, 1) := by decide +kernel
theorem dX7_tells_87 : decode cX7_tells 87 = .ok (.aload_n 0, 1) := by decide +kernel
theorem dX7_tells_88 : decode cX7_tells 88 = .ok (.getfield 7, 3) := by decide +kernel
theorem dX7_tells_91 : decode cX7_tells 91 = .ok (.iload_n 1, 1) := by decide +kernel
theorem dX7_tells_92 : decode cX7_tells 92 = .ok (.dup2, 1) := by decide +kernel
theorem dX7_tells_93 : decode cX7_tells 93 = .ok (.iaload, 1) := by decide +kernel
theorem dX7_tells_94 : decode cX7_tells 94 = .ok (.iconst 1, 1) := by decide +kernel
theorem dX7_tells_95 : decode cX7_tells 95 = .ok (.iadd, 1) := by decide +kernel
theorem dX7_tells_96 : decode cX7_tells 96 = .ok (.iastore, 1) := by decide +kernel
theorem dX7_tells_97 : decode cX7_tells 97 = .ok (.aload_n 0, 1) := by decide +kernel
theorem dX7_tells_98 : decode cX7_tells 98 = .ok (.getfield 7, 3) := by decide +kernel
theorem dX7_tells_101 : decode cX7_tells 101 = .ok (.iload_n 1, 1) := by decide +kernel
theorem dX7_tells_102 : decode cX7_tells 102 = .ok (.iaload, 1) := by decide +kernel
theorem dX7_tells_103 : decode cX7_tells 103 = .ok (.ireturn, 1) := by decide +kernel
theorem dX7_seen_0 : decode cX7_seen 0 = .ok (.aload_n 0, 1) := by decide +kernel
theorem dX7_seen_1 : decode cX7_seen 1 = .ok (.iload_n 1, 1) := by decide +kernel
theorem dX7_seen_2 : decode cX7_seen 2 = .ok (.invokevirtual 193, 3) := by decide +kernel
theorem dX7_seen_5 : decode cX7_seen 5 = .ok (.ifCond .eq 42, 3) := by decide +kernel
theorem dX7_seen_8 : decode cX7_seen 8 = .ok (.iload_n 2, 1) := by decide +kernel
theorem dX7_seen_9 : decode cX7_seen 9 = .ok (.i2l, 1) := by decide +kernel
theorem dX7_seen_10 : decode cX7_seen 10 = .ok (.lconst 1, 1) := by decide +kernel
theorem dX7_seen_11 : decode cX7_seen 11 = .ok (.ldc2_w 92, 3) := by decide +kernel
theorem dX7_seen_14 : decode cX7_seen 14 = .ok (.invokestatic 52, 3) := by decide +kernel
theorem dX7_seen_17 : decode cX7_seen 17 = .ok (.ifCond .eq 30, 3) := by decide +kernel
theorem dX7_seen_20 : decode cX7_seen 20 = .ok (.iload_n 3, 1) := by decide +kernel
theorem dX7_seen_21 : decode cX7_seen 21 = .ok (.i2l, 1) := by decide +kernel
theorem dX7_seen_22 : decode cX7_seen 22 = .ok (.lconst 0, 1) := by decide +kernel
theorem dX7_seen_23 : decode cX7_seen 23 = .ok (.ldc2_w 237, 3) := by decide +kernel
theorem dX7_seen_26 : decode cX7_seen 26 = .ok (.invokestatic 52, 3) := by decide +kernel
theorem dX7_seen_29 : decode cX7_seen 29 = .ok (.ifCond .eq 18, 3) := by decide +kernel
theorem dX7_seen_32 : decode cX7_seen 32 = .ok (.iload 4, 2) := by decide +kernel
theorem dX7_seen_34 : decode cX7_seen 34 = .ok (.i2l, 1) := by decide +kernel
theorem dX7_seen_35 : decode cX7_seen 35 = .ok (.ldc2_w 235, 3) := by decide +kernel
theorem dX7_seen_38 : decode cX7_seen 38 = .ok (.ldc2_w 237, 3) := by decide +kernel
theorem dX7_seen_41 : decode cX7_seen 41 = .ok (.invokestatic 52, 3) := by decide +kernel
theorem dX7_seen_44 : decode cX7_seen 44 = .ok (.ifCond .ne 8, 3) := by decide +kernel
theorem dX7_seen_47 : decode cX7_seen 47 = .ok (.aload_n 0, 1) := by decide +kernel
theorem dX7_seen_48 : decode cX7_seen 48 = .ok (.invokevirtual 84, 3) := by decide +kernel
theorem dX7_seen_51 : decode cX7_seen 51 = .ok (.ireturn, 1) := by decide +kernel
theorem dX7_seen_52 : decode cX7_seen 52 = .ok (.aload_n 0, 1) := by decide +kernel
theorem dX7_seen_53 : decode cX7_seen 53 = .ok (.bipush 70, 2) := by decide +kernel
theorem dX7_seen_55 : decode cX7_seen 55 = .ok (.iconst 4, 1) := by decide +kernel
theorem dX7_seen_56 : decode cX7_seen 56 = .ok (.iconst 5, 1) := by decide +kernel
theorem dX7_seen_57 : decode cX7_seen 57 = .ok (.iload_n 1, 1) := by decide +kernel
theorem dX7_seen_58 : decode cX7_seen 58 = .ok (.iload_n 2, 1) := by decide +kernel
theorem dX7_seen_59 : decode cX7_seen 59 = .ok (.iload_n 3, 1) := by decide +kernel
theorem dX7_seen_60 : decode cX7_seen 60 = .ok (.iload 4, 2) := by decide +kernel
theorem dX7_seen_62 : decode cX7_seen 62 = .ok (.iconst 0, 1) := by decide +kernel
theorem dX7_seen_63 : decode cX7_seen 63 = .ok (.invokevirtual 247, 3) := by decide +kernel
theorem dX7_seen_66 : decode cX7_seen 66 = .ok (.ireturn, 1) := by decide +kernel
theorem dX7_note_0 : decode cX7_note 0 = .ok (.aload_n 0, 1) := by decide +kernel
theorem dX7_note_1 : decode cX7_note 1 = .ok (.iload_n 1, 1) := by decide +kernel
theorem dX7_note_2 : decode cX7_note 2 = .ok (.invokevirtual 193, 3) := by decide +kernel
theorem dX7_note_5 : decode cX7_note 5 = .ok (.ifCond .eq 53, 3) := by decide +kernel
theorem dX7_note_8 : decode cX7_note 8 = .ok (.iload_n 2, 1) := by decide +kernel
theorem dX7_note_9 : decode cX7_note 9 = .ok (.i2l, 1) := by decide +kernel
theorem dX7_note_10 : decode cX7_note 10 = .ok (.lconst 1, 1) := by decide +kernel
theorem dX7_note_11 : decode cX7_note 11 = .ok (.ldc2_w 92, 3) := by decide +kernel
theorem dX7_note_14 : decode cX7_note 14 = .ok (.invokestatic 52, 3) := by decide +kernel
theorem dX7_note_17 : decode cX7_note 17 = .ok (.ifCond .eq 41, 3) := by decide +kernel
theorem dX7_note_20 : decode cX7_note 20 = .ok (.iload_n 3, 1) := by decide +kernel
theorem dX7_note_21 : decode cX7_note 21 = .ok (.i2l, 1) := by decide +kernel
theorem dX7_note_22 : decode cX7_note 22 = .ok (.lconst 1, 1) := by decide +kernel
theorem dX7_note_23 : decode cX7_note 23 = .ok (.ldc2_w 90, 3) := by decide +kernel
theorem dX7_note_26 : decode cX7_note 26 = .ok (.invokestatic 52, 3) := by decide +kernel
theorem dX7_note_29 : decode cX7_note 29 = .ok (.ifCond .eq 29, 3) := by decide +kernel
theorem dX7_note_32 : decode cX7_note 32 = .ok (.iload 4, 2) := by decide +kernel
theorem dX7_note_34 : decode cX7_note 34 = .ok (.i2l, 1) := by decide +kernel
theorem dX7_note_35 : decode cX7_note 35 = .ok (.lconst 0, 1) := by decide +kernel
theorem dX7_note_36 : decode cX7_note 36 = .ok (.ldc2_w 251, 3) := by decide +kernel
theorem dX7_note_39 : decode cX7_note 39 = .ok (.invokestatic 52, 3) := by decide +kernel
theorem dX7_note_42 : decode cX7_note 42 = .ok (.ifCond .eq 16, 3) := by decide +kernel
theorem dX7_note_45 : decode cX7_note 45 = .ok (.iload 5, 2) := by decide +kernel
theorem dX7_note_47 : decode cX7_note 47 = .ok (.i2l, 1) := by decide +kernel
theorem dX7_note_48 : decode cX7_note 48 = .ok (.lconst 0, 1) := by decide +kernel
theorem dX7_note_49 : decode cX7_note 49 = .ok (.ldc2_w 237, 3) := by decide +kernel
theorem dX7_note_52 : decode cX7_note 52 = .ok (.invokestatic 52, 3) := by decide +kernel
theorem dX7_note_55 : decode cX7_note 55 = .ok (.ifCond .ne 8, 3) := by decide +kernel
theorem dX7_note_58 : decode cX7_note 58 = .ok (.aload_n 0, 1) := by decide +kernel
theorem dX7_note_59 : decode cX7_note 59 = .ok (.invokevirtual 84, 3) := by decide +kernel
theorem dX7_note_62 : decode cX7_note 62 = .ok (.ireturn, 1) := by decide +kernel
theorem dX7_note_63 : decode cX7_note 63 = .ok (.aload_n 0, 1) := by decide +kernel
theorem dX7_note_64 : decode cX7_note 64 = .ok (.bipush 91, 2) := by decide +kernel
theorem dX7_note_66 : decode cX7_note 66 = .ok (.iconst 5, 1) := by decide +kernel
theorem dX7_note_67 : decode cX7_note 67 = .ok (.bipush 6, 2) := by decide +kernel
theorem dX7_note_69 : decode cX7_note 69 = .ok (.iload_n 1, 1) := by decide +kernel
theorem dX7_note_70 : decode cX7_note 70 = .ok (.iload_n 2, 1) := by decide +kernel
theorem dX7_note_71 : decode cX7_note 71 = .ok (.iload_n 3, 1) := by decide +kernel
theorem dX7_note_72 : decode cX7_note 72 = .ok (.iload 4, 2) := by decide +kernel
theorem dX7_note_74 : decode cX7_note 74 = .ok (.iload 5, 2) := by decide +kernel
theorem dX7_note_76 : decode cX7_note 76 = .ok (.invokevirtual 247, 3) := by decide +kernel
theorem dX7_note_79 : decode cX7_note 79 = .ok (.ireturn, 1) := by decide +kernel
theorem dX7_mark_0 : decode cX7_mark 0 = .ok (.aload_n 0, 1) := by decide +kernel
theorem dX7_mark_1 : decode cX7_mark 1 = .ok (.iload_n 1, 1) := by decide +kernel
theorem dX7_mark_2 : decode cX7_mark 2 = .ok (.invokevirtual 193, 3) := by decide +kernel
theorem dX7_mark_5 : decode cX7_mark 5 = .ok (.ifCond .eq 44, 3) := by decide +kernel
theorem dX7_mark_8 : decode cX7_mark 8 = .ok (.iload_n 2, 1) := by decide +kernel
theorem dX7_mark_9 : decode cX7_mark 9 = .ok (.i2l, 1) := by decide +kernel
theorem dX7_mark_10 : decode cX7_mark 10 = .ok (.ldc2_w 235, 3) := by decide +kernel
theorem dX7_mark_13 : decode cX7_mark 13 = .ok (.ldc2_w 237, 3) := by decide +kernel
theorem dX7_mark_16 : decode cX7_mark 16 = .ok (.invokestatic 52, 3) := by decide +kernel
theorem dX7_mark_19 : decode cX7_mark 19 = .ok (.ifCond .eq 30, 3) := by decide +kernel
theorem dX7_mark_22 : decode cX7_mark 22 = .ok (.iload_n 3, 1) := by decide +kernel
theorem dX7_mark_23 : decode cX7_mark 23 = .ok (.i2l, 1) := by decide +kernel
theorem dX7_mark_24 : decode cX7_mark 24 = .ok (.lconst 0, 1) := by decide +kernel
theorem dX7_mark_25 : decode cX7_mark 25 = .ok (.ldc2_w 251, 3) := by decide +kernel
theorem dX7_mark_28 : decode cX7_mark 28 = .ok (.invokestatic 52, 3) := by decide +kernel
theorem dX7_mark_31 : decode cX7_mark 31 = .ok (.ifCond .eq 18, 3) := by decide +kernel
theorem dX7_mark_34 : decode cX7_mark 34 = .ok (.iload 4, 2) := by decide +kernel
theorem dX7_mark_36 : decode cX7_mark 36 = .ok (.i2l, 1) := by decide +kernel
theorem dX7_mark_37 : decode cX7_mark 37 = .ok (.ldc2_w 235, 3) := by decide +kernel
theorem dX7_mark_40 : decode cX7_mark 40 = .ok (.ldc2_w 237, 3) := by decide +kernel
theorem dX7_mark_43 : decode cX7_mark 43 = .ok (.invokestatic 52, 3) := by decide +kernel
theorem dX7_mark_46 : decode cX7_mark 46 = .ok (.ifCond .ne 8, 3) := by decide +kernel
theorem dX7_mark_49 : decode cX7_mark 49 = .ok (.aload_n 0, 1) := by decide +kernel
theorem dX7_mark_50 : decode cX7_mark 50 = .ok (.invokevirtual 84, 3) := by decide +kernel
theorem dX7_mark_53 : decode cX7_mark 53 = .ok (.ireturn, 1) := by decide +kernel
theorem dX7_mark_54 : decode cX7_mark 54 = .ok (.aload_n 0, 1) := by decide +kernel
theorem dX7_mark_55 : decode cX7_mark 55 = .ok (.bipush 122, 2) := by decide +kernel
theorem dX7_mark_57 : decode cX7_mark 57 = .ok (.iconst 4, 1) := by decide +kernel
theorem dX7_mark_58 : decode cX7_mark 58 = .ok (.bipush 6, 2) := by decide +kernel
theorem dX7_mark_60 : decode cX7_mark 60 = .ok (.iload_n 1, 1) := by decide +kernel
theorem dX7_mark_61 : decode cX7_mark 61 = .ok (.iload_n 2, 1) := by decide +kernel
theorem dX7_mark_62 : decode cX7_mark 62 = .ok (.iload_n 3, 1) := by decide +kernel
theorem dX7_mark_63 : decode cX7_mark 63 = .ok (.iload 4, 2) := by decide +kernel
theorem dX7_mark_65 : decode cX7_mark 65 = .ok (.iconst 0, 1) := by decide +kernel
theorem dX7_mark_66 : decode cX7_mark 66 = .ok (.invokevirtual 247, 3) := by decide +kernel
theorem dX7_mark_69 : decode cX7_mark 69 = .ok (.ireturn, 1) := by decide +kernel
theorem dX7_forget_0 : decode cX7_forget 0 = .ok (.iload_n 1, 1) := by decide +kernel
theorem dX7_forget_1 : decode cX7_forget 1 = .ok (.i2l, 1) := by decide +kernel
theorem dX7_forget_2 : decode cX7_forget 2 = .ok (.lconst 0, 1) := by decide +kernel
theorem dX7_forget_3 : decode cX7_forget 3 = .ok (.ldc2_w 253, 3) := by decide +kernel
theorem dX7_forget_6 : decode cX7_forget 6 = .ok (.invokestatic 52, 3) := by decide +kernel
theorem dX7_forget_9 : decode cX7_forget 9 = .ok (.ifCond .ne 8, 3) := by decide +kernel
theorem dX7_forget_12 : decode cX7_forget 12 = .ok (.aload_n 0, 1) := by decide +kernel
theorem dX7_forget_13 : decode cX7_forget 13 = .ok (.invokevirtual 84, 3) := by decide +kernel
theorem dX7_forget_16 : decode cX7_forget 16 = .ok (.ireturn, 1) := by decide +kernel
theorem dX7_forget_17 : decode cX7_forget 17 = .ok (.iload_n 1, 1) := by decide +kernel
theorem dX7_forget_18 : decode cX7_forget 18 = .ok (.ifCond .ne 8, 3) := by decide +kernel
theorem dX7_forget_21 : decode cX7_forget 21 = .ok (.bipush 70, 2) := by decide +kernel
theorem dX7_forget_23 : decode cX7_forget 23 = .ok (.goto 15, 3) := by decide +kernel
theorem dX7_forget_26 : decode cX7_forget 26 = .ok (.iload_n 1, 1) := by decide +kernel
theorem dX7_forget_27 : decode cX7_forget 27 = .ok (.iconst 1, 1) := by decide +kernel
theorem dX7_forget_28 : decode cX7_forget 28 = .ok (.if_icmp .ne 8, 3) := by decide +kernel
theorem dX7_forget_31 : decode cX7_forget 31 = .ok (.bipush 91, 2) := by decide +kernel
theorem dX7_forget_33 : decode cX7_forget 33 = .ok (.goto 5, 3) := by decide +kernel
theorem dX7_forget_36 : decode cX7_forget 36 = .ok (.bipush 122, 2) := by decide +kernel
theorem dX7_forget_38 : decode cX7_forget 38 = .ok (.istore_n 2, 1) := by decide +kernel
theorem dX7_forget_39 : decode cX7_forget 39 = .ok (.aload_n 0, 1) := by decide +kernel
theorem dX7_forget_40 : decode cX7_forget 40 = .ok (.getfield 7, 3) := by decide +kernel
theorem dX7_forget_43 : decode cX7_forget 43 = .ok (.iload_n 2, 1) := by decide +kernel
theorem dX7_forget_44 : decode cX7_forget 44 = .ok (.iaload, 1) := by decide +kernel
theorem dX7_forget_45 : decode cX7_forget 45 = .ok (.istore_n 3, 1) := by decide +kernel
theorem dX7_forget_46 : decode cX7_forget 46 = .ok (.aload_n 0, 1) := by decide +kernel
theorem dX7_forget_47 : decode cX7_forget 47 = .ok (.getfield 7, 3) := by decide +kernel
theorem dX7_forget_50 : decode cX7_forget 50 = .ok (.iload_n 2, 1) := by decide +kernel
theorem dX7_forget_51 : decode cX7_forget 51 = .ok (.iconst 0, 1) := by decide +kernel
theorem dX7_forget_52 : decode cX7_forget 52 = .ok (.iastore, 1) := by decide +kernel
theorem dX7_forget_53 : decode cX7_forget 53 = .ok (.iload_n 3, 1) := by decide +kernel
theorem dX7_forget_54 : decode cX7_forget 54 = .ok (.ireturn, 1) := by decide +kernel
theorem dX7_heavyHigh_0 : decode cX7_heavyHigh 0 = .ok (.aload_n 0, 1) := by decide +kernel
theorem dX7_heavyHigh_1 : decode cX7_heavyHigh 1 = .ok (.iload_n 1, 1) := by decide +kernel
theorem dX7_heavyHigh_2 : decode cX7_heavyHigh 2 = .ok (.iconst 0, 1) := by decide +kernel
theorem dX7_heavyHigh_3 : decode cX7_heavyHigh 3 = .ok (.invokevirtual 56, 3) := by decide +kernel
theorem dX7_heavyHigh_6 : decode cX7_heavyHigh 6 = .ok (.iload_n 3, 1) := by decide +kernel
theorem dX7_heavyHigh_7 : decode cX7_heavyHigh 7 = .ok (.aload_n 0, 1) := by decide +kernel
theorem dX7_heavyHigh_8 : decode cX7_heavyHigh 8 = .ok (.iload_n 1, 1) := by decide +kernel
theorem dX7_heavyHigh_9 : decode cX7_heavyHigh 9 = .ok (.iconst 1, 1) := by decide +kernel
theorem dX7_heavyHigh_10 : decode cX7_heavyHigh 10 = .ok (.invokevirtual 56, 3) := by decide +kernel
theorem dX7_heavyHigh_13 : decode cX7_heavyHigh 13 = .ok (.iload_n 2, 1) := by decide +kernel
theorem dX7_heavyHigh_14 : decode cX7_heavyHigh 14 = .ok (.iload 4, 2) := by decide +kernel
theorem dX7_heavyHigh_16 : decode cX7_heavyHigh 16 = .ok (.iconst 0, 1) := by decide +kernel
theorem dX7_heavyHigh_17 : decode cX7_heavyHigh 17 = .ok (.invokestatic 64, 3) := by decide +kernel
theorem dX7_heavyHigh_20 : decode cX7_heavyHigh 20 = .ok (.isub, 1) := by decide +kernel
theorem dX7_heavyHigh_21 : decode cX7_heavyHigh 21 = .ok (.iconst 0, 1) := by decide +kernel
theorem dX7_heavyHigh_22 : decode cX7_heavyHigh 22 = .ok (.invokestatic 68, 3) := by decide +kernel
theorem dX7_heavyHigh_25 : decode cX7_heavyHigh 25 = .ok (.ireturn, 1) := by decide +kernel
theorem dX7_weights_0 : decode cX7_weights 0 = .ok (.iconst 0, 1) := by decide +kernel
theorem dX7_weights_1 : decode cX7_weights 1 = .ok (.istore_n 2, 1) := by decide +kernel
theorem dX7_weights_2 : decode cX7_weights 2 = .ok (.iconst 1, 1) := by decide +kernel
theorem dX7_weights_3 : decode cX7_weights 3 = .ok (.istore_n 3, 1) := by decide +kernel
theorem dX7_weights_4 : decode cX7_weights 4 = .ok (.iload_n 3, 1) := by decide +kernel
theorem dX7_weights_5 : decode cX7_weights 5 = .ok (.bipush 10, 2) := by decide +kernel
theorem dX7_weights_7 : decode cX7_weights 7 = .ok (.if_icmp .ge 116, 3) := by decide +kernel
theorem dX7_weights_10 : decode cX7_weights 10 = .ok (.iconst 1, 1) := by decide +kernel
theorem dX7_weights_11 : decode cX7_weights 11 = .ok (.istore 4, 2) := by decide +kernel
theorem dX7_weights_13 : decode cX7_weights 13 = .ok (.iconst 0, 1) := by decide +kernel
theorem dX7_weights_14 : decode cX7_weights 14 = .ok (.istore 5, 2) := by decide +kernel
theorem dX7_weights_16 : decode cX7_weights 16 = .ok (.iload 5, 2) := by decide +kernel
theorem dX7_weights_18 : decode cX7_weights 18 = .ok (.aload_n 0, 1) := by decide +kernel
theorem dX7_weights_19 : decode cX7_weights 19 = .ok (.getfield 7, 3) := by decide +kernel
theorem dX7_weights_22 : decode cX7_weights 22 = .ok (.bipush 70, 2) := by decide +kernel
theorem dX7_weights_24 : decode cX7_weights 24 = .ok (.iaload, 1) := by decide +kernel
theorem dX7_weights_25 : decode cX7_weights 25 = .ok (.if_icmp .ge 77, 3) := by decide +kernel
theorem dX7_weights_28 : decode cX7_weights 28 = .ok (.bipush 71, 2) := by decide +kernel
theorem dX7_weights_30 : decode cX7_weights 30 = .ok (.iconst 4, 1) := by decide +kernel
theorem dX7_weights_31 : decode cX7_weights 31 = .ok (.iload 5, 2) := by decide +kernel
theorem dX7_weights_33 : decode cX7_weights 33 = .ok (.imul, 1) := by decide +kernel
theorem dX7_weights_34 : decode cX7_weights 34 = .ok (.iadd, 1) := by decide +kernel
theorem dX7_weights_35 : decode cX7_weights 35 = .ok (.istore 6, 2) := by decide +kernel
theorem dX7_weights_37 : decode cX7_weights 37 = .ok (.iload 4, 2) := by decide +kernel
theorem dX7_weights_39 : decode cX7_weights 39 = .ok (.ifCond .eq 54, 3) := by decide +kernel
theorem dX7_weights_42 : decode cX7_weights 42 = .ok (.aload_n 0, 1) := by decide +kernel
theorem dX7_weights_43 : decode cX7_weights 43 = .ok (.getfield 7, 3) := by decide +kernel
theorem dX7_weights_46 : decode cX7_weights 46 = .ok (.iload 6, 2) := by decide +kernel
theorem dX7_weights_48 : decode cX7_weights 48 = .ok (.iaload, 1) := by decide +kernel
theorem dX7_weights_49 : decode cX7_weights 49 = .ok (.iload_n 1, 1) := by decide +kernel
theorem dX7_weights_50 : decode cX7_weights 50 = .ok (.if_icmp .ne 39, 3) := by decide +kernel
theorem dX7_weights_53 : decode cX7_weights 53 = .ok (.aload_n 0, 1) := by decide +kernel
theorem dX7_weights_54 : decode cX7_weights 54 = .ok (.iload_n 1, 1) := by decide +kernel
theorem dX7_weights_55 : decode cX7_weights 55 = .ok (.aload_n 0, 1) := by decide +kernel
theorem dX7_weights_56 : decode cX7_weights 56 = .ok (.getfield 7, 3) := by decide +kernel
theorem dX7_weights_59 : decode cX7_weights 59 = .ok (.iload 6, 2) := by decide +kernel
theorem dX7_weights_61 : decode cX7_weights 61 = .ok (.iconst 1, 1) := by decide +kernel
theorem dX7_weights_62 : decode cX7_weights 62 = .ok (.iadd, 1) := by decide +kernel
theorem dX7_weights_63 : decode cX7_weights 63 = .ok (.iaload, 1) := by decide +kernel
theorem dX7_weights_64 : decode cX7_weights 64 = .ok (.aload_n 0, 1) := by decide +kernel
theorem dX7_weights_65 : decode cX7_weights 65 = .ok (.getfield 7, 3) := by decide +kernel
theorem dX7_weights_68 : decode cX7_weights 68 = .ok (.iload 6, 2) := by decide +kernel
theorem dX7_weights_70 : decode cX7_weights 70 = .ok (.iconst 2, 1) := by decide +kernel
theorem dX7_weights_71 : decode cX7_weights 71 = .ok (.iadd, 1) := by decide +kernel
theorem dX7_weights_72 : decode cX7_weights 72 = .ok (.iaload, 1) := by decide +kernel
theorem dX7_weights_73 : decode cX7_weights 73 = .ok (.iload_n 3, 1) := by decide +kernel
theorem dX7_weights_74 : decode cX7_weights 74 = .ok (.invokevirtual 255, 3) := by decide +kernel
theorem dX7_weights_77 : decode cX7_weights 77 = .ok (.aload_n 0, 1) := by decide +kernel
theorem dX7_weights_78 : decode cX7_weights 78 = .ok (.getfield 7, 3) := by decide +kernel
theorem dX7_weights_81 : decode cX7_weights 81 = .ok (.iload 6, 2) := by decide +kernel
theorem dX7_weights_83 : decode cX7_weights 83 = .ok (.iconst 3, 1) := by decide +kernel
theorem dX7_weights_84 : decode cX7_weights 84 = .ok (.iadd, 1) := by decide +kernel
theorem dX7_weights_85 : decode cX7_weights 85 = .ok (.iaload, 1) := by decide +kernel
theorem dX7_weights_86 : decode cX7_weights 86 = .ok (.if_icmp .ne 7, 3) := by decide +kernel
theorem dX7_weights_89 : decode cX7_weights 89 = .ok (.iconst 1, 1) := by decide +kernel
theorem dX7_weights_90 : decode cX7_weights 90 = .ok (.goto 4, 3) := by decide +kernel
theorem dX7_weights_93 : decode cX7_weights 93 = .ok (.iconst 0, 1) := by decide +kernel
theorem dX7_weights_94 : decode cX7_weights 94 = .ok (.istore 4, 2) := by decide +kernel
theorem dX7_weights_96 : decode cX7_weights 96 = .ok (.iinc 5 1, 3) := by decide +kernel
theorem dX7_weights_99 : decode cX7_weights 99 = .ok (.goto (-83), 3) := by decide +kernel
theorem dX7_weights_102 : decode cX7_weights 102 = .ok (.iload_n 2, 1) := by decide +kernel
theorem dX7_weights_103 : decode cX7_weights 103 = .ok (.iload 4, 2) := by decide +kernel
theorem dX7_weights_105 : decode cX7_weights 105 = .ok (.ifCond .eq 9, 3) := by decide +kernel
theorem dX7_weights_108 : decode cX7_weights 108 = .ok (.iconst 1, 1) := by decide +kernel
theorem dX7_weights_109 : decode cX7_weights 109 = .ok (.iload_n 3, 1) := by decide +kernel
theorem dX7_weights_110 : decode cX7_weights 110 = .ok (.ishl, 1) := by decide +kernel
theorem dX7_weights_111 : decode cX7_weights 111 = .ok (.goto 4, 3) := by decide +kernel
theorem dX7_weights_114 : decode cX7_weights 114 = .ok (.iconst 0, 1) := by decide +kernel
theorem dX7_weights_115 : decode cX7_weights 115 = .ok (.ior, 1) := by decide +kernel
theorem dX7_weights_116 : decode cX7_weights 116 = .ok (.istore_n 2, 1) := by decide +kernel
theorem dX7_weights_117 : decode cX7_weights 117 = .ok (.iinc 3 1, 3) := by decide +kernel
theorem dX7_weights_120 : decode cX7_weights 120 = .ok (.goto (-116), 3) := by decide +kernel
theorem dX7_weights_123 : decode cX7_weights 123 = .ok (.iload_n 2, 1) := by decide +kernel
theorem dX7_weights_124 : decode cX7_weights 124 = .ok (.ireturn, 1) := by decide +kernel
theorem dX7_heavy_0 : decode cX7_heavy 0 = .ok (.aload_n 0, 1) := by decide +kernel
theorem dX7_heavy_1 : decode cX7_heavy 1 = .ok (.iload_n 1, 1) := by decide +kernel
theorem dX7_heavy_2 : decode cX7_heavy 2 = .ok (.invokevirtual 193, 3) := by decide +kernel
theorem dX7_heavy_5 : decode cX7_heavy 5 = .ok (.ifCond .eq 15, 3) := by decide +kernel
theorem dX7_heavy_8 : decode cX7_heavy 8 = .ok (.iload_n 2, 1) := by decide +kernel
theorem dX7_heavy_9 : decode cX7_heavy 9 = .ok (.i2l, 1) := by decide +kernel
theorem dX7_heavy_10 : decode cX7_heavy 10 = .ok (.lconst 0, 1) := by decide +kernel
theorem dX7_heavy_11 : decode cX7_heavy 11 = .ok (.ldc2_w 253, 3) := by decide +kernel
theorem dX7_heavy_14 : decode cX7_heavy 14 = .ok (.invokestatic 52, 3) := by decide +kernel
theorem dX7_heavy_17 : decode cX7_heavy 17 = .ok (.ifCond .ne 8, 3) := by decide +kernel
theorem dX7_heavy_20 : decode cX7_heavy 20 = .ok (.aload_n 0, 1) := by decide +kernel
theorem dX7_heavy_21 : decode cX7_heavy 21 = .ok (.invokevirtual 84, 3) := by decide +kernel
theorem dX7_heavy_24 : decode cX7_heavy 24 = .ok (.ireturn, 1) := by decide +kernel
theorem dX7_heavy_25 : decode cX7_heavy 25 = .ok (.aload_n 0, 1) := by decide +kernel
theorem dX7_heavy_26 : decode cX7_heavy 26 = .ok (.iload_n 1, 1) := by decide +kernel
theorem dX7_heavy_27 : decode cX7_heavy 27 = .ok (.invokevirtual 258, 3) := by decide +kernel
theorem dX7_heavy_30 : decode cX7_heavy 30 = .ok (.istore_n 3, 1) := by decide +kernel
theorem dX7_heavy_31 : decode cX7_heavy 31 = .ok (.iconst 0, 1) := by decide +kernel
theorem dX7_heavy_32 : decode cX7_heavy 32 = .ok (.istore 4, 2) := by decide +kernel
theorem dX7_heavy_34 : decode cX7_heavy 34 = .ok (.sipush (-1001), 3) := by decide +kernel
theorem dX7_heavy_37 : decode cX7_heavy 37 = .ok (.istore 5, 2) := by decide +kernel
theorem dX7_heavy_39 : decode cX7_heavy 39 = .ok (.sipush (-1001), 3) := by decide +kernel
theorem dX7_heavy_42 : decode cX7_heavy 42 = .ok (.istore 6, 2) := by decide +kernel
theorem dX7_heavy_44 : decode cX7_heavy 44 = .ok (.iconst 1, 1) := by decide +kernel
theorem dX7_heavy_45 : decode cX7_heavy 45 = .ok (.istore 7, 2) := by decide +kernel
theorem dX7_heavy_47 : decode cX7_heavy 47 = .ok (.iload 7, 2) := by decide +kernel
theorem dX7_heavy_49 : decode cX7_heavy 49 = .ok (.bipush 10, 2) := by decide +kernel
theorem dX7_heavy_51 : decode cX7_heavy 51 = .ok (.if_icmp .ge 74, 3) := by decide +kernel
theorem dX7_heavy_54 : decode cX7_heavy 54 = .ok (.iload_n 3, 1) := by decide +kernel
theorem dX7_heavy_55 : decode cX7_heavy 55 = .ok (.iload 7, 2) := by decide +kernel
theorem dX7_heavy_57 : decode cX7_heavy 57 = .ok (.ishr, 1) := by decide +kernel
theorem dX7_heavy_58 : decode cX7_heavy 58 = .ok (.iconst 1, 1) := by decide +kernel
theorem dX7_heavy_59 : decode cX7_heavy 59 = .ok (.iand, 1) := by decide +kernel
theorem dX7_heavy_60 : decode cX7_heavy 60 = .ok (.iconst 1, 1) := by decide +kernel
theorem dX7_heavy_61 : decode cX7_heavy 61 = .ok (.if_icmp .ne 7, 3) := by decide +kernel
theorem dX7_heavy_64 : decode cX7_heavy 64 = .ok (.iconst 1, 1) := by decide +kernel
theorem dX7_heavy_65 : decode cX7_heavy 65 = .ok (.goto 4, 3) := by decide +kernel
theorem dX7_heavy_68 : decode cX7_heavy 68 = .ok (.iconst 0, 1) := by decide +kernel
theorem dX7_heavy_69 : decode cX7_heavy 69 = .ok (.istore 8, 2) := by decide +kernel
theorem dX7_heavy_71 : decode cX7_heavy 71 = .ok (.iload 8, 2) := by decide +kernel
theorem dX7_heavy_73 : decode cX7_heavy 73 = .ok (.ifCond .eq 13, 3) := by decide +kernel
theorem dX7_heavy_76 : decode cX7_heavy 76 = .ok (.iload 4, 2) := by decide +kernel
theorem dX7_heavy_78 : decode cX7_heavy 78 = .ok (.ifCond .ne 8, 3) := by decide +kernel
theorem dX7_heavy_81 : decode cX7_heavy 81 = .ok (.iload 7, 2) := by decide +kernel
theorem dX7_heavy_83 : decode cX7_heavy 83 = .ok (.goto 5, 3) := by decide +kernel
theorem dX7_heavy_86 : decode cX7_heavy 86 = .ok (.iload 5, 2) := by decide +kernel
theorem dX7_heavy_88 : decode cX7_heavy 88 = .ok (.istore 5, 2) := by decide +kernel
theorem dX7_heavy_90 : decode cX7_heavy 90 = .ok (.iload 8, 2) := by decide +kernel
theorem dX7_heavy_92 : decode cX7_heavy 92 = .ok (.ifCond .eq 8, 3) := by decide +kernel
theorem dX7_heavy_95 : decode cX7_heavy 95 = .ok (.iload 7, 2) := by decide +kernel
theorem dX7_heavy_97 : decode cX7_heavy 97 = .ok (.goto 5, 3) := by decide +kernel
theorem dX7_heavy_100 : decode cX7_heavy 100 = .ok (.iload 6, 2) := by decide +kernel
theorem dX7_heavy_102 : decode cX7_heavy 102 = .ok (.istore 6, 2) := by decide +kernel
theorem dX7_heavy_104 : decode cX7_heavy 104 = .ok (.iload 4, 2) := by decide +kernel
theorem dX7_heavy_106 : decode cX7_heavy 106 = .ok (.iload 8, 2) := by decide +kernel
theorem dX7_heavy_108 : decode cX7_heavy 108 = .ok (.ifCond .eq 7, 3) := by decide +kernel
theorem dX7_heavy_111 : decode cX7_heavy 111 = .ok (.iconst 1, 1) := by decide +kernel
theorem dX7_heavy_112 : decode cX7_heavy 112 = .ok (.goto 4, 3) := by decide +kernel
theorem dX7_heavy_115 : decode cX7_heavy 115 = .ok (.iconst 0, 1) := by decide +kernel
theorem dX7_heavy_116 : decode cX7_heavy 116 = .ok (.iadd, 1) := by decide +kernel
theorem dX7_heavy_117 : decode cX7_heavy 117 = .ok (.istore 4, 2) := by decide +kernel
theorem dX7_heavy_119 : decode cX7_heavy 119 = .ok (.iinc 7 1, 3) := by decide +kernel
theorem dX7_heavy_122 : decode cX7_heavy 122 = .ok (.goto (-75), 3) := by decide +kernel
theorem dX7_heavy_125 : decode cX7_heavy 125 = .ok (.iload_n 2, 1) := by decide +kernel
theorem dX7_heavy_126 : decode cX7_heavy 126 = .ok (.ifCond .ne 8, 3) := by decide +kernel
theorem dX7_heavy_129 : decode cX7_heavy 129 = .ok (.iload 4, 2) := by decide +kernel
theorem dX7_heavy_131 : decode cX7_heavy 131 = .ok (.goto 15, 3) := by decide +kernel
theorem dX7_heavy_134 : decode cX7_heavy 134 = .ok (.iload_n 2, 1) := by decide +kernel
theorem dX7_heavy_135 : decode cX7_heavy 135 = .ok (.iconst 1, 1) := by decide +kernel
theorem dX7_heavy_136 : decode cX7_heavy 136 = .ok (.if_icmp .ne 8, 3) := by decide +kernel
theorem dX7_heavy_139 : decode cX7_heavy 139 = .ok (.iload 5, 2) := by decide +kernel
theorem dX7_heavy_141 : decode cX7_heavy 141 = .ok (.goto 5, 3) := by decide +kernel
theorem dX7_heavy_144 : decode cX7_heavy 144 = .ok (.iload 6, 2) := by decide +kernel
theorem dX7_heavy_146 : decode cX7_heavy 146 = .ok (.ireturn, 1) := by decide +kernel
theorem dX7_parted_0 : decode cX7_parted 0 = .ok (.iconst 0, 1) := by decide +kernel
theorem dX7_parted_1 : decode cX7_parted 1 = .ok (.istore_n 3, 1) := by decide +kernel
theorem dX7_parted_2 : decode cX7_parted 2 = .ok (.iconst 0, 1) := by decide +kernel
theorem dX7_parted_3 : decode cX7_parted 3 = .ok (.istore 4, 2) := by decide +kernel
theorem dX7_parted_5 : decode cX7_parted 5 = .ok (.iload 4, 2) := by decide +kernel
theorem dX7_parted_7 : decode cX7_parted 7 = .ok (.iload_n 2, 1) := by decide +kernel
theorem dX7_parted_8 : decode cX7_parted 8 = .ok (.if_icmp .ge 82, 3) := by decide +kernel
theorem dX7_parted_11 : decode cX7_parted 11 = .ok (.iconst 0, 1) := by decide +kernel
theorem dX7_parted_12 : decode cX7_parted 12 = .ok (.istore 5, 2) := by decide +kernel
theorem dX7_parted_14 : decode cX7_parted 14 = .ok (.iconst 0, 1) := by decide +kernel
theorem dX7_parted_15 : decode cX7_parted 15 = .ok (.istore 6, 2) := by decide +kernel
theorem dX7_parted_17 : decode cX7_parted 17 = .ok (.iload 6, 2) := by decide +kernel
theorem dX7_parted_19 : decode cX7_parted 19 = .ok (.iload_n 2, 1) := by decide +kernel
theorem dX7_parted_20 : decode cX7_parted 20 = .ok (.if_icmp .ge 51, 3) := by decide +kernel
theorem dX7_parted_23 : decode cX7_parted 23 = .ok (.iload 5, 2) := by decide +kernel
theorem dX7_parted_25 : decode cX7_parted 25 = .ok (.iload_n 1, 1) := by decide +kernel
theorem dX7_parted_26 : decode cX7_parted 26 = .ok (.iload 4, 2) := by decide +kernel
theorem dX7_parted_28 : decode cX7_parted 28 = .ok (.ishr, 1) := by decide +kernel
theorem dX7_parted_29 : decode cX7_parted 29 = .ok (.iload_n 1, 1) := by decide +kernel
theorem dX7_parted_30 : decode cX7_parted 30 = .ok (.iload 6, 2) := by decide +kernel
theorem dX7_parted_32 : decode cX7_parted 32 = .ok (.ishr, 1) := by decide +kernel
theorem dX7_parted_33 : decode cX7_parted 33 = .ok (.iand, 1) := by decide +kernel
theorem dX7_parted_34 : decode cX7_parted 34 = .ok (.iconst 1, 1) := by decide +kernel
theorem dX7_parted_35 : decode cX7_parted 35 = .ok (.iand, 1) := by decide +kernel
theorem dX7_parted_36 : decode cX7_parted 36 = .ok (.iconst 1, 1) := by decide +kernel
theorem dX7_parted_37 : decode cX7_parted 37 = .ok (.if_icmp .ne 24, 3) := by decide +kernel
theorem dX7_parted_40 : decode cX7_parted 40 = .ok (.aload_n 0, 1) := by decide +kernel
theorem dX7_parted_41 : decode cX7_parted 41 = .ok (.getfield 26, 3) := by decide +kernel
theorem dX7_parted_44 : decode cX7_parted 44 = .ok (.iload 4, 2) := by decide +kernel
theorem dX7_parted_46 : decode cX7_parted 46 = .ok (.iaload, 1) := by decide +kernel
theorem dX7_parted_47 : decode cX7_parted 47 = .ok (.aload_n 0, 1) := by decide +kernel
theorem dX7_parted_48 : decode cX7_parted 48 = .ok (.getfield 26, 3) := by decide +kernel
theorem dX7_parted_51 : decode cX7_parted 51 = .ok (.iload 6, 2) := by decide +kernel
theorem dX7_parted_53 : decode cX7_parted 53 = .ok (.iaload, 1) := by decide +kernel
theorem dX7_parted_54 : decode cX7_parted 54 = .ok (.if_icmp .ne 7, 3) := by decide +kernel
theorem dX7_parted_57 : decode cX7_parted 57 = .ok (.iconst 1, 1) := by decide +kernel
theorem dX7_parted_58 : decode cX7_parted 58 = .ok (.goto 4, 3) := by decide +kernel
theorem dX7_parted_61 : decode cX7_parted 61 = .ok (.iconst 0, 1) := by decide +kernel
theorem dX7_parted_62 : decode cX7_parted 62 = .ok (.iadd, 1) := by decide +kernel
theorem dX7_parted_63 : decode cX7_parted 63 = .ok (.istore 5, 2) := by decide +kernel
theorem dX7_parted_65 : decode cX7_parted 65 = .ok (.iinc 6 1, 3) := by decide +kernel
theorem dX7_parted_68 : decode cX7_parted 68 = .ok (.goto (-51), 3) := by decide +kernel
theorem dX7_parted_71 : decode cX7_parted 71 = .ok (.iload 5, 2) := by decide +kernel
theorem dX7_parted_73 : decode cX7_parted 73 = .ok (.iload_n 3, 1) := by decide +kernel
theorem dX7_parted_74 : decode cX7_parted 74 = .ok (.if_icmp .le 8, 3) := by decide +kernel
theorem dX7_parted_77 : decode cX7_parted 77 = .ok (.iload 5, 2) := by decide +kernel
theorem dX7_parted_79 : decode cX7_parted 79 = .ok (.goto 4, 3) := by decide +kernel
theorem dX7_parted_82 : decode cX7_parted 82 = .ok (.iload_n 3, 1) := by decide +kernel
theorem dX7_parted_83 : decode cX7_parted 83 = .ok (.istore_n 3, 1) := by decide +kernel
theorem dX7_parted_84 : decode cX7_parted 84 = .ok (.iinc 4 1, 3) := by decide +kernel
theorem dX7_parted_87 : decode cX7_parted 87 = .ok (.goto (-82), 3) := by decide +kernel
theorem dX7_parted_90 : decode cX7_parted 90 = .ok (.iload_n 3, 1) := by decide +kernel
theorem dX7_parted_91 : decode cX7_parted 91 = .ok (.ireturn, 1) := by decide +kernel
theorem dX7_tell_0 : decode cX7_tell 0 = .ok (.aload_n 0, 1) := by decide +kernel
theorem dX7_tell_1 : decode cX7_tell 1 = .ok (.iload_n 1, 1) := by decide +kernel
theorem dX7_tell_2 : decode cX7_tell 2 = .ok (.invokevirtual 193, 3) := by decide +kernel
theorem dX7_tell_5 : decode cX7_tell 5 = .ok (.ifCond .ne 8, 3) := by decide +kernel
theorem dX7_tell_8 : decode cX7_tell 8 = .ok (.aload_n 0, 1) := by decide +kernel
theorem dX7_tell_9 : decode cX7_tell 9 = .ok (.invokevirtual 84, 3) := by decide +kernel
theorem dX7_tell_12 : decode cX7_tell 12 = .ok (.ireturn, 1) := by decide +kernel
theorem dX7_tell_13 : decode cX7_tell 13 = .ok (.aload_n 0, 1) := by decide +kernel
theorem dX7_tell_14 : decode cX7_tell 14 = .ok (.iload_n 1, 1) := by decide +kernel
theorem dX7_tell_15 : decode cX7_tell 15 = .ok (.invokevirtual 258, 3) := by decide +kernel
theorem dX7_tell_18 : decode cX7_tell 18 = .ok (.istore_n 2, 1) := by decide +kernel
theorem dX7_tell_19 : decode cX7_tell 19 = .ok (.sipush (-1001), 3) := by decide +kernel
theorem dX7_tell_22 : decode cX7_tell 22 = .ok (.istore_n 3, 1) := by decide +kernel
theorem dX7_tell_23 : decode cX7_tell 23 = .ok (.bipush 99, 2) := by decide +kernel
theorem dX7_tell_25 : decode cX7_tell 25 = .ok (.istore 4, 2) := by decide +kernel
theorem dX7_tell_27 : decode cX7_tell 27 = .ok (.iconst 1, 1) := by decide +kernel
theorem dX7_tell_28 : decode cX7_tell 28 = .ok (.istore 5, 2) := by decide +kernel
theorem dX7_tell_30 : decode cX7_tell 30 = .ok (.iload 5, 2) := by decide +kernel
theorem dX7_tell_32 : decode cX7_tell 32 = .ok (.bipush 21, 2) := by decide +kernel
theorem dX7_tell_34 : decode cX7_tell 34 = .ok (.if_icmp .ge 86, 3) := by decide +kernel
theorem dX7_tell_37 : decode cX7_tell 37 = .ok (.iload_n 2, 1) := by decide +kernel
theorem dX7_tell_38 : decode cX7_tell 38 = .ok (.ifCond .eq 82, 3) := by decide +kernel
theorem dX7_tell_41 : decode cX7_tell 41 = .ok (.iconst 0, 1) := by decide +kernel
theorem dX7_tell_42 : decode cX7_tell 42 = .ok (.istore 6, 2) := by decide +kernel
theorem dX7_tell_44 : decode cX7_tell 44 = .ok (.iload 6, 2) := by decide +kernel
theorem dX7_tell_46 : decode cX7_tell 46 = .ok (.bipush 10, 2) := by decide +kernel
theorem dX7_tell_48 : decode cX7_tell 48 = .ok (.if_icmp .ge 27, 3) := by decide +kernel
theorem dX7_tell_51 : decode cX7_tell 51 = .ok (.aload_n 0, 1) := by decide +kernel
theorem dX7_tell_52 : decode cX7_tell 52 = .ok (.getfield 26, 3) := by decide +kernel
theorem dX7_tell_55 : decode cX7_tell 55 = .ok (.iload 6, 2) := by decide +kernel
theorem dX7_tell_57 : decode cX7_tell 57 = .ok (.aload_n 0, 1) := by decide +kernel
theorem dX7_tell_58 : decode cX7_tell 58 = .ok (.iload_n 1, 1) := by decide +kernel
theorem dX7_tell_59 : decode cX7_tell 59 = .ok (.iload 5, 2) := by decide +kernel
theorem dX7_tell_61 : decode cX7_tell 61 = .ok (.bipush 30, 2) := by decide +kernel
theorem dX7_tell_63 : decode cX7_tell 63 = .ok (.iload 6, 2) := by decide +kernel
theorem dX7_tell_65 : decode cX7_tell 65 = .ok (.invokevirtual 255, 3) := by decide +kernel
theorem dX7_tell_68 : decode cX7_tell 68 = .ok (.iastore, 1) := by decide +kernel
theorem dX7_tell_69 : decode cX7_tell 69 = .ok (.iinc 6 1, 3) := by decide +kernel
theorem dX7_tell_72 : decode cX7_tell 72 = .ok (.goto (-28), 3) := by decide +kernel
theorem dX7_tell_75 : decode cX7_tell 75 = .ok (.aload_n 0, 1) := by decide +kernel
theorem dX7_tell_76 : decode cX7_tell 76 = .ok (.iload_n 2, 1) := by decide +kernel
theorem dX7_tell_77 : decode cX7_tell 77 = .ok (.bipush 10, 2) := by decide +kernel
theorem dX7_tell_79 : decode cX7_tell 79 = .ok (.invokevirtual 261, 3) := by decide +kernel
theorem dX7_tell_82 : decode cX7_tell 82 = .ok (.istore 6, 2) := by decide +kernel
theorem dX7_tell_84 : decode cX7_tell 84 = .ok (.iload 6, 2) := by decide +kernel
theorem dX7_tell_86 : decode cX7_tell 86 = .ok (.iload 4, 2) := by decide +kernel
theorem dX7_tell_88 : decode cX7_tell 88 = .ok (.if_icmp .ge 8, 3) := by decide +kernel
theorem dX7_tell_91 : decode cX7_tell 91 = .ok (.iload 5, 2) := by decide +kernel
theorem dX7_tell_93 : decode cX7_tell 93 = .ok (.goto 4, 3) := by decide +kernel
theorem dX7_tell_96 : decode cX7_tell 96 = .ok (.iload_n 3, 1) := by decide +kernel
theorem dX7_tell_97 : decode cX7_tell 97 = .ok (.istore_n 3, 1) := by decide +kernel
theorem dX7_tell_98 : decode cX7_tell 98 = .ok (.iload 6, 2) := by decide +kernel
theorem dX7_tell_100 : decode cX7_tell 100 = .ok (.iload 4, 2) := by decide +kernel
theorem dX7_tell_102 : decode cX7_tell 102 = .ok (.if_icmp .ge 8, 3) := by decide +kernel
theorem dX7_tell_105 : decode cX7_tell 105 = .ok (.iload 6, 2) := by decide +kernel
theorem dX7_tell_107 : decode cX7_tell 107 = .ok (.goto 5, 3) := by decide +kernel
theorem dX7_tell_110 : decode cX7_tell 110 = .ok (.iload 4, 2) := by decide +kernel
theorem dX7_tell_112 : decode cX7_tell 112 = .ok (.istore 4, 2) := by decide +kernel
theorem dX7_tell_114 : decode cX7_tell 114 = .ok (.iinc 5 1, 3) := by decide +kernel
theorem dX7_tell_117 : decode cX7_tell 117 = .ok (.goto (-87), 3) := by decide +kernel
theorem dX7_tell_120 : decode cX7_tell 120 = .ok (.iload_n 3, 1) := by decide +kernel
theorem dX7_tell_121 : decode cX7_tell 121 = .ok (.ireturn, 1) := by decide +kernel
theorem dX7_stringsOf_0 : decode cX7_stringsOf 0 = .ok (.iconst 0, 1) := by decide +kernel
theorem dX7_stringsOf_1 : decode cX7_stringsOf 1 = .ok (.istore_n 2, 1) := by decide +kernel
theorem dX7_stringsOf_2 : decode cX7_stringsOf 2 = .ok (.iconst 0, 1) := by decide +kernel
theorem dX7_stringsOf_3 : decode cX7_stringsOf 3 = .ok (.istore_n 3, 1) := by decide +kernel
theorem dX7_stringsOf_4 : decode cX7_stringsOf 4 = .ok (.iload_n 3, 1) := by decide +kernel
theorem dX7_stringsOf_5 : decode cX7_stringsOf 5 = .ok (.bipush 6, 2) := by decide +kernel
theorem dX7_stringsOf_7 : decode cX7_stringsOf 7 = .ok (.if_icmp .ge 123, 3) := by decide +kernel
theorem dX7_stringsOf_10 : decode cX7_stringsOf 10 = .ok (.iconst 1, 1) := by decide +kernel
theorem dX7_stringsOf_11 : decode cX7_stringsOf 11 = .ok (.istore 4, 2) := by decide +kernel
theorem dX7_stringsOf_13 : decode cX7_stringsOf 13 = .ok (.iconst 0, 1) := by decide +kernel
theorem dX7_stringsOf_14 : decode cX7_stringsOf 14 = .ok (.istore 5, 2) := by decide +kernel
theorem dX7_stringsOf_16 : decode cX7_stringsOf 16 = .ok (.iload 5, 2) := by decide +kernel
theorem dX7_stringsOf_18 : decode cX7_stringsOf 18 = .ok (.aload_n 0, 1) := by decide +kernel
theorem dX7_stringsOf_19 : decode cX7_stringsOf 19 = .ok (.getfield 7, 3) := by decide +kernel
theorem dX7_stringsOf_22 : decode cX7_stringsOf 22 = .ok (.bipush 91, 2) := by decide +kernel
theorem dX7_stringsOf_24 : decode cX7_stringsOf 24 = .ok (.iaload, 1) := by decide +kernel
theorem dX7_stringsOf_25 : decode cX7_stringsOf 25 = .ok (.if_icmp .ge 84, 3) := by decide +kernel
theorem dX7_stringsOf_28 : decode cX7_stringsOf 28 = .ok (.bipush 92, 2) := by decide +kernel
theorem dX7_stringsOf_30 : decode cX7_stringsOf 30 = .ok (.iconst 5, 1) := by decide +kernel
theorem dX7_stringsOf_31 : decode cX7_stringsOf 31 = .ok (.iload 5, 2) := by decide +kernel
theorem dX7_stringsOf_33 : decode cX7_stringsOf 33 = .ok (.imul, 1) := by decide +kernel
theorem dX7_stringsOf_34 : decode cX7_stringsOf 34 = .ok (.iadd, 1) := by decide +kernel
theorem dX7_stringsOf_35 : decode cX7_stringsOf 35 = .ok (.istore 6, 2) := by decide +kernel
theorem dX7_stringsOf_37 : decode cX7_stringsOf 37 = .ok (.iload 4, 2) := by decide +kernel
theorem dX7_stringsOf_39 : decode cX7_stringsOf 39 = .ok (.ifCond .eq 61, 3) := by decide +kernel
theorem dX7_stringsOf_42 : decode cX7_stringsOf 42 = .ok (.aload_n 0, 1) := by decide +kernel
theorem dX7_stringsOf_43 : decode cX7_stringsOf 43 = .ok (.getfield 7, 3) := by decide +kernel
theorem dX7_stringsOf_46 : decode cX7_stringsOf 46 = .ok (.iload 6, 2) := by decide +kernel
theorem dX7_stringsOf_48 : decode cX7_stringsOf 48 = .ok (.iaload, 1) := by decide +kernel
theorem dX7_stringsOf_49 : decode cX7_stringsOf 49 = .ok (.iload_n 1, 1) := by decide +kernel
theorem dX7_stringsOf_50 : decode cX7_stringsOf 50 = .ok (.if_icmp .ne 46, 3) := by decide +kernel
theorem dX7_stringsOf_53 : decode cX7_stringsOf 53 = .ok (.iload_n 3, 1) := by decide +kernel
theorem dX7_stringsOf_54 : decode cX7_stringsOf 54 = .ok (.aload_n 0, 1) := by decide +kernel
theorem dX7_stringsOf_55 : decode cX7_stringsOf 55 = .ok (.getfield 7, 3) := by decide +kernel
theorem dX7_stringsOf_58 : decode cX7_stringsOf 58 = .ok (.iload 6, 2) := by decide +kernel
theorem dX7_stringsOf_60 : decode cX7_stringsOf 60 = .ok (.iconst 1, 1) := by decide +kernel
theorem dX7_stringsOf_61 : decode cX7_stringsOf 61 = .ok (.iadd, 1) := by decide +kernel
theorem dX7_stringsOf_62 : decode cX7_stringsOf 62 = .ok (.iaload, 1) := by decide +kernel
theorem dX7_stringsOf_63 : decode cX7_stringsOf 63 = .ok (.aload_n 0, 1) := by decide +kernel
theorem dX7_stringsOf_64 : decode cX7_stringsOf 64 = .ok (.getfield 7, 3) := by decide +kernel
theorem dX7_stringsOf_67 : decode cX7_stringsOf 67 = .ok (.iload 6, 2) := by decide +kernel
theorem dX7_stringsOf_69 : decode cX7_stringsOf 69 = .ok (.iconst 2, 1) := by decide +kernel
theorem dX7_stringsOf_70 : decode cX7_stringsOf 70 = .ok (.iadd, 1) := by decide +kernel
theorem dX7_stringsOf_71 : decode cX7_stringsOf 71 = .ok (.iaload, 1) := by decide +kernel
theorem dX7_stringsOf_72 : decode cX7_stringsOf 72 = .ok (.aload_n 0, 1) := by decide +kernel
theorem dX7_stringsOf_73 : decode cX7_stringsOf 73 = .ok (.getfield 7, 3) := by decide +kernel
theorem dX7_stringsOf_76 : decode cX7_stringsOf 76 = .ok (.iload 6, 2) := by decide +kernel
theorem dX7_stringsOf_78 : decode cX7_stringsOf 78 = .ok (.iconst 3, 1) := by decide +kernel
theorem dX7_stringsOf_79 : decode cX7_stringsOf 79 = .ok (.iadd, 1) := by decide +kernel
theorem dX7_stringsOf_80 : decode cX7_stringsOf 80 = .ok (.iaload, 1) := by decide +kernel
theorem dX7_stringsOf_81 : decode cX7_stringsOf 81 = .ok (.invokestatic 64, 3) := by decide +kernel
theorem dX7_stringsOf_84 : decode cX7_stringsOf 84 = .ok (.aload_n 0, 1) := by decide +kernel
theorem dX7_stringsOf_85 : decode cX7_stringsOf 85 = .ok (.getfield 7, 3) := by decide +kernel
theorem dX7_stringsOf_88 : decode cX7_stringsOf 88 = .ok (.iload 6, 2) := by decide +kernel
theorem dX7_stringsOf_90 : decode cX7_stringsOf 90 = .ok (.iconst 4, 1) := by decide +kernel
theorem dX7_stringsOf_91 : decode cX7_stringsOf 91 = .ok (.iadd, 1) := by decide +kernel
theorem dX7_stringsOf_92 : decode cX7_stringsOf 92 = .ok (.iaload, 1) := by decide +kernel
theorem dX7_stringsOf_93 : decode cX7_stringsOf 93 = .ok (.if_icmp .ne 7, 3) := by decide +kernel
theorem dX7_stringsOf_96 : decode cX7_stringsOf 96 = .ok (.iconst 1, 1) := by decide +kernel
theorem dX7_stringsOf_97 : decode cX7_stringsOf 97 = .ok (.goto 4, 3) := by decide +kernel
theorem dX7_stringsOf_100 : decode cX7_stringsOf 100 = .ok (.iconst 0, 1) := by decide +kernel
theorem dX7_stringsOf_101 : decode cX7_stringsOf 101 = .ok (.istore 4, 2) := by decide +kernel
theorem dX7_stringsOf_103 : decode cX7_stringsOf 103 = .ok (.iinc 5 1, 3) := by decide +kernel
theorem dX7_stringsOf_106 : decode cX7_stringsOf 106 = .ok (.goto (-90), 3) := by decide +kernel
theorem dX7_stringsOf_109 : decode cX7_stringsOf 109 = .ok (.iload_n 2, 1) := by decide +kernel
theorem dX7_stringsOf_110 : decode cX7_stringsOf 110 = .ok (.iload 4, 2) := by decide +kernel
theorem dX7_stringsOf_112 : decode cX7_stringsOf 112 = .ok (.ifCond .eq 9, 3) := by decide +kernel
theorem dX7_stringsOf_115 : decode cX7_stringsOf 115 = .ok (.iconst 1, 1) := by decide +kernel
theorem dX7_stringsOf_116 : decode cX7_stringsOf 116 = .ok (.iload_n 3, 1) := by decide +kernel
theorem dX7_stringsOf_117 : decode cX7_stringsOf 117 = .ok (.ishl, 1) := by decide +kernel
theorem dX7_stringsOf_118 : decode cX7_stringsOf 118 = .ok (.goto 4, 3) := by decide +kernel
theorem dX7_stringsOf_121 : decode cX7_stringsOf 121 = .ok (.iconst 0, 1) := by decide +kernel
theorem dX7_stringsOf_122 : decode cX7_stringsOf 122 = .ok (.ior, 1) := by decide +kernel
theorem dX7_stringsOf_123 : decode cX7_stringsOf 123 = .ok (.istore_n 2, 1) := by decide +kernel
theorem dX7_stringsOf_124 : decode cX7_stringsOf 124 = .ok (.iinc 3 1, 3) := by decide +kernel
theorem dX7_stringsOf_127 : decode cX7_stringsOf 127 = .ok (.goto (-123), 3) := by decide +kernel
theorem dX7_stringsOf_130 : decode cX7_stringsOf 130 = .ok (.iload_n 2, 1) := by decide +kernel
theorem dX7_stringsOf_131 : decode cX7_stringsOf 131 = .ok (.ireturn, 1) := by decide +kernel
theorem dX7_is_0 : decode cX7_is 0 = .ok (.aload_n 0, 1) := by decide +kernel
theorem dX7_is_1 : decode cX7_is 1 = .ok (.iload_n 1, 1) := by decide +kernel
theorem dX7_is_2 : decode cX7_is 2 = .ok (.invokevirtual 193, 3) := by decide +kernel
theorem dX7_is_5 : decode cX7_is 5 = .ok (.ifCond .eq 11, 3) := by decide +kernel
theorem dX7_is_8 : decode cX7_is 8 = .ok (.aload_n 0, 1) := by decide +kernel
theorem dX7_is_9 : decode cX7_is 9 = .ok (.iload_n 1, 1) := by decide +kernel
theorem dX7_is_10 : decode cX7_is 10 = .ok (.invokevirtual 264, 3) := by decide +kernel
theorem dX7_is_13 : decode cX7_is 13 = .ok (.goto 7, 3) := by decide +kernel
theorem dX7_is_16 : decode cX7_is 16 = .ok (.aload_n 0, 1) := by decide +kernel
theorem dX7_is_17 : decode cX7_is 17 = .ok (.invokevirtual 84, 3) := by decide +kernel
theorem dX7_is_20 : decode cX7_is 20 = .ok (.ireturn, 1) := by decide +kernel
theorem dX7_look_0 : decode cX7_look 0 = .ok (.aload_n 0, 1) := by decide +kernel
theorem dX7_look_1 : decode cX7_look 1 = .ok (.iload_n 1, 1) := by decide +kernel
theorem dX7_look_2 : decode cX7_look 2 = .ok (.invokevirtual 193, 3) := by decide +kernel
theorem dX7_look_5 : decode cX7_look 5 = .ok (.ifCond .ne 8, 3) := by decide +kernel
theorem dX7_look_8 : decode cX7_look 8 = .ok (.aload_n 0, 1) := by decide +kernel
theorem dX7_look_9 : decode cX7_look 9 = .ok (.invokevirtual 84, 3) := by decide +kernel
theorem dX7_look_12 : decode cX7_look 12 = .ok (.ireturn, 1) := by decide +kernel
theorem dX7_look_13 : decode cX7_look 13 = .ok (.aload_n 0, 1) := by decide +kernel
theorem dX7_look_14 : decode cX7_look 14 = .ok (.iload_n 1, 1) := by decide +kernel
theorem dX7_look_15 : decode cX7_look 15 = .ok (.invokevirtual 264, 3) := by decide +kernel
theorem dX7_look_18 : decode cX7_look 18 = .ok (.istore_n 2, 1) := by decide +kernel
theorem dX7_look_19 : decode cX7_look 19 = .ok (.sipush (-1001), 3) := by decide +kernel
theorem dX7_look_22 : decode cX7_look 22 = .ok (.istore_n 3, 1) := by decide +kernel
theorem dX7_look_23 : decode cX7_look 23 = .ok (.bipush 99, 2) := by decide +kernel
theorem dX7_look_25 : decode cX7_look 25 = .ok (.istore 4, 2) := by decide +kernel
theorem dX7_look_27 : decode cX7_look 27 = .ok (.bipush 101, 2) := by decide +kernel
theorem dX7_look_29 : decode cX7_look 29 = .ok (.istore 5, 2) := by decide +kernel
theorem dX7_look_31 : decode cX7_look 31 = .ok (.iload 5, 2) := by decide +kernel
theorem dX7_look_33 : decode cX7_look 33 = .ok (.sipush 1000, 3) := by decide +kernel
theorem dX7_look_36 : decode cX7_look 36 = .ok (.if_icmp .ge 112, 3) := by decide +kernel
theorem dX7_look_39 : decode cX7_look 39 = .ok (.iload_n 2, 1) := by decide +kernel
theorem dX7_look_40 : decode cX7_look 40 = .ok (.ifCond .eq 108, 3) := by decide +kernel
theorem dX7_look_43 : decode cX7_look 43 = .ok (.iload 5, 2) := by decide +kernel
theorem dX7_look_45 : decode cX7_look 45 = .ok (.bipush 100, 2) := by decide +kernel
theorem dX7_look_47 : decode cX7_look 47 = .ok (.irem, 1) := by decide +kernel
theorem dX7_look_48 : decode cX7_look 48 = .ok (.i2l, 1) := by decide +kernel
theorem dX7_look_49 : decode cX7_look 49 = .ok (.lconst 1, 1) := by decide +kernel
theorem dX7_look_50 : decode cX7_look 50 = .ok (.ldc2_w 92, 3) := by decide +kernel
theorem dX7_look_53 : decode cX7_look 53 = .ok (.invokestatic 52, 3) := by decide +kernel
theorem dX7_look_56 : decode cX7_look 56 = .ok (.ifCond .eq 86, 3) := by decide +kernel
theorem dX7_look_59 : decode cX7_look 59 = .ok (.iconst 0, 1) := by decide +kernel
theorem dX7_look_60 : decode cX7_look 60 = .ok (.istore 6, 2) := by decide +kernel
theorem dX7_look_62 : decode cX7_look 62 = .ok (.iload 6, 2) := by decide +kernel
theorem dX7_look_64 : decode cX7_look 64 = .ok (.bipush 6, 2) := by decide +kernel
theorem dX7_look_66 : decode cX7_look 66 = .ok (.if_icmp .ge 37, 3) := by decide +kernel
theorem dX7_look_69 : decode cX7_look 69 = .ok (.aload_n 0, 1) := by decide +kernel
theorem dX7_look_70 : decode cX7_look 70 = .ok (.getfield 26, 3) := by decide +kernel
theorem dX7_look_73 : decode cX7_look 73 = .ok (.iload 6, 2) := by decide +kernel
theorem dX7_look_75 : decode cX7_look 75 = .ok (.iload 6, 2) := by decide +kernel
theorem dX7_look_77 : decode cX7_look 77 = .ok (.iload 5, 2) := by decide +kernel
theorem dX7_look_79 : decode cX7_look 79 = .ok (.bipush 100, 2) := by decide +kernel
theorem dX7_look_81 : decode cX7_look 81 = .ok (.irem, 1) := by decide +kernel
theorem dX7_look_82 : decode cX7_look 82 = .ok (.iload 5, 2) := by decide +kernel
theorem dX7_look_84 : decode cX7_look 84 = .ok (.bipush 100, 2) := by decide +kernel
theorem dX7_look_86 : decode cX7_look 86 = .ok (.idiv, 1) := by decide +kernel
theorem dX7_look_87 : decode cX7_look 87 = .ok (.aload_n 0, 1) := by decide +kernel
theorem dX7_look_88 : decode cX7_look 88 = .ok (.iload_n 1, 1) := by decide +kernel
theorem dX7_look_89 : decode cX7_look 89 = .ok (.iconst 5, 1) := by decide +kernel
theorem dX7_look_90 : decode cX7_look 90 = .ok (.invokevirtual 56, 3) := by decide +kernel
theorem dX7_look_93 : decode cX7_look 93 = .ok (.invokestatic 64, 3) := by decide +kernel
theorem dX7_look_96 : decode cX7_look 96 = .ok (.iastore, 1) := by decide +kernel
theorem dX7_look_97 : decode cX7_look 97 = .ok (.iinc 6 1, 3) := by decide +kernel
theorem dX7_look_100 : decode cX7_look 100 = .ok (.goto (-38), 3) := by decide +kernel
theorem dX7_look_103 : decode cX7_look 103 = .ok (.aload_n 0, 1) := by decide +kernel
theorem dX7_look_104 : decode cX7_look 104 = .ok (.iload_n 2, 1) := by decide +kernel
theorem dX7_look_105 : decode cX7_look 105 = .ok (.bipush 6, 2) := by decide +kernel
theorem dX7_look_107 : decode cX7_look 107 = .ok (.invokevirtual 261, 3) := by decide +kernel
theorem dX7_look_110 : decode cX7_look 110 = .ok (.istore 6, 2) := by decide +kernel
theorem dX7_look_112 : decode cX7_look 112 = .ok (.iload 6, 2) := by decide +kernel
theorem dX7_look_114 : decode cX7_look 114 = .ok (.iload 4, 2) := by decide +kernel
theorem dX7_look_116 : decode cX7_look 116 = .ok (.if_icmp .ge 8, 3) := by decide +kernel
theorem dX7_look_119 : decode cX7_look 119 = .ok (.iload 5, 2) := by decide +kernel
theorem dX7_look_121 : decode cX7_look 121 = .ok (.goto 4, 3) := by decide +kernel
theorem dX7_look_124 : decode cX7_look 124 = .ok (.iload_n 3, 1) := by decide +kernel
theorem dX7_look_125 : decode cX7_look 125 = .ok (.istore_n 3, 1) := by decide +kernel
theorem dX7_look_126 : decode cX7_look 126 = .ok (.iload 6, 2) := by decide +kernel
theorem dX7_look_128 : decode cX7_look 128 = .ok (.iload 4, 2) := by decide +kernel
theorem dX7_look_130 : decode cX7_look 130 = .ok (.if_icmp .ge 8, 3) := by decide +kernel
theorem dX7_look_133 : decode cX7_look 133 = .ok (.iload 6, 2) := by decide +kernel
theorem dX7_look_135 : decode cX7_look 135 = .ok (.goto 5, 3) := by decide +kernel
theorem dX7_look_138 : decode cX7_look 138 = .ok (.iload 4, 2) := by decide +kernel
theorem dX7_look_140 : decode cX7_look 140 = .ok (.istore 4, 2) := by decide +kernel
theorem dX7_look_142 : decode cX7_look 142 = .ok (.iinc 5 1, 3) := by decide +kernel
theorem dX7_look_145 : decode cX7_look 145 = .ok (.goto (-114), 3) := by decide +kernel
theorem dX7_look_148 : decode cX7_look 148 = .ok (.iload_n 3, 1) := by decide +kernel
theorem dX7_look_149 : decode cX7_look 149 = .ok (.ireturn, 1) := by decide +kernel
theorem dX7_kindsOf_0 : decode cX7_kindsOf 0 = .ok (.iconst 0, 1) := by decide +kernel
theorem dX7_kindsOf_1 : decode cX7_kindsOf 1 = .ok (.istore_n 2, 1) := by decide +kernel
theorem dX7_kindsOf_2 : decode cX7_kindsOf 2 = .ok (.iconst 0, 1) := by decide +kernel
theorem dX7_kindsOf_3 : decode cX7_kindsOf 3 = .ok (.istore_n 3, 1) := by decide +kernel
theorem dX7_kindsOf_4 : decode cX7_kindsOf 4 = .ok (.iload_n 3, 1) := by decide +kernel
theorem dX7_kindsOf_5 : decode cX7_kindsOf 5 = .ok (.bipush 6, 2) := by decide +kernel
theorem dX7_kindsOf_7 : decode cX7_kindsOf 7 = .ok (.if_icmp .ge 114, 3) := by decide +kernel
theorem dX7_kindsOf_10 : decode cX7_kindsOf 10 = .ok (.iconst 1, 1) := by decide +kernel
theorem dX7_kindsOf_11 : decode cX7_kindsOf 11 = .ok (.istore 4, 2) := by decide +kernel
theorem dX7_kindsOf_13 : decode cX7_kindsOf 13 = .ok (.iconst 0, 1) := by decide +kernel
theorem dX7_kindsOf_14 : decode cX7_kindsOf 14 = .ok (.istore 5, 2) := by decide +kernel
theorem dX7_kindsOf_16 : decode cX7_kindsOf 16 = .ok (.iload 5, 2) := by decide +kernel
theorem dX7_kindsOf_18 : decode cX7_kindsOf 18 = .ok (.aload_n 0, 1) := by decide +kernel
theorem dX7_kindsOf_19 : decode cX7_kindsOf 19 = .ok (.getfield 7, 3) := by decide +kernel
theorem dX7_kindsOf_22 : decode cX7_kindsOf 22 = .ok (.bipush 122, 2) := by decide +kernel
theorem dX7_kindsOf_24 : decode cX7_kindsOf 24 = .ok (.iaload, 1) := by decide +kernel
theorem dX7_kindsOf_25 : decode cX7_kindsOf 25 = .ok (.if_icmp .ge 75, 3) := by decide +kernel
theorem dX7_kindsOf_28 : decode cX7_kindsOf 28 = .ok (.bipush 123, 2) := by decide +kernel
theorem dX7_kindsOf_30 : decode cX7_kindsOf 30 = .ok (.iconst 4, 1) := by decide +kernel
theorem dX7_kindsOf_31 : decode cX7_kindsOf 31 = .ok (.iload 5, 2) := by decide +kernel
theorem dX7_kindsOf_33 : decode cX7_kindsOf 33 = .ok (.imul, 1) := by decide +kernel
theorem dX7_kindsOf_34 : decode cX7_kindsOf 34 = .ok (.iadd, 1) := by decide +kernel
theorem dX7_kindsOf_35 : decode cX7_kindsOf 35 = .ok (.istore 6, 2) := by decide +kernel
theorem dX7_kindsOf_37 : decode cX7_kindsOf 37 = .ok (.iload 4, 2) := by decide +kernel
theorem dX7_kindsOf_39 : decode cX7_kindsOf 39 = .ok (.ifCond .eq 52, 3) := by decide +kernel
theorem dX7_kindsOf_42 : decode cX7_kindsOf 42 = .ok (.aload_n 0, 1) := by decide +kernel
theorem dX7_kindsOf_43 : decode cX7_kindsOf 43 = .ok (.getfield 7, 3) := by decide +kernel
theorem dX7_kindsOf_46 : decode cX7_kindsOf 46 = .ok (.iload 6, 2) := by decide +kernel
theorem dX7_kindsOf_48 : decode cX7_kindsOf 48 = .ok (.iaload, 1) := by decide +kernel
theorem dX7_kindsOf_49 : decode cX7_kindsOf 49 = .ok (.iload_n 1, 1) := by decide +kernel
theorem dX7_kindsOf_50 : decode cX7_kindsOf 50 = .ok (.if_icmp .ne 37, 3) := by decide +kernel
theorem dX7_kindsOf_53 : decode cX7_kindsOf 53 = .ok (.iload_n 3, 1) := by decide +kernel
theorem dX7_kindsOf_54 : decode cX7_kindsOf 54 = .ok (.aload_n 0, 1) := by decide +kernel
theorem dX7_kindsOf_55 : decode cX7_kindsOf 55 = .ok (.getfield 7, 3) := by decide +kernel
theorem dX7_kindsOf_58 : decode cX7_kindsOf 58 = .ok (.iload 6, 2) := by decide +kernel
theorem dX7_kindsOf_60 : decode cX7_kindsOf 60 = .ok (.iconst 1, 1) := by decide +kernel
theorem dX7_kindsOf_61 : decode cX7_kindsOf 61 = .ok (.iadd, 1) := by decide +kernel
theorem dX7_kindsOf_62 : decode cX7_kindsOf 62 = .ok (.iaload, 1) := by decide +kernel
theorem dX7_kindsOf_63 : decode cX7_kindsOf 63 = .ok (.aload_n 0, 1) := by decide +kernel
theorem dX7_kindsOf_64 : decode cX7_kindsOf 64 = .ok (.getfield 7, 3) := by decide +kernel
theorem dX7_kindsOf_67 : decode cX7_kindsOf 67 = .ok (.iload 6, 2) := by decide +kernel
theorem dX7_kindsOf_69 : decode cX7_kindsOf 69 = .ok (.iconst 2, 1) := by decide +kernel
theorem dX7_kindsOf_70 : decode cX7_kindsOf 70 = .ok (.iadd, 1) := by decide +kernel
theorem dX7_kindsOf_71 : decode cX7_kindsOf 71 = .ok (.iaload, 1) := by decide +kernel
theorem dX7_kindsOf_72 : decode cX7_kindsOf 72 = .ok (.invokestatic 68, 3) := by decide +kernel
theorem dX7_kindsOf_75 : decode cX7_kindsOf 75 = .ok (.aload_n 0, 1) := by decide +kernel
theorem dX7_kindsOf_76 : decode cX7_kindsOf 76 = .ok (.getfield 7, 3) := by decide +kernel
theorem dX7_kindsOf_79 : decode cX7_kindsOf 79 = .ok (.iload 6, 2) := by decide +kernel
theorem dX7_kindsOf_81 : decode cX7_kindsOf 81 = .ok (.iconst 3, 1) := by decide +kernel
theorem dX7_kindsOf_82 : decode cX7_kindsOf 82 = .ok (.iadd, 1) := by decide +kernel
theorem dX7_kindsOf_83 : decode cX7_kindsOf 83 = .ok (.iaload, 1) := by decide +kernel
theorem dX7_kindsOf_84 : decode cX7_kindsOf 84 = .ok (.if_icmp .ne 7, 3) := by decide +kernel
theorem dX7_kindsOf_87 : decode cX7_kindsOf 87 = .ok (.iconst 1, 1) := by decide +kernel
theorem dX7_kindsOf_88 : decode cX7_kindsOf 88 = .ok (.goto 4, 3) := by decide +kernel
theorem dX7_kindsOf_91 : decode cX7_kindsOf 91 = .ok (.iconst 0, 1) := by decide +kernel
theorem dX7_kindsOf_92 : decode cX7_kindsOf 92 = .ok (.istore 4, 2) := by decide +kernel
theorem dX7_kindsOf_94 : decode cX7_kindsOf 94 = .ok (.iinc 5 1, 3) := by decide +kernel
theorem dX7_kindsOf_97 : decode cX7_kindsOf 97 = .ok (.goto (-81), 3) := by decide +kernel
theorem dX7_kindsOf_100 : decode cX7_kindsOf 100 = .ok (.iload_n 2, 1) := by decide +kernel
theorem dX7_kindsOf_101 : decode cX7_kindsOf 101 = .ok (.iload 4, 2) := by decide +kernel
theorem dX7_kindsOf_103 : decode cX7_kindsOf 103 = .ok (.ifCond .eq 9, 3) := by decide +kernel
theorem dX7_kindsOf_106 : decode cX7_kindsOf 106 = .ok (.iconst 1, 1) := by decide +kernel
theorem dX7_kindsOf_107 : decode cX7_kindsOf 107 = .ok (.iload_n 3, 1) := by decide +kernel
theorem dX7_kindsOf_108 : decode cX7_kindsOf 108 = .ok (.ishl, 1) := by decide +kernel
theorem dX7_kindsOf_109 : decode cX7_kindsOf 109 = .ok (.goto 4, 3) := by decide +kernel
theorem dX7_kindsOf_112 : decode cX7_kindsOf 112 = .ok (.iconst 0, 1) := by decide +kernel
theorem dX7_kindsOf_113 : decode cX7_kindsOf 113 = .ok (.ior, 1) := by decide +kernel
theorem dX7_kindsOf_114 : decode cX7_kindsOf 114 = .ok (.istore_n 2, 1) := by decide +kernel
theorem dX7_kindsOf_115 : decode cX7_kindsOf 115 = .ok (.iinc 3 1, 3) := by decide +kernel
theorem dX7_kindsOf_118 : decode cX7_kindsOf 118 = .ok (.goto (-114), 3) := by decide +kernel
theorem dX7_kindsOf_121 : decode cX7_kindsOf 121 = .ok (.iload_n 2, 1) := by decide +kernel
theorem dX7_kindsOf_122 : decode cX7_kindsOf 122 = .ok (.ireturn, 1) := by decide +kernel
theorem dX7_kinds_0 : decode cX7_kinds 0 = .ok (.aload_n 0, 1) := by decide +kernel
theorem dX7_kinds_1 : decode cX7_kinds 1 = .ok (.iload_n 1, 1) := by decide +kernel
theorem dX7_kinds_2 : decode cX7_kinds 2 = .ok (.invokevirtual 193, 3) := by decide +kernel
theorem dX7_kinds_5 : decode cX7_kinds 5 = .ok (.ifCond .eq 11, 3) := by decide +kernel
theorem dX7_kinds_8 : decode cX7_kinds 8 = .ok (.aload_n 0, 1) := by decide +kernel
theorem dX7_kinds_9 : decode cX7_kinds 9 = .ok (.iload_n 1, 1) := by decide +kernel
theorem dX7_kinds_10 : decode cX7_kinds 10 = .ok (.invokevirtual 267, 3) := by decide +kernel
theorem dX7_kinds_13 : decode cX7_kinds 13 = .ok (.goto 7, 3) := by decide +kernel
theorem dX7_kinds_16 : decode cX7_kinds 16 = .ok (.aload_n 0, 1) := by decide +kernel
theorem dX7_kinds_17 : decode cX7_kinds 17 = .ok (.invokevirtual 84, 3) := by decide +kernel
theorem dX7_kinds_20 : decode cX7_kinds 20 = .ok (.ireturn, 1) := by decide +kernel
theorem dX7_ask_0 : decode cX7_ask 0 = .ok (.aload_n 0, 1) := by decide +kernel
theorem dX7_ask_1 : decode cX7_ask 1 = .ok (.iload_n 1, 1) := by decide +kernel
theorem dX7_ask_2 : decode cX7_ask 2 = .ok (.invokevirtual 193, 3) := by decide +kernel
theorem dX7_ask_5 : decode cX7_ask 5 = .ok (.ifCond .ne 8, 3) := by decide +kernel
theorem dX7_ask_8 : decode cX7_ask 8 = .ok (.aload_n 0, 1) := by decide +kernel
theorem dX7_ask_9 : decode cX7_ask 9 = .ok (.invokevirtual 84, 3) := by decide +kernel
theorem dX7_ask_12 : decode cX7_ask 12 = .ok (.ireturn, 1) := by decide +kernel
theorem dX7_ask_13 : decode cX7_ask 13 = .ok (.aload_n 0, 1) := by decide +kernel
theorem dX7_ask_14 : decode cX7_ask 14 = .ok (.iload_n 1, 1) := by decide +kernel
theorem dX7_ask_15 : decode cX7_ask 15 = .ok (.invokevirtual 267, 3) := by decide +kernel
theorem dX7_ask_18 : decode cX7_ask 18 = .ok (.istore_n 2, 1) := by decide +kernel
theorem dX7_ask_19 : decode cX7_ask 19 = .ok (.sipush (-1001), 3) := by decide +kernel
theorem dX7_ask_22 : decode cX7_ask 22 = .ok (.istore_n 3, 1) := by decide +kernel
theorem dX7_ask_23 : decode cX7_ask 23 = .ok (.bipush 99, 2) := by decide +kernel
theorem dX7_ask_25 : decode cX7_ask 25 = .ok (.istore 4, 2) := by decide +kernel
theorem dX7_ask_27 : decode cX7_ask 27 = .ok (.iconst 0, 1) := by decide +kernel
theorem dX7_ask_28 : decode cX7_ask 28 = .ok (.istore 5, 2) := by decide +kernel
theorem dX7_ask_30 : decode cX7_ask 30 = .ok (.iload 5, 2) := by decide +kernel
theorem dX7_ask_32 : decode cX7_ask 32 = .ok (.sipush 202, 3) := by decide +kernel
theorem dX7_ask_35 : decode cX7_ask 35 = .ok (.if_icmp .ge 99, 3) := by decide +kernel
theorem dX7_ask_38 : decode cX7_ask 38 = .ok (.iload_n 2, 1) := by decide +kernel
theorem dX7_ask_39 : decode cX7_ask 39 = .ok (.ifCond .eq 95, 3) := by decide +kernel
theorem dX7_ask_42 : decode cX7_ask 42 = .ok (.iload 5, 2) := by decide +kernel
theorem dX7_ask_44 : decode cX7_ask 44 = .ok (.bipush 10, 2) := by decide +kernel
theorem dX7_ask_46 : decode cX7_ask 46 = .ok (.irem, 1) := by decide +kernel
theorem dX7_ask_47 : decode cX7_ask 47 = .ok (.iconst 2, 1) := by decide +kernel
theorem dX7_ask_48 : decode cX7_ask 48 = .ok (.if_icmp .ge 80, 3) := by decide +kernel
theorem dX7_ask_51 : decode cX7_ask 51 = .ok (.iconst 0, 1) := by decide +kernel
theorem dX7_ask_52 : decode cX7_ask 52 = .ok (.istore 6, 2) := by decide +kernel
theorem dX7_ask_54 : decode cX7_ask 54 = .ok (.iload 6, 2) := by decide +kernel
theorem dX7_ask_56 : decode cX7_ask 56 = .ok (.bipush 6, 2) := by decide +kernel
theorem dX7_ask_58 : decode cX7_ask 58 = .ok (.if_icmp .ge 31, 3) := by decide +kernel
theorem dX7_ask_61 : decode cX7_ask 61 = .ok (.aload_n 0, 1) := by decide +kernel
theorem dX7_ask_62 : decode cX7_ask 62 = .ok (.getfield 26, 3) := by decide +kernel
theorem dX7_ask_65 : decode cX7_ask 65 = .ok (.iload 6, 2) := by decide +kernel
theorem dX7_ask_67 : decode cX7_ask 67 = .ok (.iload 6, 2) := by decide +kernel
theorem dX7_ask_69 : decode cX7_ask 69 = .ok (.iload 5, 2) := by decide +kernel
theorem dX7_ask_71 : decode cX7_ask 71 = .ok (.bipush 10, 2) := by decide +kernel
theorem dX7_ask_73 : decode cX7_ask 73 = .ok (.idiv, 1) := by decide +kernel
theorem dX7_ask_74 : decode cX7_ask 74 = .ok (.iload 5, 2) := by decide +kernel
theorem dX7_ask_76 : decode cX7_ask 76 = .ok (.bipush 10, 2) := by decide +kernel
theorem dX7_ask_78 : decode cX7_ask 78 = .ok (.irem, 1) := by decide +kernel
theorem dX7_ask_79 : decode cX7_ask 79 = .ok (.invokestatic 68, 3) := by decide +kernel
theorem dX7_ask_82 : decode cX7_ask 82 = .ok (.iastore, 1) := by decide +kernel
theorem dX7_ask_83 : decode cX7_ask 83 = .ok (.iinc 6 1, 3) := by decide +kernel
theorem dX7_ask_86 : decode cX7_ask 86 = .ok (.goto (-32), 3) := by decide +kernel
theorem dX7_ask_89 : decode cX7_ask 89 = .ok (.aload_n 0, 1) := by decide +kernel
theorem dX7_ask_90 : decode cX7_ask 90 = .ok (.iload_n 2, 1) := by decide +kernel
theorem dX7_ask_91 : decode cX7_ask 91 = .ok (.bipush 6, 2) := by decide +kernel
theorem dX7_ask_93 : decode cX7_ask 93 = .ok (.invokevirtual 261, 3) := by decide +kernel
theorem dX7_ask_96 : decode cX7_ask 96 = .ok (.istore 6, 2) := by decide +kernel
theorem dX7_ask_98 : decode cX7_ask 98 = .ok (.iload 6, 2) := by decide +kernel
theorem dX7_ask_100 : decode cX7_ask 100 = .ok (.iload 4, 2) := by decide +kernel
theorem dX7_ask_102 : decode cX7_ask 102 = .ok (.if_icmp .ge 8, 3) := by decide +kernel
theorem dX7_ask_105 : decode cX7_ask 105 = .ok (.iload 5, 2) := by decide +kernel
theorem dX7_ask_107 : decode cX7_ask 107 = .ok (.goto 4, 3) := by decide +kernel
theorem dX7_ask_110 : decode cX7_ask 110 = .ok (.iload_n 3, 1) := by decide +kernel
theorem dX7_ask_111 : decode cX7_ask 111 = .ok (.istore_n 3, 1) := by decide +kernel
theorem dX7_ask_112 : decode cX7_ask 112 = .ok (.iload 6, 2) := by decide +kernel
theorem dX7_ask_114 : decode cX7_ask 114 = .ok (.iload 4, 2) := by decide +kernel
theorem dX7_ask_116 : decode cX7_ask 116 = .ok (.if_icmp .ge 8, 3) := by decide +kernel
theorem dX7_ask_119 : decode cX7_ask 119 = .ok (.iload 6, 2) := by decide +kernel
theorem dX7_ask_121 : decode cX7_ask 121 = .ok (.goto 5, 3) := by decide +kernel
theorem dX7_ask_124 : decode cX7_ask 124 = .ok (.iload 4, 2) := by decide +kernel
theorem dX7_ask_126 : decode cX7_ask 126 = .ok (.istore 4, 2) := by decide +kernel
theorem dX7_ask_128 : decode cX7_ask 128 = .ok (.iinc 5 1, 3) := by decide +kernel
theorem dX7_ask_131 : decode cX7_ask 131 = .ok (.goto (-101), 3) := by decide +kernel
theorem dX7_ask_134 : decode cX7_ask 134 = .ok (.iload_n 3, 1) := by decide +kernel
theorem dX7_ask_135 : decode cX7_ask 135 = .ok (.ireturn, 1) := by decide +kernel
theorem dX7_rests_0 : decode cX7_rests 0 = .ok (.iconst 1, 1) := by decide +kernel
theorem dX7_rests_1 : decode cX7_rests 1 = .ok (.istore_n 3, 1) := by decide +kernel
theorem dX7_rests_2 : decode cX7_rests 2 = .ok (.iconst 0, 1) := by decide +kernel
theorem dX7_rests_3 : decode cX7_rests 3 = .ok (.istore 4, 2) := by decide +kernel
theorem dX7_rests_5 : decode cX7_rests 5 = .ok (.iload 4, 2) := by decide +kernel
theorem dX7_rests_7 : decode cX7_rests 7 = .ok (.iconst 5, 1) := by decide +kernel
theorem dX7_rests_8 : decode cX7_rests 8 = .ok (.if_icmp .ge 67, 3) := by decide +kernel
theorem dX7_rests_11 : decode cX7_rests 11 = .ok (.iload_n 3, 1) := by decide +kernel
theorem dX7_rests_12 : decode cX7_rests 12 = .ok (.ifCond .eq 55, 3) := by decide +kernel
theorem dX7_rests_15 : decode cX7_rests 15 = .ok (.aload_n 0, 1) := by decide +kernel
theorem dX7_rests_16 : decode cX7_rests 16 = .ok (.getfield 29, 3) := by decide +kernel
theorem dX7_rests_19 : decode cX7_rests 19 = .ok (.iconst 5, 1) := by decide +kernel
theorem dX7_rests_20 : decode cX7_rests 20 = .ok (.iload 4, 2) := by decide +kernel
theorem dX7_rests_22 : decode cX7_rests 22 = .ok (.imul, 1) := by decide +kernel
theorem dX7_rests_23 : decode cX7_rests 23 = .ok (.iload_n 2, 1) := by decide +kernel
theorem dX7_rests_24 : decode cX7_rests 24 = .ok (.iadd, 1) := by decide +kernel
theorem dX7_rests_25 : decode cX7_rests 25 = .ok (.iaload, 1) := by decide +kernel
theorem dX7_rests_26 : decode cX7_rests 26 = .ok (.aload_n 0, 1) := by decide +kernel
theorem dX7_rests_27 : decode cX7_rests 27 = .ok (.getfield 29, 3) := by decide +kernel
theorem dX7_rests_30 : decode cX7_rests 30 = .ok (.iconst 5, 1) := by decide +kernel
theorem dX7_rests_31 : decode cX7_rests 31 = .ok (.iload_n 1, 1) := by decide +kernel
theorem dX7_rests_32 : decode cX7_rests 32 = .ok (.imul, 1) := by decide +kernel
theorem dX7_rests_33 : decode cX7_rests 33 = .ok (.iload_n 2, 1) := by decide +kernel
theorem dX7_rests_34 : decode cX7_rests 34 = .ok (.iadd, 1) := by decide +kernel
theorem dX7_rests_35 : decode cX7_rests 35 = .ok (.iaload, 1) := by decide +kernel
theorem dX7_rests_36 : decode cX7_rests 36 = .ok (.if_icmp .gt 31, 3) := by decide +kernel
theorem dX7_rests_39 : decode cX7_rests 39 = .ok (.aload_n 0, 1) := by decide +kernel
theorem dX7_rests_40 : decode cX7_rests 40 = .ok (.getfield 32, 3) := by decide +kernel
theorem dX7_rests_43 : decode cX7_rests 43 = .ok (.iconst 5, 1) := by decide +kernel
theorem dX7_rests_44 : decode cX7_rests 44 = .ok (.iload_n 1, 1) := by decide +kernel
theorem dX7_rests_45 : decode cX7_rests 45 = .ok (.imul, 1) := by decide +kernel
theorem dX7_rests_46 : decode cX7_rests 46 = .ok (.iload 4, 2) := by decide +kernel
theorem dX7_rests_48 : decode cX7_rests 48 = .ok (.iadd, 1) := by decide +kernel
theorem dX7_rests_49 : decode cX7_rests 49 = .ok (.iaload, 1) := by decide +kernel
theorem dX7_rests_50 : decode cX7_rests 50 = .ok (.aload_n 0, 1) := by decide +kernel
theorem dX7_rests_51 : decode cX7_rests 51 = .ok (.getfield 32, 3) := by decide +kernel
theorem dX7_rests_54 : decode cX7_rests 54 = .ok (.iconst 5, 1) := by decide +kernel
theorem dX7_rests_55 : decode cX7_rests 55 = .ok (.iload_n 1, 1) := by decide +kernel
theorem dX7_rests_56 : decode cX7_rests 56 = .ok (.imul, 1) := by decide +kernel
theorem dX7_rests_57 : decode cX7_rests 57 = .ok (.iload_n 2, 1) := by decide +kernel
theorem dX7_rests_58 : decode cX7_rests 58 = .ok (.iadd, 1) := by decide +kernel
theorem dX7_rests_59 : decode cX7_rests 59 = .ok (.iaload, 1) := by decide +kernel
theorem dX7_rests_60 : decode cX7_rests 60 = .ok (.if_icmp .gt 7, 3) := by decide +kernel
theorem dX7_rests_63 : decode cX7_rests 63 = .ok (.iconst 1, 1) := by decide +kernel
theorem dX7_rests_64 : decode cX7_rests 64 = .ok (.goto 4, 3) := by decide +kernel
theorem dX7_rests_67 : decode cX7_rests 67 = .ok (.iconst 0, 1) := by decide +kernel
theorem dX7_rests_68 : decode cX7_rests 68 = .ok (.istore_n 3, 1) := by decide +kernel
theorem dX7_rests_69 : decode cX7_rests 69 = .ok (.iinc 4 1, 3) := by decide +kernel
theorem dX7_rests_72 : decode cX7_rests 72 = .ok (.goto (-67), 3) := by decide +kernel
theorem dX7_rests_75 : decode cX7_rests 75 = .ok (.iload_n 3, 1) := by decide +kernel
theorem dX7_rests_76 : decode cX7_rests 76 = .ok (.ireturn, 1) := by decide +kernel
theorem dX7_hands_0 : decode cX7_hands 0 = .ok (.aload_n 0, 1) := by decide +kernel
theorem dX7_hands_1 : decode cX7_hands 1 = .ok (.iload_n 1, 1) := by decide +kernel
theorem dX7_hands_2 : decode cX7_hands 2 = .ok (.invokevirtual 193, 3) := by decide +kernel
theorem dX7_hands_5 : decode cX7_hands 5 = .ok (.ifCond .eq 21, 3) := by decide +kernel
theorem dX7_hands_8 : decode cX7_hands 8 = .ok (.aload_n 0, 1) := by decide +kernel
theorem dX7_hands_9 : decode cX7_hands 9 = .ok (.iload_n 2, 1) := by decide +kernel
theorem dX7_hands_10 : decode cX7_hands 10 = .ok (.invokevirtual 193, 3) := by decide +kernel
theorem dX7_hands_13 : decode cX7_hands 13 = .ok (.ifCond .eq 13, 3) := by decide +kernel
theorem dX7_hands_16 : decode cX7_hands 16 = .ok (.iload_n 1, 1) := by decide +kernel
theorem dX7_hands_17 : decode cX7_hands 17 = .ok (.iload_n 2, 1) := by decide +kernel
theorem dX7_hands_18 : decode cX7_hands 18 = .ok (.if_icmp .eq 8, 3) := by decide +kernel
theorem dX7_hands_21 : decode cX7_hands 21 = .ok (.iload_n 3, 1) := by decide +kernel
theorem dX7_hands_22 : decode cX7_hands 22 = .ok (.iconst (-1), 1) := by decide +kernel
theorem dX7_hands_23 : decode cX7_hands 23 = .ok (.if_icmp .ge 8, 3) := by decide +kernel
theorem dX7_hands_26 : decode cX7_hands 26 = .ok (.aload_n 0, 1) := by decide +kernel
theorem dX7_hands_27 : decode cX7_hands 27 = .ok (.invokevirtual 216, 3) := by decide +kernel
theorem dX7_hands_30 : decode cX7_hands 30 = .ok (.ireturn, 1) := by decide +kernel
theorem dX7_hands_31 : decode cX7_hands 31 = .ok (.aload_n 0, 1) := by decide +kernel
theorem dX7_hands_32 : decode cX7_hands 32 = .ok (.iload_n 1, 1) := by decide +kernel
theorem dX7_hands_33 : decode cX7_hands 33 = .ok (.invokevirtual 213, 3) := by decide +kernel
theorem dX7_hands_36 : decode cX7_hands 36 = .ok (.istore 4, 2) := by decide +kernel
theorem dX7_hands_38 : decode cX7_hands 38 = .ok (.aload_n 0, 1) := by decide +kernel
theorem dX7_hands_39 : decode cX7_hands 39 = .ok (.iload_n 2, 1) := by decide +kernel
theorem dX7_hands_40 : decode cX7_hands 40 = .ok (.invokevirtual 213, 3) := by decide +kernel
theorem dX7_hands_43 : decode cX7_hands 43 = .ok (.istore 5, 2) := by decide +kernel
theorem dX7_hands_45 : decode cX7_hands 45 = .ok (.aload_n 0, 1) := by decide +kernel
theorem dX7_hands_46 : decode cX7_hands 46 = .ok (.invokevirtual 222, 3) := by decide +kernel
theorem dX7_hands_49 : decode cX7_hands 49 = .ok (.iconst 0, 1) := by decide +kernel
theorem dX7_hands_50 : decode cX7_hands 50 = .ok (.istore 6, 2) := by decide +kernel
theorem dX7_hands_52 : decode cX7_hands 52 = .ok (.iload 6, 2) := by decide +kernel
theorem dX7_hands_54 : decode cX7_hands 54 = .ok (.iconst 5, 1) := by decide +kernel
theorem dX7_hands_55 : decode cX7_hands 55 = .ok (.if_icmp .ge 104, 3) := by decide +kernel
theorem dX7_hands_58 : decode cX7_hands 58 = .ok (.iconst 0, 1) := by decide +kernel
theorem dX7_hands_59 : decode cX7_hands 59 = .ok (.istore 7, 2) := by decide +kernel
theorem dX7_hands_61 : decode cX7_hands 61 = .ok (.iload 7, 2) := by decide +kernel
theorem dX7_hands_63 : decode cX7_hands 63 = .ok (.iconst 5, 1) := by decide +kernel
theorem dX7_hands_64 : decode cX7_hands 64 = .ok (.if_icmp .ge 89, 3) := by decide +kernel
theorem dX7_hands_67 : decode cX7_hands 67 = .ok (.aload_n 0, 1) := by decide +kernel
theorem dX7_hands_68 : decode cX7_hands 68 = .ok (.iload 6, 2) := by decide +kernel
theorem dX7_hands_70 : decode cX7_hands 70 = .ok (.invokevirtual 184, 3) := by decide +kernel
theorem dX7_hands_73 : decode cX7_hands 73 = .ok (.aload_n 0, 1) := by decide +kernel
theorem dX7_hands_74 : decode cX7_hands 74 = .ok (.iload 7, 2) := by decide +kernel
theorem dX7_hands_76 : decode cX7_hands 76 = .ok (.invokevirtual 184, 3) := by decide +kernel
theorem dX7_hands_79 : decode cX7_hands 79 = .ok (.aload_n 0, 1) := by decide +kernel
theorem dX7_hands_80 : decode cX7_hands 80 = .ok (.getfield 29, 3) := by decide +kernel
theorem dX7_hands_83 : decode cX7_hands 83 = .ok (.iconst 5, 1) := by decide +kernel
theorem dX7_hands_84 : decode cX7_hands 84 = .ok (.iload 6, 2) := by decide +kernel
theorem dX7_hands_86 : decode cX7_hands 86 = .ok (.imul, 1) := by decide +kernel
theorem dX7_hands_87 : decode cX7_hands 87 = .ok (.iload 7, 2) := by decide +kernel
theorem dX7_hands_89 : decode cX7_hands 89 = .ok (.iadd, 1) := by decide +kernel
theorem dX7_hands_90 : decode cX7_hands 90 = .ok (.aload_n 0, 1) := by decide +kernel
theorem dX7_hands_91 : decode cX7_hands 91 = .ok (.iload_n 1, 1) := by decide +kernel
theorem dX7_hands_92 : decode cX7_hands 92 = .ok (.invokevirtual 213, 3) := by decide +kernel
theorem dX7_hands_95 : decode cX7_hands 95 = .ok (.iload 4, 2) := by decide +kernel
theorem dX7_hands_97 : decode cX7_hands 97 = .ok (.isub, 1) := by decide +kernel
theorem dX7_hands_98 : decode cX7_hands 98 = .ok (.iload 6, 2) := by decide +kernel
theorem dX7_hands_100 : decode cX7_hands 100 = .ok (.iconst 4, 1) := by decide +kernel
theorem dX7_hands_101 : decode cX7_hands 101 = .ok (.if_icmp .ne 7, 3) := by decide +kernel
theorem dX7_hands_104 : decode cX7_hands 104 = .ok (.iconst 0, 1) := by decide +kernel
theorem dX7_hands_105 : decode cX7_hands 105 = .ok (.goto 4, 3) := by decide +kernel
theorem dX7_hands_108 : decode cX7_hands 108 = .ok (.iconst 2, 1) := by decide +kernel
theorem dX7_hands_109 : decode cX7_hands 109 = .ok (.isub, 1) := by decide +kernel
theorem dX7_hands_110 : decode cX7_hands 110 = .ok (.iastore, 1) := by decide +kernel
theorem dX7_hands_111 : decode cX7_hands 111 = .ok (.aload_n 0, 1) := by decide +kernel
theorem dX7_hands_112 : decode cX7_hands 112 = .ok (.getfield 32, 3) := by decide +kernel
theorem dX7_hands_115 : decode cX7_hands 115 = .ok (.iconst 5, 1) := by decide +kernel
theorem dX7_hands_116 : decode cX7_hands 116 = .ok (.iload 6, 2) := by decide +kernel
theorem dX7_hands_118 : decode cX7_hands 118 = .ok (.imul, 1) := by decide +kernel
theorem dX7_hands_119 : decode cX7_hands 119 = .ok (.iload 7, 2) := by decide +kernel
theorem dX7_hands_121 : decode cX7_hands 121 = .ok (.iadd, 1) := by decide +kernel
theorem dX7_hands_122 : decode cX7_hands 122 = .ok (.aload_n 0, 1) := by decide +kernel
theorem dX7_hands_123 : decode cX7_hands 123 = .ok (.iload_n 2, 1) := by decide +kernel
theorem dX7_hands_124 : decode cX7_hands 124 = .ok (.invokevirtual 213, 3) := by decide +kernel
theorem dX7_hands_127 : decode cX7_hands 127 = .ok (.iload 5, 2) := by decide +kernel
theorem dX7_hands_129 : decode cX7_hands 129 = .ok (.isub, 1) := by decide +kernel
theorem dX7_hands_130 : decode cX7_hands 130 = .ok (.iload 7, 2) := by decide +kernel
theorem dX7_hands_132 : decode cX7_hands 132 = .ok (.iconst 4, 1) := by decide +kernel
theorem dX7_hands_133 : decode cX7_hands 133 = .ok (.if_icmp .ne 7, 3) := by decide +kernel
theorem dX7_hands_136 : decode cX7_hands 136 = .ok (.iconst 0, 1) := by decide +kernel
theorem dX7_hands_137 : decode cX7_hands 137 = .ok (.goto 4, 3) := by decide +kernel
theorem dX7_hands_140 : decode cX7_hands 140 = .ok (.iconst 2, 1) := by decide +kernel
theorem dX7_hands_141 : decode cX7_hands 141 = .ok (.isub, 1) := by decide +kernel
theorem dX7_hands_142 : decode cX7_hands 142 = .ok (.iastore, 1) := by decide +kernel
theorem dX7_hands_143 : decode cX7_hands 143 = .ok (.aload_n 0, 1) := by decide +kernel
theorem dX7_hands_144 : decode cX7_hands 144 = .ok (.invokevirtual 225, 3) := by decide +kernel
theorem dX7_hands_147 : decode cX7_hands 147 = .ok (.iinc 7 1, 3) := by decide +kernel
theorem dX7_hands_150 : decode cX7_hands 150 = .ok (.goto (-89), 3) := by decide +kernel
theorem dX7_hands_153 : decode cX7_hands 153 = .ok (.iinc 6 1, 3) := by decide +kernel
theorem dX7_hands_156 : decode cX7_hands 156 = .ok (.goto (-104), 3) := by decide +kernel
theorem dX7_hands_159 : decode cX7_hands 159 = .ok (.iconst 0, 1) := by decide +kernel
theorem dX7_hands_160 : decode cX7_hands 160 = .ok (.istore 6, 2) := by decide +kernel
theorem dX7_hands_162 : decode cX7_hands 162 = .ok (.iconst 0, 1) := by decide +kernel
theorem dX7_hands_163 : decode cX7_hands 163 = .ok (.istore 7, 2) := by decide +kernel
theorem dX7_hands_165 : decode cX7_hands 165 = .ok (.iconst 0, 1) := by decide +kernel
theorem dX7_hands_166 : decode cX7_hands 166 = .ok (.istore 8, 2) := by decide +kernel
theorem dX7_hands_168 : decode cX7_hands 168 = .ok (.iload 8, 2) := by decide +kernel
theorem dX7_hands_170 : decode cX7_hands 170 = .ok (.iconst 5, 1) := by decide +kernel
theorem dX7_hands_171 : decode cX7_hands 171 = .ok (.if_icmp .ge 59, 3) := by decide +kernel
theorem dX7_hands_174 : decode cX7_hands 174 = .ok (.iconst 0, 1) := by decide +kernel
theorem dX7_hands_175 : decode cX7_hands 175 = .ok (.istore 9, 2) := by decide +kernel
theorem dX7_hands_177 : decode cX7_hands 177 = .ok (.iload 9, 2) := by decide +kernel
theorem dX7_hands_179 : decode cX7_hands 179 = .ok (.iconst 5, 1) := by decide +kernel
theorem dX7_hands_180 : decode cX7_hands 180 = .ok (.if_icmp .ge 44, 3) := by decide +kernel
theorem dX7_hands_183 : decode cX7_hands 183 = .ok (.aload_n 0, 1) := by decide +kernel
theorem dX7_hands_184 : decode cX7_hands 184 = .ok (.iload 8, 2) := by decide +kernel
theorem dX7_hands_186 : decode cX7_hands 186 = .ok (.iload 9, 2) := by decide +kernel
theorem dX7_hands_188 : decode cX7_hands 188 = .ok (.invokevirtual 270, 3) := by decide +kernel
theorem dX7_hands_191 : decode cX7_hands 191 = .ok (.ifCond .eq 27, 3) := by decide +kernel
theorem dX7_hands_194 : decode cX7_hands 194 = .ok (.iload 6, 2) := by decide +kernel
theorem dX7_hands_196 : decode cX7_hands 196 = .ok (.iload_n 3, 1) := by decide +kernel
theorem dX7_hands_197 : decode cX7_hands 197 = .ok (.if_icmp .ne 14, 3) := by decide +kernel
theorem dX7_hands_200 : decode cX7_hands 200 = .ok (.bipush 10, 2) := by decide +kernel
theorem dX7_hands_202 : decode cX7_hands 202 = .ok (.iload 8, 2) := by decide +kernel
theorem dX7_hands_204 : decode cX7_hands 204 = .ok (.imul, 1) := by decide +kernel
theorem dX7_hands_205 : decode cX7_hands 205 = .ok (.iload 9, 2) := by decide +kernel
theorem dX7_hands_207 : decode cX7_hands 207 = .ok (.iadd, 1) := by decide +kernel
theorem dX7_hands_208 : decode cX7_hands 208 = .ok (.goto 5, 3) := by decide +kernel
theorem dX7_hands_211 : decode cX7_hands 211 = .ok (.iload 7, 2) := by decide +kernel
theorem dX7_hands_213 : decode cX7_hands 213 = .ok (.istore 7, 2) := by decide +kernel
theorem dX7_hands_215 : decode cX7_hands 215 = .ok (.iinc 6 1, 3) := by decide +kernel
theorem dX7_hands_218 : decode cX7_hands 218 = .ok (.iinc 9 1, 3) := by decide +kernel
theorem dX7_hands_221 : decode cX7_hands 221 = .ok (.goto (-44), 3) := by decide +kernel
theorem dX7_hands_224 : decode cX7_hands 224 = .ok (.iinc 8 1, 3) := by decide +kernel
theorem dX7_hands_227 : decode cX7_hands 227 = .ok (.goto (-59), 3) := by decide +kernel
theorem dX7_hands_230 : decode cX7_hands 230 = .ok (.aload_n 0, 1) := by decide +kernel
theorem dX7_hands_231 : decode cX7_hands 231 = .ok (.iload 6, 2) := by decide +kernel
theorem dX7_hands_233 : decode cX7_hands 233 = .ok (.iload_n 3, 1) := by decide +kernel
theorem dX7_hands_234 : decode cX7_hands 234 = .ok (.iload 7, 2) := by decide +kernel
theorem dX7_hands_236 : decode cX7_hands 236 = .ok (.invokevirtual 219, 3) := by decide +kernel
theorem dX7_hands_239 : decode cX7_hands 239 = .ok (.ireturn, 1) := by decide +kernel
theorem dX7_fraction_0 : decode cX7_fraction 0 = .ok (.lload_n 1, 1) := by decide +kernel
theorem dX7_fraction_1 : decode cX7_fraction 1 = .ok (.lstore 5, 2) := by decide +kernel
theorem dX7_fraction_3 : decode cX7_fraction 3 = .ok (.lload_n 3, 1) := by decide +kernel
theorem dX7_fraction_4 : decode cX7_fraction 4 = .ok (.lstore 7, 2) := by decide +kernel
theorem dX7_fraction_6 : decode cX7_fraction 6 = .ok (.lload 7, 2) := by decide +kernel
theorem dX7_fraction_8 : decode cX7_fraction 8 = .ok (.lconst 0, 1) := by decide +kernel
theorem dX7_fraction_9 : decode cX7_fraction 9 = .ok (.lcmp, 1) := by decide +kernel
theorem dX7_fraction_10 : decode cX7_fraction 10 = .ok (.ifCond .eq 21, 3) := by decide +kernel
theorem dX7_fraction_13 : decode cX7_fraction 13 = .ok (.lload 5, 2) := by decide +kernel
theorem dX7_fraction_15 : decode cX7_fraction 15 = .ok (.lload 7, 2) := by decide +kernel
theorem dX7_fraction_17 : decode cX7_fraction 17 = .ok (.lrem, 1) := by decide +kernel
theorem dX7_fraction_18 : decode cX7_fraction 18 = .ok (.lstore 9, 2) := by decide +kernel
theorem dX7_fraction_20 : decode cX7_fraction 20 = .ok (.lload 7, 2) := by decide +kernel
theorem dX7_fraction_22 : decode cX7_fraction 22 = .ok (.lstore 5, 2) := by decide +kernel
theorem dX7_fraction_24 : decode cX7_fraction 24 = .ok (.lload 9, 2) := by decide +kernel
theorem dX7_fraction_26 : decode cX7_fraction 26 = .ok (.lstore 7, 2) := by decide +kernel
theorem dX7_fraction_28 : decode cX7_fraction 28 = .ok (.goto (-22), 3) := by decide +kernel
theorem dX7_fraction_31 : decode cX7_fraction 31 = .ok (.aload_n 0, 1) := by decide +kernel
theorem dX7_fraction_32 : decode cX7_fraction 32 = .ok (.lload_n 1, 1) := by decide +kernel
theorem dX7_fraction_33 : decode cX7_fraction 33 = .ok (.lload 5, 2) := by decide +kernel
theorem dX7_fraction_35 : decode cX7_fraction 35 = .ok (.ldiv, 1) := by decide +kernel
theorem dX7_fraction_36 : decode cX7_fraction 36 = .ok (.putfield 274, 3) := by decide +kernel
theorem dX7_fraction_39 : decode cX7_fraction 39 = .ok (.aload_n 0, 1) := by decide +kernel
theorem dX7_fraction_40 : decode cX7_fraction 40 = .ok (.lload_n 3, 1) := by decide +kernel
theorem dX7_fraction_41 : decode cX7_fraction 41 = .ok (.lload 5, 2) := by decide +kernel
theorem dX7_fraction_43 : decode cX7_fraction 43 = .ok (.ldiv, 1) := by decide +kernel
theorem dX7_fraction_44 : decode cX7_fraction 44 = .ok (.putfield 13, 3) := by decide +kernel
theorem dX7_fraction_47 : decode cX7_fraction 47 = .ok (.iconst 1, 1) := by decide +kernel
theorem dX7_fraction_48 : decode cX7_fraction 48 = .ok (.ireturn, 1) := by decide +kernel
theorem dX7_slack_0 : decode cX7_slack 0 = .ok (.iload_n 1, 1) := by decide +kernel
theorem dX7_slack_1 : decode cX7_slack 1 = .ok (.i2l, 1) := by decide +kernel
theorem dX7_slack_2 : decode cX7_slack 2 = .ok (.lconst 0, 1) := by decide +kernel
theorem dX7_slack_3 : decode cX7_slack 3 = .ok (.ldc2_w 245, 3) := by decide +kernel
theorem dX7_slack_6 : decode cX7_slack 6 = .ok (.invokestatic 52, 3) := by decide +kernel
theorem dX7_slack_9 : decode cX7_slack 9 = .ok (.ifCond .eq 15, 3) := by decide +kernel
theorem dX7_slack_12 : decode cX7_slack 12 = .ok (.iload_n 2, 1) := by decide +kernel
theorem dX7_slack_13 : decode cX7_slack 13 = .ok (.i2l, 1) := by decide +kernel
theorem dX7_slack_14 : decode cX7_slack 14 = .ok (.lconst 0, 1) := by decide +kernel
theorem dX7_slack_15 : decode cX7_slack 15 = .ok (.ldc2_w 277, 3) := by decide +kernel
theorem dX7_slack_18 : decode cX7_slack 18 = .ok (.invokestatic 52, 3) := by decide +kernel
theorem dX7_slack_21 : decode cX7_slack 21 = .ok (.ifCond .ne 8, 3) := by decide +kernel
theorem dX7_slack_24 : decode cX7_slack 24 = .ok (.aload_n 0, 1) := by decide +kernel
theorem dX7_slack_25 : decode cX7_slack 25 = .ok (.invokevirtual 84, 3) := by decide +kernel
theorem dX7_slack_28 : decode cX7_slack 28 = .ok (.ireturn, 1) := by decide +kernel
theorem dX7_slack_29 : decode cX7_slack 29 = .ok (.lconst 0, 1) := by decide +kernel
theorem dX7_slack_30 : decode cX7_slack 30 = .ok (.lstore_n 3, 1) := by decide +kernel
theorem dX7_slack_31 : decode cX7_slack 31 = .ok (.lconst 0, 1) := by decide +kernel
theorem dX7_slack_32 : decode cX7_slack 32 = .ok (.lstore 5, 2) := by decide +kernel
theorem dX7_slack_34 : decode cX7_slack 34 = .ok (.aload_n 0, 1) := by decide +kernel
theorem dX7_slack_35 : decode cX7_slack 35 = .ok (.invokevirtual 222, 3) := by decide +kernel
theorem dX7_slack_38 : decode cX7_slack 38 = .ok (.iconst 0, 1) := by decide +kernel
theorem dX7_slack_39 : decode cX7_slack 39 = .ok (.istore 7, 2) := by decide +kernel
theorem dX7_slack_41 : decode cX7_slack 41 = .ok (.iload 7, 2) := by decide +kernel
theorem dX7_slack_43 : decode cX7_slack 43 = .ok (.iconst 1, 1) := by decide +kernel
theorem dX7_slack_44 : decode cX7_slack 44 = .ok (.iload_n 1, 1) := by decide +kernel
theorem dX7_slack_45 : decode cX7_slack 45 = .ok (.ishl, 1) := by decide +kernel
theorem dX7_slack_46 : decode cX7_slack 46 = .ok (.if_icmp .ge 167, 3) := by decide +kernel
theorem dX7_slack_49 : decode cX7_slack 49 = .ok (.lconst 1, 1) := by decide +kernel
theorem dX7_slack_50 : decode cX7_slack 50 = .ok (.lstore 8, 2) := by decide +kernel
theorem dX7_slack_52 : decode cX7_slack 52 = .ok (.iconst 0, 1) := by decide +kernel
theorem dX7_slack_53 : decode cX7_slack 53 = .ok (.istore 10, 2) := by decide +kernel
theorem dX7_slack_55 : decode cX7_slack 55 = .ok (.iload 10, 2) := by decide +kernel
theorem dX7_slack_57 : decode cX7_slack 57 = .ok (.iload_n 1, 1) := by decide +kernel
theorem dX7_slack_58 : decode cX7_slack 58 = .ok (.if_icmp .ge 72, 3) := by decide +kernel
theorem dX7_slack_61 : decode cX7_slack 61 = .ok (.iload 7, 2) := by decide +kernel
theorem dX7_slack_63 : decode cX7_slack 63 = .ok (.iload 10, 2) := by decide +kernel
theorem dX7_slack_65 : decode cX7_slack 65 = .ok (.ishr, 1) := by decide +kernel
theorem dX7_slack_66 : decode cX7_slack 66 = .ok (.iconst 1, 1) := by decide +kernel
theorem dX7_slack_67 : decode cX7_slack 67 = .ok (.iand, 1) := by decide +kernel
theorem dX7_slack_68 : decode cX7_slack 68 = .ok (.iconst 1, 1) := by decide +kernel
theorem dX7_slack_69 : decode cX7_slack 69 = .ok (.if_icmp .ne 7, 3) := by decide +kernel
theorem dX7_slack_72 : decode cX7_slack 72 = .ok (.iconst 1, 1) := by decide +kernel
theorem dX7_slack_73 : decode cX7_slack 73 = .ok (.goto 4, 3) := by decide +kernel
theorem dX7_slack_76 : decode cX7_slack 76 = .ok (.iconst 0, 1) := by decide +kernel
theorem dX7_slack_77 : decode cX7_slack 77 = .ok (.istore 11, 2) := by decide +kernel
theorem dX7_slack_79 : decode cX7_slack 79 = .ok (.lload 8, 2) := by decide +kernel
theorem dX7_slack_81 : decode cX7_slack 81 = .ok (.iload 11, 2) := by decide +kernel
theorem dX7_slack_83 : decode cX7_slack 83 = .ok (.ifCond .eq 8, 3) := by decide +kernel
theorem dX7_slack_86 : decode cX7_slack 86 = .ok (.iload_n 2, 1) := by decide +kernel
theorem dX7_slack_87 : decode cX7_slack 87 = .ok (.i2l, 1) := by decide +kernel
theorem dX7_slack_88 : decode cX7_slack 88 = .ok (.goto 8, 3) := by decide +kernel
theorem dX7_slack_91 : decode cX7_slack 91 = .ok (.bipush 10, 2) := by decide +kernel
theorem dX7_slack_93 : decode cX7_slack 93 = .ok (.iload_n 2, 1) := by decide +kernel
theorem dX7_slack_94 : decode cX7_slack 94 = .ok (.isub, 1) := by decide +kernel
theorem dX7_slack_95 : decode cX7_slack 95 = .ok (.i2l, 1) := by decide +kernel
theorem dX7_slack_96 : decode cX7_slack 96 = .ok (.lmul, 1) := by decide +kernel
theorem dX7_slack_97 : decode cX7_slack 97 = .ok (.lstore 8, 2) := by decide +kernel
theorem dX7_slack_99 : decode cX7_slack 99 = .ok (.aload_n 0, 1) := by decide +kernel
theorem dX7_slack_100 : decode cX7_slack 100 = .ok (.iload 11, 2) := by decide +kernel
theorem dX7_slack_102 : decode cX7_slack 102 = .ok (.ifCond .eq 7, 3) := by decide +kernel
theorem dX7_slack_105 : decode cX7_slack 105 = .ok (.iconst 4, 1) := by decide +kernel
theorem dX7_slack_106 : decode cX7_slack 106 = .ok (.goto 15, 3) := by decide +kernel
theorem dX7_slack_109 : decode cX7_slack 109 = .ok (.aload_n 0, 1) := by decide +kernel
theorem dX7_slack_110 : decode cX7_slack 110 = .ok (.getfield 7, 3) := by decide +kernel
theorem dX7_slack_113 : decode cX7_slack 113 = .ok (.bipush 54, 2) := by decide +kernel
theorem dX7_slack_115 : decode cX7_slack 115 = .ok (.iconst 2, 1) := by decide +kernel
theorem dX7_slack_116 : decode cX7_slack 116 = .ok (.iload 10, 2) := by decide +kernel
theorem dX7_slack_118 : decode cX7_slack 118 = .ok (.imul, 1) := by decide +kernel
theorem dX7_slack_119 : decode cX7_slack 119 = .ok (.iadd, 1) := by decide +kernel
theorem dX7_slack_120 : decode cX7_slack 120 = .ok (.iaload, 1) := by decide +kernel
theorem dX7_slack_121 : decode cX7_slack 121 = .ok (.invokevirtual 184, 3) := by decide +kernel
theorem dX7_slack_124 : decode cX7_slack 124 = .ok (.iinc 10 1, 3) := by decide +kernel
theorem dX7_slack_127 : decode cX7_slack 127 = .ok (.goto (-72), 3) := by decide +kernel
theorem dX7_slack_130 : decode cX7_slack 130 = .ok (.iload_n 1, 1) := by decide +kernel
theorem dX7_slack_131 : decode cX7_slack 131 = .ok (.ifCond .eq 44, 3) := by decide +kernel
theorem dX7_slack_134 : decode cX7_slack 134 = .ok (.aload_n 0, 1) := by decide +kernel
theorem dX7_slack_135 : decode cX7_slack 135 = .ok (.aload_n 0, 1) := by decide +kernel
theorem dX7_slack_136 : decode cX7_slack 136 = .ok (.getfield 7, 3) := by decide +kernel
theorem dX7_slack_139 : decode cX7_slack 139 = .ok (.bipush 53, 2) := by decide +kernel
theorem dX7_slack_141 : decode cX7_slack 141 = .ok (.iaload, 1) := by decide +kernel
theorem dX7_slack_142 : decode cX7_slack 142 = .ok (.invokevirtual 193, 3) := by decide +kernel
theorem dX7_slack_145 : decode cX7_slack 145 = .ok (.ifCond .eq 34, 3) := by decide +kernel
theorem dX7_slack_148 : decode cX7_slack 148 = .ok (.aload_n 0, 1) := by decide +kernel
theorem dX7_slack_149 : decode cX7_slack 149 = .ok (.aload_n 0, 1) := by decide +kernel
theorem dX7_slack_150 : decode cX7_slack 150 = .ok (.getfield 7, 3) := by decide +kernel
theorem dX7_slack_153 : decode cX7_slack 153 = .ok (.bipush 53, 2) := by decide +kernel
theorem dX7_slack_155 : decode cX7_slack 155 = .ok (.iaload, 1) := by decide +kernel
theorem dX7_slack_156 : decode cX7_slack 156 = .ok (.invokevirtual 213, 3) := by decide +kernel
theorem dX7_slack_159 : decode cX7_slack 159 = .ok (.aload_n 0, 1) := by decide +kernel
theorem dX7_slack_160 : decode cX7_slack 160 = .ok (.getfield 7, 3) := by decide +kernel
theorem dX7_slack_163 : decode cX7_slack 163 = .ok (.bipush 54, 2) := by decide +kernel
theorem dX7_slack_165 : decode cX7_slack 165 = .ok (.iconst 2, 1) := by decide +kernel
theorem dX7_slack_166 : decode cX7_slack 166 = .ok (.iload_n 1, 1) := by decide +kernel
theorem dX7_slack_167 : decode cX7_slack 167 = .ok (.imul, 1) := by decide +kernel
theorem dX7_slack_168 : decode cX7_slack 168 = .ok (.iadd, 1) := by decide +kernel
theorem dX7_slack_169 : decode cX7_slack 169 = .ok (.iconst 1, 1) := by decide +kernel
theorem dX7_slack_170 : decode cX7_slack 170 = .ok (.isub, 1) := by decide +kernel
theorem dX7_slack_171 : decode cX7_slack 171 = .ok (.iaload, 1) := by decide +kernel
theorem dX7_slack_172 : decode cX7_slack 172 = .ok (.if_icmp .ne 7, 3) := by decide +kernel
theorem dX7_slack_175 : decode cX7_slack 175 = .ok (.iconst 1, 1) := by decide +kernel
theorem dX7_slack_176 : decode cX7_slack 176 = .ok (.goto 4, 3) := by decide +kernel
theorem dX7_slack_179 : decode cX7_slack 179 = .ok (.iconst 0, 1) := by decide +kernel
theorem dX7_slack_180 : decode cX7_slack 180 = .ok (.istore 10, 2) := by decide +kernel
theorem dX7_slack_182 : decode cX7_slack 182 = .ok (.lload 5, 2) := by decide +kernel
theorem dX7_slack_184 : decode cX7_slack 184 = .ok (.lload 8, 2) := by decide +kernel
theorem dX7_slack_186 : decode cX7_slack 186 = .ok (.ladd, 1) := by decide +kernel
theorem dX7_slack_187 : decode cX7_slack 187 = .ok (.lstore 5, 2) := by decide +kernel
theorem dX7_slack_189 : decode cX7_slack 189 = .ok (.lload_n 3, 1) := by decide +kernel
theorem dX7_slack_190 : decode cX7_slack 190 = .ok (.iload 10, 2) := by decide +kernel
theorem dX7_slack_192 : decode cX7_slack 192 = .ok (.ifCond .eq 8, 3) := by decide +kernel
theorem dX7_slack_195 : decode cX7_slack 195 = .ok (.lload 8, 2) := by decide +kernel
theorem dX7_slack_197 : decode cX7_slack 197 = .ok (.goto 4, 3) := by decide +kernel
theorem dX7_slack_200 : decode cX7_slack 200 = .ok (.lconst 0, 1) := by decide +kernel
theorem dX7_slack_201 : decode cX7_slack 201 = .ok (.ladd, 1) := by decide +kernel
theorem dX7_slack_202 : decode cX7_slack 202 = .ok (.lstore_n 3, 1) := by decide +kernel
theorem dX7_slack_203 : decode cX7_slack 203 = .ok (.aload_n 0, 1) := by decide +kernel
theorem dX7_slack_204 : decode cX7_slack 204 = .ok (.invokevirtual 225, 3) := by decide +kernel
theorem dX7_slack_207 : decode cX7_slack 207 = .ok (.iinc 7 1, 3) := by decide +kernel
theorem dX7_slack_210 : decode cX7_slack 210 = .ok (.goto (-169), 3) := by decide +kernel
theorem dX7_slack_213 : decode cX7_slack 213 = .ok (.aload_n 0, 1) := by decide +kernel
theorem dX7_slack_214 : decode cX7_slack 214 = .ok (.lload_n 3, 1) := by decide +kernel
theorem dX7_slack_215 : decode cX7_slack 215 = .ok (.lload 5, 2) := by decide +kernel
theorem dX7_slack_217 : decode cX7_slack 217 = .ok (.invokevirtual 279, 3) := by decide +kernel
theorem dX7_slack_220 : decode cX7_slack 220 = .ok (.ireturn, 1) := by decide +kernel
theorem dX7_nights_0 : decode cX7_nights 0 = .ok (.iload_n 1, 1) := by decide +kernel
theorem dX7_nights_1 : decode cX7_nights 1 = .ok (.i2l, 1) := by decide +kernel
theorem dX7_nights_2 : decode cX7_nights 2 = .ok (.lconst 0, 1) := by decide +kernel
theorem dX7_nights_3 : decode cX7_nights 3 = .ok (.ldc2_w 283, 3) := by decide +kernel
theorem dX7_nights_6 : decode cX7_nights 6 = .ok (.invokestatic 52, 3) := by decide +kernel
theorem dX7_nights_9 : decode cX7_nights 9 = .ok (.ifCond .eq 15, 3) := by decide +kernel
theorem dX7_nights_12 : decode cX7_nights 12 = .ok (.iload_n 2, 1) := by decide +kernel
theorem dX7_nights_13 : decode cX7_nights 13 = .ok (.i2l, 1) := by decide +kernel
theorem dX7_nights_14 : decode cX7_nights 14 = .ok (.lconst 0, 1) := by decide +kernel
theorem dX7_nights_15 : decode cX7_nights 15 = .ok (.ldc2_w 237, 3) := by decide +kernel
theorem dX7_nights_18 : decode cX7_nights 18 = .ok (.invokestatic 52, 3) := by decide +kernel
theorem dX7_nights_21 : decode cX7_nights 21 = .ok (.ifCond .ne 8, 3) := by decide +kernel
theorem dX7_nights_24 : decode cX7_nights 24 = .ok (.aload_n 0, 1) := by decide +kernel
theorem dX7_nights_25 : decode cX7_nights 25 = .ok (.invokevirtual 84, 3) := by decide +kernel
theorem dX7_nights_28 : decode cX7_nights 28 = .ok (.ireturn, 1) := by decide +kernel
theorem dX7_nights_29 : decode cX7_nights 29 = .ok (.aload_n 0, 1) := by decide +kernel
theorem dX7_nights_30 : decode cX7_nights 30 = .ok (.invokevirtual 222, 3) := by decide +kernel
theorem dX7_nights_33 : decode cX7_nights 33 = .ok (.iload_n 1, 1) := by decide +kernel
theorem dX7_nights_34 : decode cX7_nights 34 = .ok (.i2l, 1) := by decide +kernel
theorem dX7_nights_35 : decode cX7_nights 35 = .ok (.lstore_n 3, 1) := by decide +kernel
theorem dX7_nights_36 : decode cX7_nights 36 = .ok (.iconst 0, 1) := by decide +kernel
theorem dX7_nights_37 : decode cX7_nights 37 = .ok (.istore 5, 2) := by decide +kernel
theorem dX7_nights_39 : decode cX7_nights 39 = .ok (.iload 5, 2) := by decide +kernel
theorem dX7_nights_41 : decode cX7_nights 41 = .ok (.iload_n 2, 1) := by decide +kernel
theorem dX7_nights_42 : decode cX7_nights 42 = .ok (.if_icmp .ge 37, 3) := by decide +kernel
theorem dX7_nights_45 : decode cX7_nights 45 = .ok (.lload_n 3, 1) := by decide +kernel
theorem dX7_nights_46 : decode cX7_nights 46 = .ok (.ldc2_w 285, 3) := by decide +kernel
theorem dX7_nights_49 : decode cX7_nights 49 = .ok (.lmul, 1) := by decide +kernel
theorem dX7_nights_50 : decode cX7_nights 50 = .ok (.ldc2_w 287, 3) := by decide +kernel
theorem dX7_nights_53 : decode cX7_nights 53 = .ok (.ladd, 1) := by decide +kernel
theorem dX7_nights_54 : decode cX7_nights 54 = .ok (.ldc2_w 289, 3) := by decide +kernel
theorem dX7_nights_57 : decode cX7_nights 57 = .ok (.lrem, 1) := by decide +kernel
theorem dX7_nights_58 : decode cX7_nights 58 = .ok (.lstore_n 3, 1) := by decide +kernel
theorem dX7_nights_59 : decode cX7_nights 59 = .ok (.aload_n 0, 1) := by decide +kernel
theorem dX7_nights_60 : decode cX7_nights 60 = .ok (.lload_n 3, 1) := by decide +kernel
theorem dX7_nights_61 : decode cX7_nights 61 = .ok (.ldc2_w 291, 3) := by decide +kernel
theorem dX7_nights_64 : decode cX7_nights 64 = .ok (.ldiv, 1) := by decide +kernel
theorem dX7_nights_65 : decode cX7_nights 65 = .ok (.ldc2_w 88, 3) := by decide +kernel
theorem dX7_nights_68 : decode cX7_nights 68 = .ok (.lrem, 1) := by decide +kernel
theorem dX7_nights_69 : decode cX7_nights 69 = .ok (.l2i, 1) := by decide +kernel
theorem dX7_nights_70 : decode cX7_nights 70 = .ok (.invokevirtual 184, 3) := by decide +kernel
theorem dX7_nights_73 : decode cX7_nights 73 = .ok (.iinc 5 1, 3) := by decide +kernel
theorem dX7_nights_76 : decode cX7_nights 76 = .ok (.goto (-37), 3) := by decide +kernel
theorem dX7_nights_79 : decode cX7_nights 79 = .ok (.aload_n 0, 1) := by decide +kernel
theorem dX7_nights_80 : decode cX7_nights 80 = .ok (.invokevirtual 208, 3) := by decide +kernel
theorem dX7_nights_83 : decode cX7_nights 83 = .ok (.istore 5, 2) := by decide +kernel
theorem dX7_nights_85 : decode cX7_nights 85 = .ok (.aload_n 0, 1) := by decide +kernel
theorem dX7_nights_86 : decode cX7_nights 86 = .ok (.invokevirtual 225, 3) := by decide +kernel
theorem dX7_nights_89 : decode cX7_nights 89 = .ok (.iload 5, 2) := by decide +kernel
theorem dX7_nights_91 : decode cX7_nights 91 = .ok (.ireturn, 1) := by decide +kernel
theorem dX7_part_0 : decode cX7_part 0 = .ok (.iload_n 1, 1) := by decide +kernel
theorem dX7_part_1 : decode cX7_part 1 = .ok (.i2l, 1) := by decide +kernel
theorem dX7_part_2 : decode cX7_part 2 = .ok (.lconst 0, 1) := by decide +kernel
theorem dX7_part_3 : decode cX7_part 3 = .ok (.lconst 1, 1) := by decide +kernel
theorem dX7_part_4 : decode cX7_part 4 = .ok (.invokestatic 52, 3) := by decide +kernel
theorem dX7_part_7 : decode cX7_part 7 = .ok (.ifCond .ne 9, 3) := by decide +kernel
theorem dX7_part_10 : decode cX7_part 10 = .ok (.aload_n 0, 1) := by decide +kernel
theorem dX7_part_11 : decode cX7_part 11 = .ok (.invokevirtual 84, 3) := by decide +kernel
theorem dX7_part_14 : decode cX7_part 14 = .ok (.i2l, 1) := by decide +kernel
theorem dX7_part_15 : decode cX7_part 15 = .ok (.lreturn, 1) := by decide +kernel
theorem dX7_part_16 : decode cX7_part 16 = .ok (.iload_n 1, 1) := by decide +kernel
theorem dX7_part_17 : decode cX7_part 17 = .ok (.ifCond .ne 10, 3) := by decide +kernel
theorem dX7_part_20 : decode cX7_part 20 = .ok (.aload_n 0, 1) := by decide +kernel
theorem dX7_part_21 : decode cX7_part 21 = .ok (.getfield 274, 3) := by decide +kernel
theorem dX7_part_24 : decode cX7_part 24 = .ok (.goto 7, 3) := by decide +kernel
theorem dX7_part_27 : decode cX7_part 27 = .ok (.aload_n 0, 1) := by decide +kernel
theorem dX7_part_28 : decode cX7_part 28 = .ok (.getfield 13, 3) := by decide +kernel
theorem dX7_part_31 : decode cX7_part 31 = .ok (.lreturn, 1) := by decide +kernel
theorem dX7_image_0 : decode cX7_image 0 = .ok (.iload_n 1, 1) := by decide +kernel
theorem dX7_image_1 : decode cX7_image 1 = .ok (.i2l, 1) := by decide +kernel
theorem dX7_image_2 : decode cX7_image 2 = .ok (.lconst 0, 1) := by decide +kernel
theorem dX7_image_3 : decode cX7_image 3 = .ok (.lconst 1, 1) := by decide +kernel
theorem dX7_image_4 : decode cX7_image 4 = .ok (.invokestatic 52, 3) := by decide +kernel
theorem dX7_image_7 : decode cX7_image 7 = .ok (.ifCond .ne 8, 3) := by decide +kernel
theorem dX7_image_10 : decode cX7_image 10 = .ok (.aload_n 0, 1) := by decide +kernel
theorem dX7_image_11 : decode cX7_image 11 = .ok (.invokevirtual 84, 3) := by decide +kernel
theorem dX7_image_14 : decode cX7_image 14 = .ok (.ireturn, 1) := by decide +kernel
theorem dX7_image_15 : decode cX7_image 15 = .ok (.iconst 0, 1) := by decide +kernel
theorem dX7_image_16 : decode cX7_image 16 = .ok (.istore_n 2, 1) := by decide +kernel
theorem dX7_image_17 : decode cX7_image 17 = .ok (.iload_n 2, 1) := by decide +kernel
theorem dX7_image_18 : decode cX7_image 18 = .ok (.sipush 340, 3) := by decide +kernel
theorem dX7_image_21 : decode cX7_image 21 = .ok (.if_icmp .ge 27, 3) := by decide +kernel
theorem dX7_image_24 : decode cX7_image 24 = .ok (.aload_n 0, 1) := by decide +kernel
theorem dX7_image_25 : decode cX7_image 25 = .ok (.getfield 35, 3) := by decide +kernel
theorem dX7_image_28 : decode cX7_image 28 = .ok (.sipush 340, 3) := by decide +kernel
theorem dX7_image_31 : decode cX7_image 31 = .ok (.iload_n 1, 1) := by decide +kernel
theorem dX7_image_32 : decode cX7_image 32 = .ok (.imul, 1) := by decide +kernel
theorem dX7_image_33 : decode cX7_image 33 = .ok (.iload_n 2, 1) := by decide +kernel
theorem dX7_image_34 : decode cX7_image 34 = .ok (.iadd, 1) := by decide +kernel
theorem dX7_image_35 : decode cX7_image 35 = .ok (.aload_n 0, 1) := by decide +kernel
theorem dX7_image_36 : decode cX7_image 36 = .ok (.getfield 7, 3) := by decide +kernel
theorem dX7_image_39 : decode cX7_image 39 = .ok (.iload_n 2, 1) := by decide +kernel
theorem dX7_image_40 : decode cX7_image 40 = .ok (.iaload, 1) := by decide +kernel
theorem dX7_image_41 : decode cX7_image 41 = .ok (.iastore, 1) := by decide +kernel
theorem dX7_image_42 : decode cX7_image 42 = .ok (.iinc 2 1, 3) := by decide +kernel
theorem dX7_image_45 : decode cX7_image 45 = .ok (.goto (-28), 3) := by decide +kernel
theorem dX7_image_48 : decode cX7_image 48 = .ok (.aload_n 0, 1) := by decide +kernel
theorem dX7_image_49 : decode cX7_image 49 = .ok (.dup, 1) := by decide +kernel
theorem dX7_image_50 : decode cX7_image 50 = .ok (.getfield 293, 3) := by decide +kernel
theorem dX7_image_53 : decode cX7_image 53 = .ok (.iconst 1, 1) := by decide +kernel
theorem dX7_image_54 : decode cX7_image 54 = .ok (.iload_n 1, 1) := by decide +kernel
theorem dX7_image_55 : decode cX7_image 55 = .ok (.ishl, 1) := by decide +kernel
theorem dX7_image_56 : decode cX7_image 56 = .ok (.ior, 1) := by decide +kernel
theorem dX7_image_57 : decode cX7_image 57 = .ok (.putfield 293, 3) := by decide +kernel
theorem dX7_image_60 : decode cX7_image 60 = .ok (.iconst 1, 1) := by decide +kernel
theorem dX7_image_61 : decode cX7_image 61 = .ok (.ireturn, 1) := by decide +kernel
theorem dX7_from_0 : decode cX7_from 0 = .ok (.iload_n 1, 1) := by decide +kernel
theorem dX7_from_1 : decode cX7_from 1 = .ok (.i2l, 1) := by decide +kernel
theorem dX7_from_2 : decode cX7_from 2 = .ok (.lconst 0, 1) := by decide +kernel
theorem dX7_from_3 : decode cX7_from 3 = .ok (.lconst 1, 1) := by decide +kernel
theorem dX7_from_4 : decode cX7_from 4 = .ok (.invokestatic 52, 3) := by decide +kernel
theorem dX7_from_7 : decode cX7_from 7 = .ok (.ifCond .ne 8, 3) := by decide +kernel
theorem dX7_from_10 : decode cX7_from 10 = .ok (.aload_n 0, 1) := by decide +kernel
theorem dX7_from_11 : decode cX7_from 11 = .ok (.invokevirtual 84, 3) := by decide +kernel
theorem dX7_from_14 : decode cX7_from 14 = .ok (.ireturn, 1) := by decide +kernel
theorem dX7_from_15 : decode cX7_from 15 = .ok (.aload_n 0, 1) := by decide +kernel
theorem dX7_from_16 : decode cX7_from 16 = .ok (.getfield 293, 3) := by decide +kernel
theorem dX7_from_19 : decode cX7_from 19 = .ok (.iload_n 1, 1) := by decide +kernel
theorem dX7_from_20 : decode cX7_from 20 = .ok (.ishr, 1) := by decide +kernel
theorem dX7_from_21 : decode cX7_from 21 = .ok (.iconst 1, 1) := by decide +kernel
theorem dX7_from_22 : decode cX7_from 22 = .ok (.iand, 1) := by decide +kernel
theorem dX7_from_23 : decode cX7_from 23 = .ok (.ifCond .ne 8, 3) := by decide +kernel
theorem dX7_from_26 : decode cX7_from 26 = .ok (.aload_n 0, 1) := by decide +kernel
theorem dX7_from_27 : decode cX7_from 27 = .ok (.invokevirtual 202, 3) := by decide +kernel
theorem dX7_from_30 : decode cX7_from 30 = .ok (.ireturn, 1) := by decide +kernel
theorem dX7_from_31 : decode cX7_from 31 = .ok (.iconst 0, 1) := by decide +kernel
theorem dX7_from_32 : decode cX7_from 32 = .ok (.istore_n 2, 1) := by decide +kernel
theorem dX7_from_33 : decode cX7_from 33 = .ok (.iload_n 2, 1) := by decide +kernel
theorem dX7_from_34 : decode cX7_from 34 = .ok (.sipush 340, 3) := by decide +kernel
theorem dX7_from_37 : decode cX7_from 37 = .ok (.if_icmp .ge 27, 3) := by decide +kernel
theorem dX7_from_40 : decode cX7_from 40 = .ok (.aload_n 0, 1) := by decide +kernel
theorem dX7_from_41 : decode cX7_from 41 = .ok (.getfield 7, 3) := by decide +kernel
theorem dX7_from_44 : decode cX7_from 44 = .ok (.iload_n 2, 1) := by decide +kernel
theorem dX7_from_45 : decode cX7_from 45 = .ok (.aload_n 0, 1) := by decide +kernel
theorem dX7_from_46 : decode cX7_from 46 = .ok (.getfield 35, 3) := by decide +kernel
theorem dX7_from_49 : decode cX7_from 49 = .ok (.sipush 340, 3) := by decide +kernel
theorem dX7_from_52 : decode cX7_from 52 = .ok (.iload_n 1, 1) := by decide +kernel
theorem dX7_from_53 : decode cX7_from 53 = .ok (.imul, 1) := by decide +kernel
theorem dX7_from_54 : decode cX7_from 54 = .ok (.iload_n 2, 1) := by decide +kernel
theorem dX7_from_55 : decode cX7_from 55 = .ok (.iadd, 1) := by decide +kernel
theorem dX7_from_56 : decode cX7_from 56 = .ok (.iaload, 1) := by decide +kernel
theorem dX7_from_57 : decode cX7_from 57 = .ok (.iastore, 1) := by decide +kernel
theorem dX7_from_58 : decode cX7_from 58 = .ok (.iinc 2 1, 3) := by decide +kernel
theorem dX7_from_61 : decode cX7_from 61 = .ok (.goto (-28), 3) := by decide +kernel
theorem dX7_from_64 : decode cX7_from 64 = .ok (.iconst 1, 1) := by decide +kernel
theorem dX7_from_65 : decode cX7_from 65 = .ok (.ireturn, 1) := by decide +kernel
theorem dX7_status_0 : decode cX7_status 0 = .ok (.iload_n 1, 1) := by decide +kernel
theorem dX7_status_1 : decode cX7_status 1 = .ok (.tableswitch 42 0 2 #[27, 32, 37], 27) := by decide +kernel
theorem dX7_status_28 : decode cX7_status 28 = .ok (.aload_n 0, 1) := by decide +kernel
theorem dX7_status_29 : decode cX7_status 29 = .ok (.getfield 42, 3) := by decide +kernel
theorem dX7_status_32 : decode cX7_status 32 = .ok (.ireturn, 1) := by decide +kernel
theorem dX7_status_33 : decode cX7_status 33 = .ok (.aload_n 0, 1) := by decide +kernel
theorem dX7_status_34 : decode cX7_status 34 = .ok (.getfield 46, 3) := by decide +kernel
theorem dX7_status_37 : decode cX7_status 37 = .ok (.ireturn, 1) := by decide +kernel
theorem dX7_status_38 : decode cX7_status 38 = .ok (.aload_n 0, 1) := by decide +kernel
theorem dX7_status_39 : decode cX7_status 39 = .ok (.getfield 49, 3) := by decide +kernel
theorem dX7_status_42 : decode cX7_status 42 = .ok (.ireturn, 1) := by decide +kernel
theorem dX7_status_43 : decode cX7_status 43 = .ok (.aload_n 0, 1) := by decide +kernel
theorem dX7_status_44 : decode cX7_status 44 = .ok (.dup, 1) := by decide +kernel
theorem dX7_status_45 : decode cX7_status 45 = .ok (.getfield 42, 3) := by decide +kernel
theorem dX7_status_48 : decode cX7_status 48 = .ok (.iconst 1, 1) := by decide +kernel
theorem dX7_status_49 : decode cX7_status 49 = .ok (.iadd, 1) := by decide +kernel
theorem dX7_status_50 : decode cX7_status 50 = .ok (.putfield 42, 3) := by decide +kernel
theorem dX7_status_53 : decode cX7_status 53 = .ok (.iconst (-1), 1) := by decide +kernel
theorem dX7_status_54 : decode cX7_status 54 = .ok (.ireturn, 1) := by decide +kernel
theorem dX7_counted_0 : decode cX7_counted 0 = .ok (.iconst 0, 1) := by decide +kernel
theorem dX7_counted_1 : decode cX7_counted 1 = .ok (.istore_n 2, 1) := by decide +kernel
theorem dX7_counted_2 : decode cX7_counted 2 = .ok (.iconst 0, 1) := by decide +kernel
theorem dX7_counted_3 : decode cX7_counted 3 = .ok (.istore_n 3, 1) := by decide +kernel
theorem dX7_counted_4 : decode cX7_counted 4 = .ok (.iload_n 3, 1) := by decide +kernel
theorem dX7_counted_5 : decode cX7_counted 5 = .ok (.aload_n 0, 1) := by decide +kernel
theorem dX7_counted_6 : decode cX7_counted 6 = .ok (.getfield 7, 3) := by decide +kernel
theorem dX7_counted_9 : decode cX7_counted 9 = .ok (.iconst 0, 1) := by decide +kernel
theorem dX7_counted_10 : decode cX7_counted 10 = .ok (.iaload, 1) := by decide +kernel
theorem dX7_counted_11 : decode cX7_counted 11 = .ok (.if_icmp .ge 18, 3) := by decide +kernel
theorem dX7_counted_14 : decode cX7_counted 14 = .ok (.iload_n 2, 1) := by decide +kernel
theorem dX7_counted_15 : decode cX7_counted 15 = .ok (.aload_n 0, 1) := by decide +kernel
theorem dX7_counted_16 : decode cX7_counted 16 = .ok (.iload_n 3, 1) := by decide +kernel
theorem dX7_counted_17 : decode cX7_counted 17 = .ok (.iconst 5, 1) := by decide +kernel
theorem dX7_counted_18 : decode cX7_counted 18 = .ok (.invokevirtual 56, 3) := by decide +kernel
theorem dX7_counted_21 : decode cX7_counted 21 = .ok (.iadd, 1) := by decide +kernel
theorem dX7_counted_22 : decode cX7_counted 22 = .ok (.istore_n 2, 1) := by decide +kernel
theorem dX7_counted_23 : decode cX7_counted 23 = .ok (.iinc 3 1, 3) := by decide +kernel
theorem dX7_counted_26 : decode cX7_counted 26 = .ok (.goto (-22), 3) := by decide +kernel
theorem dX7_counted_29 : decode cX7_counted 29 = .ok (.iload_n 1, 1) := by decide +kernel
theorem dX7_counted_30 : decode cX7_counted 30 = .ok (.tableswitch 122 0 9 #[54, 61, 66, 73, 80, 87, 89, 97, 105, 113], 54) := by decide +kernel
theorem dX7_counted_84 : decode cX7_counted 84 = .ok (.aload_n 0, 1) := by decide +kernel
theorem dX7_counted_85 : decode cX7_counted 85 = .ok (.getfield 7, 3) := by decide +kernel
theorem dX7_counted_88 : decode cX7_counted 88 = .ok (.iconst 0, 1) := by decide +kernel
theorem dX7_counted_89 : decode cX7_counted 89 = .ok (.iaload, 1) := by decide +kernel
theorem dX7_counted_90 : decode cX7_counted 90 = .ok (.ireturn, 1) := by decide +kernel
theorem dX7_counted_91 : decode cX7_counted 91 = .ok (.aload_n 0, 1) := by decide +kernel
theorem dX7_counted_92 : decode cX7_counted 92 = .ok (.invokevirtual 208, 3) := by decide +kernel
theorem dX7_counted_95 : decode cX7_counted 95 = .ok (.ireturn, 1) := by decide +kernel
theorem dX7_counted_96 : decode cX7_counted 96 = .ok (.aload_n 0, 1) := by decide +kernel
theorem dX7_counted_97 : decode cX7_counted 97 = .ok (.getfield 7, 3) := by decide +kernel
theorem dX7_counted_100 : decode cX7_counted 100 = .ok (.iconst 1, 1) := by decide +kernel
theorem dX7_counted_101 : decode cX7_counted 101 = .ok (.iaload, 1) := by decide +kernel
theorem dX7_counted_102 : decode cX7_counted 102 = .ok (.ireturn, 1) := by decide +kernel
theorem dX7_counted_103 : decode cX7_counted 103 = .ok (.aload_n 0, 1) := by decide +kernel
theorem dX7_counted_104 : decode cX7_counted 104 = .ok (.getfield 7, 3) := by decide +kernel
theorem dX7_counted_107 : decode cX7_counted 107 = .ok (.iconst 2, 1) := by decide +kernel
theorem dX7_counted_108 : decode cX7_counted 108 = .ok (.iaload, 1) := by decide +kernel
theorem dX7_counted_109 : decode cX7_counted 109 = .ok (.ireturn, 1) := by decide +kernel
theorem dX7_counted_110 : decode cX7_counted 110 = .ok (.aload_n 0, 1) := by decide +kernel
theorem dX7_counted_111 : decode cX7_counted 111 = .ok (.getfield 7, 3) := by decide +kernel
theorem dX7_counted_114 : decode cX7_counted 114 = .ok (.iconst 3, 1) := by decide +kernel
theorem dX7_counted_115 : decode cX7_counted 115 = .ok (.iaload, 1) := by decide +kernel
theorem dX7_counted_116 : decode cX7_counted 116 = .ok (.ireturn, 1) := by decide +kernel
theorem dX7_counted_117 : decode cX7_counted 117 = .ok (.iload_n 2, 1) := by decide +kernel
theorem dX7_counted_118 : decode cX7_counted 118 = .ok (.ireturn, 1) := by decide +kernel
theorem dX7_counted_119 : decode cX7_counted 119 = .ok (.aload_n 0, 1) := by decide +kernel
theorem dX7_counted_120 : decode cX7_counted 120 = .ok (.getfield 7, 3) := by decide +kernel
theorem dX7_counted_123 : decode cX7_counted 123 = .ok (.bipush 70, 2) := by decide +kernel
theorem dX7_counted_125 : decode cX7_counted 125 = .ok (.iaload, 1) := by decide +kernel
theorem dX7_counted_126 : decode cX7_counted 126 = .ok (.ireturn, 1) := by decide +kernel
theorem dX7_counted_127 : decode cX7_counted 127 = .ok (.aload_n 0, 1) := by decide +kernel
theorem dX7_counted_128 : decode cX7_counted 128 = .ok (.getfield 7, 3) := by decide +kernel
theorem dX7_counted_131 : decode cX7_counted 131 = .ok (.bipush 91, 2) := by decide +kernel
theorem dX7_counted_133 : decode cX7_counted 133 = .ok (.iaload, 1) := by decide +kernel
theorem dX7_counted_134 : decode cX7_counted 134 = .ok (.ireturn, 1) := by decide +kernel
theorem dX7_counted_135 : decode cX7_counted 135 = .ok (.aload_n 0, 1) := by decide +kernel
theorem dX7_counted_136 : decode cX7_counted 136 = .ok (.getfield 7, 3) := by decide +kernel
theorem dX7_counted_139 : decode cX7_counted 139 = .ok (.bipush 122, 2) := by decide +kernel
theorem dX7_counted_141 : decode cX7_counted 141 = .ok (.iaload, 1) := by decide +kernel
theorem dX7_counted_142 : decode cX7_counted 142 = .ok (.ireturn, 1) := by decide +kernel
theorem dX7_counted_143 : decode cX7_counted 143 = .ok (.aload_n 0, 1) := by decide +kernel
theorem dX7_counted_144 : decode cX7_counted 144 = .ok (.getfield 7, 3) := by decide +kernel
theorem dX7_counted_147 : decode cX7_counted 147 = .ok (.sipush 147, 3) := by decide +kernel
theorem dX7_counted_150 : decode cX7_counted 150 = .ok (.iaload, 1) := by decide +kernel
theorem dX7_counted_151 : decode cX7_counted 151 = .ok (.ireturn, 1) := by decide +kernel
theorem dX7_counted_152 : decode cX7_counted 152 = .ok (.aload_n 0, 1) := by decide +kernel
theorem dX7_counted_153 : decode cX7_counted 153 = .ok (.getfield 109, 3) := by decide +kernel
theorem dX7_counted_156 : decode cX7_counted 156 = .ok (.ireturn, 1) := by decide +kernel
theorem dX7_count_0 : decode cX7_count 0 = .ok (.iload_n 1, 1) := by decide +kernel
theorem dX7_count_1 : decode cX7_count 1 = .ok (.i2l, 1) := by decide +kernel
theorem dX7_count_2 : decode cX7_count 2 = .ok (.lconst 0, 1) := by decide +kernel
theorem dX7_count_3 : decode cX7_count 3 = .ok (.ldc2_w 277, 3) := by decide +kernel
theorem dX7_count_6 : decode cX7_count 6 = .ok (.invokestatic 52, 3) := by decide +kernel
theorem dX7_count_9 : decode cX7_count 9 = .ok (.ifCond .eq 11, 3) := by decide +kernel
theorem dX7_count_12 : decode cX7_count 12 = .ok (.aload_n 0, 1) := by decide +kernel
theorem dX7_count_13 : decode cX7_count 13 = .ok (.iload_n 1, 1) := by decide +kernel
theorem dX7_count_14 : decode cX7_count 14 = .ok (.invokevirtual 296, 3) := by decide +kernel
theorem dX7_count_17 : decode cX7_count 17 = .ok (.goto 7, 3) := by decide +kernel
theorem dX7_count_20 : decode cX7_count 20 = .ok (.aload_n 0, 1) := by decide +kernel
theorem dX7_count_21 : decode cX7_count 21 = .ok (.invokevirtual 84, 3) := by decide +kernel
theorem dX7_count_24 : decode cX7_count 24 = .ok (.ireturn, 1) := by decide +kernel
theorem dX7_over_0 : decode cX7_over 0 = .ok (.lload_n 1, 1) := by decide +kernel
theorem dX7_over_1 : decode cX7_over 1 = .ok (.lstore 5, 2) := by decide +kernel
theorem dX7_over_3 : decode cX7_over 3 = .ok (.iconst 0, 1) := by decide +kernel
theorem dX7_over_4 : decode cX7_over 4 = .ok (.istore 7, 2) := by decide +kernel
theorem dX7_over_6 : decode cX7_over 6 = .ok (.iload 7, 2) := by decide +kernel
theorem dX7_over_8 : decode cX7_over 8 = .ok (.iload 4, 2) := by decide +kernel
theorem dX7_over_10 : decode cX7_over 10 = .ok (.aload_n 0, 1) := by decide +kernel
theorem dX7_over_11 : decode cX7_over 11 = .ok (.getfield 7, 3) := by decide +kernel
theorem dX7_over_14 : decode cX7_over 14 = .ok (.iload_n 3, 1) := by decide +kernel
theorem dX7_over_15 : decode cX7_over 15 = .ok (.iaload, 1) := by decide +kernel
theorem dX7_over_16 : decode cX7_over 16 = .ok (.imul, 1) := by decide +kernel
theorem dX7_over_17 : decode cX7_over 17 = .ok (.if_icmp .ge 30, 3) := by decide +kernel
theorem dX7_over_20 : decode cX7_over 20 = .ok (.ldc2_w 299, 3) := by decide +kernel
theorem dX7_over_23 : decode cX7_over 23 = .ok (.lload 5, 2) := by decide +kernel
theorem dX7_over_25 : decode cX7_over 25 = .ok (.lmul, 1) := by decide +kernel
theorem dX7_over_26 : decode cX7_over 26 = .ok (.aload_n 0, 1) := by decide +kernel
theorem dX7_over_27 : decode cX7_over 27 = .ok (.getfield 7, 3) := by decide +kernel
theorem dX7_over_30 : decode cX7_over 30 = .ok (.iload_n 3, 1) := by decide +kernel
theorem dX7_over_31 : decode cX7_over 31 = .ok (.iconst 1, 1) := by decide +kernel
theorem dX7_over_32 : decode cX7_over 32 = .ok (.iadd, 1) := by decide +kernel
theorem dX7_over_33 : decode cX7_over 33 = .ok (.iload 7, 2) := by decide +kernel
theorem dX7_over_35 : decode cX7_over 35 = .ok (.iadd, 1) := by decide +kernel
theorem dX7_over_36 : decode cX7_over 36 = .ok (.iaload, 1) := by decide +kernel
theorem dX7_over_37 : decode cX7_over 37 = .ok (.i2l, 1) := by decide +kernel
theorem dX7_over_38 : decode cX7_over 38 = .ok (.ladd, 1) := by decide +kernel
theorem dX7_over_39 : decode cX7_over 39 = .ok (.lstore 5, 2) := by decide +kernel
theorem dX7_over_41 : decode cX7_over 41 = .ok (.iinc 7 1, 3) := by decide +kernel
theorem dX7_over_44 : decode cX7_over 44 = .ok (.goto (-38), 3) := by decide +kernel
theorem dX7_over_47 : decode cX7_over 47 = .ok (.lload 5, 2) := by decide +kernel
theorem dX7_over_49 : decode cX7_over 49 = .ok (.lreturn, 1) := by decide +kernel
theorem dX7_digest_0 : decode cX7_digest 0 = .ok (.ldc2_w 301, 3) := by decide +kernel
theorem dX7_digest_3 : decode cX7_digest 3 = .ok (.lstore_n 1, 1) := by decide +kernel
theorem dX7_digest_4 : decode cX7_digest 4 = .ok (.iconst 0, 1) := by decide +kernel
theorem dX7_digest_5 : decode cX7_digest 5 = .ok (.istore_n 3, 1) := by decide +kernel
theorem dX7_digest_6 : decode cX7_digest 6 = .ok (.iload_n 3, 1) := by decide +kernel
theorem dX7_digest_7 : decode cX7_digest 7 = .ok (.bipush 11, 2) := by decide +kernel
theorem dX7_digest_9 : decode cX7_digest 9 = .ok (.if_icmp .ge 22, 3) := by decide +kernel
theorem dX7_digest_12 : decode cX7_digest 12 = .ok (.ldc2_w 299, 3) := by decide +kernel
theorem dX7_digest_15 : decode cX7_digest 15 = .ok (.lload_n 1, 1) := by decide +kernel
theorem dX7_digest_16 : decode cX7_digest 16 = .ok (.lmul, 1) := by decide +kernel
theorem dX7_digest_17 : decode cX7_digest 17 = .ok (.aload_n 0, 1) := by decide +kernel
theorem dX7_digest_18 : decode cX7_digest 18 = .ok (.iload_n 3, 1) := by decide +kernel
theorem dX7_digest_19 : decode cX7_digest 19 = .ok (.invokevirtual 296, 3) := by decide +kernel
theorem dX7_digest_22 : decode cX7_digest 22 = .ok (.i2l, 1) := by decide +kernel
theorem dX7_digest_23 : decode cX7_digest 23 = .ok (.ladd, 1) := by decide +kernel
theorem dX7_digest_24 : decode cX7_digest 24 = .ok (.lstore_n 1, 1) := by decide +kernel
theorem dX7_digest_25 : decode cX7_digest 25 = .ok (.iinc 3 1, 3) := by decide +kernel
theorem dX7_digest_28 : decode cX7_digest 28 = .ok (.goto (-22), 3) := by decide +kernel
theorem dX7_digest_31 : decode cX7_digest 31 = .ok (.iconst 0, 1) := by decide +kernel
theorem dX7_digest_32 : decode cX7_digest 32 = .ok (.istore_n 3, 1) := by decide +kernel
theorem dX7_digest_33 : decode cX7_digest 33 = .ok (.iload_n 3, 1) := by decide +kernel
theorem dX7_digest_34 : decode cX7_digest 34 = .ok (.bipush 7, 2) := by decide +kernel
theorem dX7_digest_36 : decode cX7_digest 36 = .ok (.aload_n 0, 1) := by decide +kernel
theorem dX7_digest_37 : decode cX7_digest 37 = .ok (.getfield 7, 3) := by decide +kernel
theorem dX7_digest_40 : decode cX7_digest 40 = .ok (.iconst 0, 1) := by decide +kernel
theorem dX7_digest_41 : decode cX7_digest 41 = .ok (.iaload, 1) := by decide +kernel
theorem dX7_digest_42 : decode cX7_digest 42 = .ok (.imul, 1) := by decide +kernel
theorem dX7_digest_43 : decode cX7_digest 43 = .ok (.if_icmp .ge 25, 3) := by decide +kernel
theorem dX7_digest_46 : decode cX7_digest 46 = .ok (.ldc2_w 299, 3) := by decide +kernel
theorem dX7_digest_49 : decode cX7_digest 49 = .ok (.lload_n 1, 1) := by decide +kernel
theorem dX7_digest_50 : decode cX7_digest 50 = .ok (.lmul, 1) := by decide +kernel
theorem dX7_digest_51 : decode cX7_digest 51 = .ok (.aload_n 0, 1) := by decide +kernel
theorem dX7_digest_52 : decode cX7_digest 52 = .ok (.getfield 7, 3) := by decide +kernel
theorem dX7_digest_55 : decode cX7_digest 55 = .ok (.iconst 4, 1) := by decide +kernel
theorem dX7_digest_56 : decode cX7_digest 56 = .ok (.iload_n 3, 1) := by decide +kernel
theorem dX7_digest_57 : decode cX7_digest 57 = .ok (.iadd, 1) := by decide +kernel
theorem dX7_digest_58 : decode cX7_digest 58 = .ok (.iaload, 1) := by decide +kernel
theorem dX7_digest_59 : decode cX7_digest 59 = .ok (.i2l, 1) := by decide +kernel
theorem dX7_digest_60 : decode cX7_digest 60 = .ok (.ladd, 1) := by decide +kernel
theorem dX7_digest_61 : decode cX7_digest 61 = .ok (.lstore_n 1, 1) := by decide +kernel
theorem dX7_digest_62 : decode cX7_digest 62 = .ok (.iinc 3 1, 3) := by decide +kernel
theorem dX7_digest_65 : decode cX7_digest 65 = .ok (.goto (-32), 3) := by decide +kernel
theorem dX7_digest_68 : decode cX7_digest 68 = .ok (.iconst 0, 1) := by decide +kernel
theorem dX7_digest_69 : decode cX7_digest 69 = .ok (.istore_n 3, 1) := by decide +kernel
theorem dX7_digest_70 : decode cX7_digest 70 = .ok (.iload_n 3, 1) := by decide +kernel
theorem dX7_digest_71 : decode cX7_digest 71 = .ok (.bipush 16, 2) := by decide +kernel
theorem dX7_digest_73 : decode cX7_digest 73 = .ok (.if_icmp .ge 26, 3) := by decide +kernel
theorem dX7_digest_76 : decode cX7_digest 76 = .ok (.ldc2_w 299, 3) := by decide +kernel
theorem dX7_digest_79 : decode cX7_digest 79 = .ok (.lload_n 1, 1) := by decide +kernel
theorem dX7_digest_80 : decode cX7_digest 80 = .ok (.lmul, 1) := by decide +kernel
theorem dX7_digest_81 : decode cX7_digest 81 = .ok (.aload_n 0, 1) := by decide +kernel
theorem dX7_digest_82 : decode cX7_digest 82 = .ok (.getfield 7, 3) := by decide +kernel
theorem dX7_digest_85 : decode cX7_digest 85 = .ok (.bipush 54, 2) := by decide +kernel
theorem dX7_digest_87 : decode cX7_digest 87 = .ok (.iload_n 3, 1) := by decide +kernel
theorem dX7_digest_88 : decode cX7_digest 88 = .ok (.iadd, 1) := by decide +kernel
theorem dX7_digest_89 : decode cX7_digest 89 = .ok (.iaload, 1) := by decide +kernel
theorem dX7_digest_90 : decode cX7_digest 90 = .ok (.i2l, 1) := by decide +kernel
theorem dX7_digest_91 : decode cX7_digest 91 = .ok (.ladd, 1) := by decide +kernel
theorem dX7_digest_92 : decode cX7_digest 92 = .ok (.lstore_n 1, 1) := by decide +kernel
theorem dX7_digest_93 : decode cX7_digest 93 = .ok (.iinc 3 1, 3) := by decide +kernel
theorem dX7_digest_96 : decode cX7_digest 96 = .ok (.goto (-26), 3) := by decide +kernel
theorem dX7_digest_99 : decode cX7_digest 99 = .ok (.ldc2_w 299, 3) := by decide +kernel
theorem dX7_digest_102 : decode cX7_digest 102 = .ok (.lload_n 1, 1) := by decide +kernel
theorem dX7_digest_103 : decode cX7_digest 103 = .ok (.lmul, 1) := by decide +kernel
theorem dX7_digest_104 : decode cX7_digest 104 = .ok (.aload_n 0, 1) := by decide +kernel
theorem dX7_digest_105 : decode cX7_digest 105 = .ok (.getfield 7, 3) := by decide +kernel
theorem dX7_digest_108 : decode cX7_digest 108 = .ok (.bipush 53, 2) := by decide +kernel
theorem dX7_digest_110 : decode cX7_digest 110 = .ok (.iaload, 1) := by decide +kernel
theorem dX7_digest_111 : decode cX7_digest 111 = .ok (.i2l, 1) := by decide +kernel
theorem dX7_digest_112 : decode cX7_digest 112 = .ok (.ladd, 1) := by decide +kernel
theorem dX7_digest_113 : decode cX7_digest 113 = .ok (.lstore_n 1, 1) := by decide +kernel
theorem dX7_digest_114 : decode cX7_digest 114 = .ok (.aload_n 0, 1) := by decide +kernel
theorem dX7_digest_115 : decode cX7_digest 115 = .ok (.lload_n 1, 1) := by decide +kernel
theorem dX7_digest_116 : decode cX7_digest 116 = .ok (.bipush 70, 2) := by decide +kernel
theorem dX7_digest_118 : decode cX7_digest 118 = .ok (.iconst 4, 1) := by decide +kernel
theorem dX7_digest_119 : decode cX7_digest 119 = .ok (.invokevirtual 303, 3) := by decide +kernel
theorem dX7_digest_122 : decode cX7_digest 122 = .ok (.lstore_n 1, 1) := by decide +kernel
theorem dX7_digest_123 : decode cX7_digest 123 = .ok (.aload_n 0, 1) := by decide +kernel
theorem dX7_digest_124 : decode cX7_digest 124 = .ok (.lload_n 1, 1) := by decide +kernel
theorem dX7_digest_125 : decode cX7_digest 125 = .ok (.bipush 91, 2) := by decide +kernel
theorem dX7_digest_127 : decode cX7_digest 127 = .ok (.iconst 5, 1) := by decide +kernel
theorem dX7_digest_128 : decode cX7_digest 128 = .ok (.invokevirtual 303, 3) := by decide +kernel
theorem dX7_digest_131 : decode cX7_digest 131 = .ok (.lstore_n 1, 1) := by decide +kernel
theorem dX7_digest_132 : decode cX7_digest 132 = .ok (.aload_n 0, 1) := by decide +kernel
theorem dX7_digest_133 : decode cX7_digest 133 = .ok (.lload_n 1, 1) := by decide +kernel
theorem dX7_digest_134 : decode cX7_digest 134 = .ok (.bipush 122, 2) := by decide +kernel
theorem dX7_digest_136 : decode cX7_digest 136 = .ok (.iconst 4, 1) := by decide +kernel
theorem dX7_digest_137 : decode cX7_digest 137 = .ok (.invokevirtual 303, 3) := by decide +kernel
theorem dX7_digest_140 : decode cX7_digest 140 = .ok (.lstore_n 1, 1) := by decide +kernel
theorem dX7_digest_141 : decode cX7_digest 141 = .ok (.ldc2_w 299, 3) := by decide +kernel
theorem dX7_digest_144 : decode cX7_digest 144 = .ok (.ldc2_w 299, 3) := by decide +kernel
theorem dX7_digest_147 : decode cX7_digest 147 = .ok (.lload_n 1, 1) := by decide +kernel
theorem dX7_digest_148 : decode cX7_digest 148 = .ok (.lmul, 1) := by decide +kernel
theorem dX7_digest_149 : decode cX7_digest 149 = .ok (.aload_n 0, 1) := by decide +kernel
theorem dX7_digest_150 : decode cX7_digest 150 = .ok (.getfield 274, 3) := by decide +kernel
theorem dX7_digest_153 : decode cX7_digest 153 = .ok (.ladd, 1) := by decide +kernel
theorem dX7_digest_154 : decode cX7_digest 154 = .ok (.lmul, 1) := by decide +kernel
theorem dX7_digest_155 : decode cX7_digest 155 = .ok (.aload_n 0, 1) := by decide +kernel
theorem dX7_digest_156 : decode cX7_digest 156 = .ok (.getfield 13, 3) := by decide +kernel
theorem dX7_digest_159 : decode cX7_digest 159 = .ok (.ladd, 1) := by decide +kernel
theorem dX7_digest_160 : decode cX7_digest 160 = .ok (.lreturn, 1) := by decide +kernel
end
section
theorem dL_law_0 : decode cL_law 0 = .ok (.new 7, 3) := by decide +kernel
theorem dL_law_3 : decode cL_law 3 = .ok (.dup, 1) := by decide +kernel
theorem dL_law_4 : decode cL_law 4 = .ok (.invokespecial 9, 3) := by decide +kernel
theorem dL_law_7 : decode cL_law 7 = .ok (.astore_n 1, 1) := by decide +kernel
theorem dL_law_8 : decode cL_law 8 = .ok (.new 10, 3) := by decide +kernel
theorem dL_law_11 : decode cL_law 11 = .ok (.dup, 1) := by decide +kernel
theorem dL_law_12 : decode cL_law 12 = .ok (.invokespecial 12, 3) := by decide +kernel
theorem dL_law_15 : decode cL_law 15 = .ok (.astore_n 2, 1) := by decide +kernel
theorem dL_law_16 : decode cL_law 16 = .ok (.iconst 0, 1) := by decide +kernel
theorem dL_law_17 : decode cL_law 17 = .ok (.istore_n 3, 1) := by decide +kernel
theorem dL_law_18 : decode cL_law 18 = .ok (.iload_n 3, 1) := by decide +kernel
theorem dL_law_19 : decode cL_law 19 = .ok (.aload_n 0, 1) := by decide +kernel
theorem dL_law_20 : decode cL_law 20 = .ok (.arraylength, 1) := by decide +kernel
theorem dL_law_21 : decode cL_law 21 = .ok (.bipush 6, 2) := by decide +kernel
theorem dL_law_23 : decode cL_law 23 = .ok (.isub, 1) := by decide +kernel
theorem dL_law_24 : decode cL_law 24 = .ok (.if_icmp .gt 1298, 3) := by decide +kernel
theorem dL_law_27 : decode cL_law 27 = .ok (.aload_n 0, 1) := by decide +kernel
theorem dL_law_28 : decode cL_law 28 = .ok (.iload_n 3, 1) := by decide +kernel
theorem dL_law_29 : decode cL_law 29 = .ok (.iaload, 1) := by decide +kernel
theorem dL_law_30 : decode cL_law 30 = .ok (.bipush 63, 2) := by decide +kernel
theorem dL_law_32 : decode cL_law 32 = .ok (.iand, 1) := by decide +kernel
theorem dL_law_33 : decode cL_law 33 = .ok (.tableswitch 1283 0 37 #[167, 190, 253, 276, 289, 302, 325, 348, 381, 394, 427, 450, 473, 516, 569, 612, 655, 678, 691, 704, 757, 790, 813, 876, 929, 952, 975, 998, 1021, 1044, 1087, 1120, 1153, 1177, 1200, 1223, 1246, 1269], 167) := by decide +kernel
theorem dL_law_200 : decode cL_law 200 = .ok (.aload_n 1, 1) := by decide +kernel
theorem dL_law_201 : decode cL_law 201 = .ok (.aload_n 0, 1) := by decide +kernel
theorem dL_law_202 : decode cL_law 202 = .ok (.iload_n 3, 1) := by decide +kernel
theorem dL_law_203 : decode cL_law 203 = .ok (.iconst 1, 1) := by decide +kernel
theorem dL_law_204 : decode cL_law 204 = .ok (.iadd, 1) := by decide +kernel
theorem dL_law_205 : decode cL_law 205 = .ok (.iaload, 1) := by decide +kernel
theorem dL_law_206 : decode cL_law 206 = .ok (.invokevirtual 13, 3) := by decide +kernel
theorem dL_law_209 : decode cL_law 209 = .ok (.aload_n 2, 1) := by decide +kernel
theorem dL_law_210 : decode cL_law 210 = .ok (.aload_n 0, 1) := by decide +kernel
theorem dL_law_211 : decode cL_law 211 = .ok (.iload_n 3, 1) := by decide +kernel
theorem dL_law_212 : decode cL_law 212 = .ok (.iconst 1, 1) := by decide +kernel
theorem dL_law_213 : decode cL_law 213 = .ok (.iadd, 1) := by decide +kernel
theorem dL_law_214 : decode cL_law 214 = .ok (.iaload, 1) := by decide +kernel
theorem dL_law_215 : decode cL_law 215 = .ok (.invokevirtual 17, 3) := by decide +kernel
theorem dL_law_218 : decode cL_law 218 = .ok (.if_icmp .eq 1098, 3) := by decide +kernel
theorem dL_law_221 : decode cL_law 221 = .ok (.iconst 0, 1) := by decide +kernel
theorem dL_law_222 : decode cL_law 222 = .ok (.ireturn, 1) := by decide +kernel
theorem dL_law_223 : decode cL_law 223 = .ok (.aload_n 1, 1) := by decide +kernel
theorem dL_law_224 : decode cL_law 224 = .ok (.aload_n 0, 1) := by decide +kernel
theorem dL_law_225 : decode cL_law 225 = .ok (.iload_n 3, 1) := by decide +kernel
theorem dL_law_226 : decode cL_law 226 = .ok (.iconst 1, 1) := by decide +kernel
theorem dL_law_227 : decode cL_law 227 = .ok (.iadd, 1) := by decide +kernel
theorem dL_law_228 : decode cL_law 228 = .ok (.iaload, 1) := by decide +kernel
theorem dL_law_229 : decode cL_law 229 = .ok (.aload_n 0, 1) := by decide +kernel
theorem dL_law_230 : decode cL_law 230 = .ok (.iload_n 3, 1) := by decide +kernel
theorem dL_law_231 : decode cL_law 231 = .ok (.iconst 2, 1) := by decide +kernel
theorem dL_law_232 : decode cL_law 232 = .ok (.iadd, 1) := by decide +kernel
theorem dL_law_233 : decode cL_law 233 = .ok (.iaload, 1) := by decide +kernel
theorem dL_law_234 : decode cL_law 234 = .ok (.aload_n 0, 1) := by decide +kernel
theorem dL_law_235 : decode cL_law 235 = .ok (.iload_n 3, 1) := by decide +kernel
theorem dL_law_236 : decode cL_law 236 = .ok (.iconst 3, 1) := by decide +kernel
theorem dL_law_237 : decode cL_law 237 = .ok (.iadd, 1) := by decide +kernel
theorem dL_law_238 : decode cL_law 238 = .ok (.iaload, 1) := by decide +kernel
theorem dL_law_239 : decode cL_law 239 = .ok (.aload_n 0, 1) := by decide +kernel
theorem dL_law_240 : decode cL_law 240 = .ok (.iload_n 3, 1) := by decide +kernel
theorem dL_law_241 : decode cL_law 241 = .ok (.iconst 4, 1) := by decide +kernel
theorem dL_law_242 : decode cL_law 242 = .ok (.iadd, 1) := by decide +kernel
theorem dL_law_243 : decode cL_law 243 = .ok (.iaload, 1) := by decide +kernel
theorem dL_law_244 : decode cL_law 244 = .ok (.aload_n 0, 1) := by decide +kernel
theorem dL_law_245 : decode cL_law 245 = .ok (.iload_n 3, 1) := by decide +kernel
theorem dL_law_246 : decode cL_law 246 = .ok (.iconst 5, 1) := by decide +kernel
theorem dL_law_247 : decode cL_law 247 = .ok (.iadd, 1) := by decide +kernel
theorem dL_law_248 : decode cL_law 248 = .ok (.iaload, 1) := by decide +kernel
theorem dL_law_249 : decode cL_law 249 = .ok (.invokevirtual 18, 3) := by decide +kernel
theorem dL_law_252 : decode cL_law 252 = .ok (.aload_n 2, 1) := by decide +kernel
theorem dL_law_253 : decode cL_law 253 = .ok (.aload_n 0, 1) := by decide +kernel
theorem dL_law_254 : decode cL_law 254 = .ok (.iload_n 3, 1) := by decide +kernel
theorem dL_law_255 : decode cL_law 255 = .ok (.iconst 1, 1) := by decide +kernel
theorem dL_law_256 : decode cL_law 256 = .ok (.iadd, 1) := by decide +kernel
theorem dL_law_257 : decode cL_law 257 = .ok (.iaload, 1) := by decide +kernel
theorem dL_law_258 : decode cL_law 258 = .ok (.aload_n 0, 1) := by decide +kernel
theorem dL_law_259 : decode cL_law 259 = .ok (.iload_n 3, 1) := by decide +kernel
theorem dL_law_260 : decode cL_law 260 = .ok (.iconst 2, 1) := by decide +kernel
theorem dL_law_261 : decode cL_law 261 = .ok (.iadd, 1) := by decide +kernel
theorem dL_law_262 : decode cL_law 262 = .ok (.iaload, 1) := by decide +kernel
theorem dL_law_263 : decode cL_law 263 = .ok (.aload_n 0, 1) := by decide +kernel
theorem dL_law_264 : decode cL_law 264 = .ok (.iload_n 3, 1) := by decide +kernel
theorem dL_law_265 : decode cL_law 265 = .ok (.iconst 3, 1) := by decide +kernel
theorem dL_law_266 : decode cL_law 266 = .ok (.iadd, 1) := by decide +kernel
theorem dL_law_267 : decode cL_law 267 = .ok (.iaload, 1) := by decide +kernel
theorem dL_law_268 : decode cL_law 268 = .ok (.aload_n 0, 1) := by decide +kernel
theorem dL_law_269 : decode cL_law 269 = .ok (.iload_n 3, 1) := by decide +kernel
theorem dL_law_270 : decode cL_law 270 = .ok (.iconst 4, 1) := by decide +kernel
theorem dL_law_271 : decode cL_law 271 = .ok (.iadd, 1) := by decide +kernel
theorem dL_law_272 : decode cL_law 272 = .ok (.iaload, 1) := by decide +kernel
theorem dL_law_273 : decode cL_law 273 = .ok (.aload_n 0, 1) := by decide +kernel
theorem dL_law_274 : decode cL_law 274 = .ok (.iload_n 3, 1) := by decide +kernel
theorem dL_law_275 : decode cL_law 275 = .ok (.iconst 5, 1) := by decide +kernel
theorem dL_law_276 : decode cL_law 276 = .ok (.iadd, 1) := by decide +kernel
theorem dL_law_277 : decode cL_law 277 = .ok (.iaload, 1) := by decide +kernel
theorem dL_law_278 : decode cL_law 278 = .ok (.invokevirtual 22, 3) := by decide +kernel
theorem dL_law_281 : decode cL_law 281 = .ok (.if_icmp .eq 1035, 3) := by decide +kernel
theorem dL_law_284 : decode cL_law 284 = .ok (.iconst 0, 1) := by decide +kernel
theorem dL_law_285 : decode cL_law 285 = .ok (.ireturn, 1) := by decide +kernel
theorem dL_law_286 : decode cL_law 286 = .ok (.aload_n 1, 1) := by decide +kernel
theorem dL_law_287 : decode cL_law 287 = .ok (.aload_n 0, 1) := by decide +kernel
theorem dL_law_288 : decode cL_law 288 = .ok (.iload_n 3, 1) := by decide +kernel
theorem dL_law_289 : decode cL_law 289 = .ok (.iconst 1, 1) := by decide +kernel
theorem dL_law_290 : decode cL_law 290 = .ok (.iadd, 1) := by decide +kernel
theorem dL_law_291 : decode cL_law 291 = .ok (.iaload, 1) := by decide +kernel
theorem dL_law_292 : decode cL_law 292 = .ok (.invokevirtual 23, 3) := by decide +kernel
theorem dL_law_295 : decode cL_law 295 = .ok (.aload_n 2, 1) := by decide +kernel
theorem dL_law_296 : decode cL_law 296 = .ok (.aload_n 0, 1) := by decide +kernel
theorem dL_law_297 : decode cL_law 297 = .ok (.iload_n 3, 1) := by decide +kernel
theorem dL_law_298 : decode cL_law 298 = .ok (.iconst 1, 1) := by decide +kernel
theorem dL_law_299 : decode cL_law 299 = .ok (.iadd, 1) := by decide +kernel
theorem dL_law_300 : decode cL_law 300 = .ok (.iaload, 1) := by decide +kernel
theorem dL_law_301 : decode cL_law 301 = .ok (.invokevirtual 26, 3) := by decide +kernel
theorem dL_law_304 : decode cL_law 304 = .ok (.if_icmp .eq 1012, 3) := by decide +kernel
theorem dL_law_307 : decode cL_law 307 = .ok (.iconst 0, 1) := by decide +kernel
theorem dL_law_308 : decode cL_law 308 = .ok (.ireturn, 1) := by decide +kernel
theorem dL_law_309 : decode cL_law 309 = .ok (.aload_n 1, 1) := by decide +kernel
theorem dL_law_310 : decode cL_law 310 = .ok (.invokevirtual 27, 3) := by decide +kernel
theorem dL_law_313 : decode cL_law 313 = .ok (.aload_n 2, 1) := by decide +kernel
theorem dL_law_314 : decode cL_law 314 = .ok (.invokevirtual 31, 3) := by decide +kernel
theorem dL_law_317 : decode cL_law 317 = .ok (.if_icmp .eq 999, 3) := by decide +kernel
theorem dL_law_320 : decode cL_law 320 = .ok (.iconst 0, 1) := by decide +kernel
theorem dL_law_321 : decode cL_law 321 = .ok (.ireturn, 1) := by decide +kernel
theorem dL_law_322 : decode cL_law 322 = .ok (.aload_n 1, 1) := by decide +kernel
theorem dL_law_323 : decode cL_law 323 = .ok (.invokevirtual 32, 3) := by decide +kernel
theorem dL_law_326 : decode cL_law 326 = .ok (.aload_n 2, 1) := by decide +kernel
theorem dL_law_327 : decode cL_law 327 = .ok (.invokevirtual 35, 3) := by decide +kernel
theorem dL_law_330 : decode cL_law 330 = .ok (.if_icmp .eq 986, 3) := by decide +kernel
theorem dL_law_333 : decode cL_law 333 = .ok (.iconst 0, 1) := by decide +kernel
theorem dL_law_334 : decode cL_law 334 = .ok (.ireturn, 1) := by decide +kernel
theorem dL_law_335 : decode cL_law 335 = .ok (.aload_n 1, 1) := by decide +kernel
theorem dL_law_336 : decode cL_law 336 = .ok (.aload_n 0, 1) := by decide +kernel
theorem dL_law_337 : decode cL_law 337 = .ok (.iload_n 3, 1) := by decide +kernel
theorem dL_law_338 : decode cL_law 338 = .ok (.iconst 1, 1) := by decide +kernel
theorem dL_law_339 : decode cL_law 339 = .ok (.iadd, 1) := by decide +kernel
theorem dL_law_340 : decode cL_law 340 = .ok (.iaload, 1) := by decide +kernel
theorem dL_law_341 : decode cL_law 341 = .ok (.invokevirtual 36, 3) := by decide +kernel
theorem dL_law_344 : decode cL_law 344 = .ok (.aload_n 2, 1) := by decide +kernel
theorem dL_law_345 : decode cL_law 345 = .ok (.aload_n 0, 1) := by decide +kernel
theorem dL_law_346 : decode cL_law 346 = .ok (.iload_n 3, 1) := by decide +kernel
theorem dL_law_347 : decode cL_law 347 = .ok (.iconst 1, 1) := by decide +kernel
theorem dL_law_348 : decode cL_law 348 = .ok (.iadd, 1) := by decide +kernel
theorem dL_law_349 : decode cL_law 349 = .ok (.iaload, 1) := by decide +kernel
theorem dL_law_350 : decode cL_law 350 = .ok (.invokevirtual 39, 3) := by decide +kernel
theorem dL_law_353 : decode cL_law 353 = .ok (.if_icmp .eq 963, 3) := by decide +kernel
theorem dL_law_356 : decode cL_law 356 = .ok (.iconst 0, 1) := by decide +kernel
theorem dL_law_357 : decode cL_law 357 = .ok (.ireturn, 1) := by decide +kernel
theorem dL_law_358 : decode cL_law 358 = .ok (.aload_n 1, 1) := by decide +kernel
theorem dL_law_359 : decode cL_law 359 = .ok (.aload_n 0, 1) := by decide +kernel
theorem dL_law_360 : decode cL_law 360 = .ok (.iload_n 3, 1) := by decide +kernel
theorem dL_law_361 : decode cL_law 361 = .ok (.iconst 1, 1) := by decide +kernel
theorem dL_law_362 : decode cL_law 362 = .ok (.iadd, 1) := by decide +kernel
theorem dL_law_363 : decode cL_law 363 = .ok (.iaload, 1) := by decide +kernel
theorem dL_law_364 : decode cL_law 364 = .ok (.invokevirtual 40, 3) := by decide +kernel
theorem dL_law_367 : decode cL_law 367 = .ok (.aload_n 2, 1) := by decide +kernel
theorem dL_law_368 : decode cL_law 368 = .ok (.aload_n 0, 1) := by decide +kernel
theorem dL_law_369 : decode cL_law 369 = .ok (.iload_n 3, 1) := by decide +kernel
theorem dL_law_370 : decode cL_law 370 = .ok (.iconst 1, 1) := by decide +kernel
theorem dL_law_371 : decode cL_law 371 = .ok (.iadd, 1) := by decide +kernel
theorem dL_law_372 : decode cL_law 372 = .ok (.iaload, 1) := by decide +kernel
theorem dL_law_373 : decode cL_law 373 = .ok (.invokevirtual 43, 3) := by decide +kernel
theorem dL_law_376 : decode cL_law 376 = .ok (.if_icmp .eq 940, 3) := by decide +kernel
theorem dL_law_379 : decode cL_law 379 = .ok (.iconst 0, 1) := by decide +kernel
theorem dL_law_380 : decode cL_law 380 = .ok (.ireturn, 1) := by decide +kernel
theorem dL_law_381 : decode cL_law 381 = .ok (.aload_n 1, 1) := by decide +kernel
theorem dL_law_382 : decode cL_law 382 = .ok (.aload_n 0, 1) := by decide +kernel
theorem dL_law_383 : decode cL_law 383 = .ok (.iload_n 3, 1) := by decide +kernel
theorem dL_law_384 : decode cL_law 384 = .ok (.iconst 1, 1) := by decide +kernel
theorem dL_law_385 : decode cL_law 385 = .ok (.iadd, 1) := by decide +kernel
theorem dL_law_386 : decode cL_law 386 = .ok (.iaload, 1) := by decide +kernel
theorem dL_law_387 : decode cL_law 387 = .ok (.aload_n 0, 1) := by decide +kernel
theorem dL_law_388 : decode cL_law 388 = .ok (.iload_n 3, 1) := by decide +kernel
theorem dL_law_389 : decode cL_law 389 = .ok (.iconst 2, 1) := by decide +kernel
theorem dL_law_390 : decode cL_law 390 = .ok (.iadd, 1) := by decide +kernel
theorem dL_law_391 : decode cL_law 391 = .ok (.iaload, 1) := by decide +kernel
theorem dL_law_392 : decode cL_law 392 = .ok (.invokevirtual 44, 3) := by decide +kernel
theorem dL_law_395 : decode cL_law 395 = .ok (.aload_n 2, 1) := by decide +kernel
theorem dL_law_396 : decode cL_law 396 = .ok (.aload_n 0, 1) := by decide +kernel
theorem dL_law_397 : decode cL_law 397 = .ok (.iload_n 3, 1) := by decide +kernel
theorem dL_law_398 : decode cL_law 398 = .ok (.iconst 1, 1) := by decide +kernel
theorem dL_law_399 : decode cL_law 399 = .ok (.iadd, 1) := by decide +kernel
theorem dL_law_400 : decode cL_law 400 = .ok (.iaload, 1) := by decide +kernel
theorem dL_law_401 : decode cL_law 401 = .ok (.aload_n 0, 1) := by decide +kernel
theorem dL_law_402 : decode cL_law 402 = .ok (.iload_n 3, 1) := by decide +kernel
theorem dL_law_403 : decode cL_law 403 = .ok (.iconst 2, 1) := by decide +kernel
theorem dL_law_404 : decode cL_law 404 = .ok (.iadd, 1) := by decide +kernel
theorem dL_law_405 : decode cL_law 405 = .ok (.iaload, 1) := by decide +kernel
theorem dL_law_406 : decode cL_law 406 = .ok (.invokevirtual 48, 3) := by decide +kernel
theorem dL_law_409 : decode cL_law 409 = .ok (.if_icmp .eq 907, 3) := by decide +kernel
theorem dL_law_412 : decode cL_law 412 = .ok (.iconst 0, 1) := by decide +kernel
theorem dL_law_413 : decode cL_law 413 = .ok (.ireturn, 1) := by decide +kernel
theorem dL_law_414 : decode cL_law 414 = .ok (.aload_n 1, 1) := by decide +kernel
theorem dL_law_415 : decode cL_law 415 = .ok (.invokevirtual 49, 3) := by decide +kernel
theorem dL_law_418 : decode cL_law 418 = .ok (.aload_n 2, 1) := by decide +kernel
theorem dL_law_419 : decode cL_law 419 = .ok (.invokevirtual 52, 3) := by decide +kernel
theorem dL_law_422 : decode cL_law 422 = .ok (.if_icmp .eq 894, 3) := by decide +kernel
theorem dL_law_425 : decode cL_law 425 = .ok (.iconst 0, 1) := by decide +kernel
theorem dL_law_426 : decode cL_law 426 = .ok (.ireturn, 1) := by decide +kernel
theorem dL_law_427 : decode cL_law 427 = .ok (.aload_n 1, 1) := by decide +kernel
theorem dL_law_428 : decode cL_law 428 = .ok (.aload_n 0, 1) := by decide +kernel
theorem dL_law_429 : decode cL_law 429 = .ok (.iload_n 3, 1) := by decide +kernel
theorem dL_law_430 : decode cL_law 430 = .ok (.iconst 1, 1) := by decide +kernel
theorem dL_law_431 : decode cL_law 431 = .ok (.iadd, 1) := by decide +kernel
theorem dL_law_432 : decode cL_law 432 = .ok (.iaload, 1) := by decide +kernel
theorem dL_law_433 : decode cL_law 433 = .ok (.aload_n 0, 1) := by decide +kernel
theorem dL_law_434 : decode cL_law 434 = .ok (.iload_n 3, 1) := by decide +kernel
theorem dL_law_435 : decode cL_law 435 = .ok (.iconst 2, 1) := by decide +kernel
theorem dL_law_436 : decode cL_law 436 = .ok (.iadd, 1) := by decide +kernel
theorem dL_law_437 : decode cL_law 437 = .ok (.iaload, 1) := by decide +kernel
theorem dL_law_438 : decode cL_law 438 = .ok (.invokevirtual 53, 3) := by decide +kernel
theorem dL_law_441 : decode cL_law 441 = .ok (.aload_n 2, 1) := by decide +kernel
theorem dL_law_442 : decode cL_law 442 = .ok (.aload_n 0, 1) := by decide +kernel
theorem dL_law_443 : decode cL_law 443 = .ok (.iload_n 3, 1) := by decide +kernel
theorem dL_law_444 : decode cL_law 444 = .ok (.iconst 1, 1) := by decide +kernel
theorem dL_law_445 : decode cL_law 445 = .ok (.iadd, 1) := by decide +kernel
theorem dL_law_446 : decode cL_law 446 = .ok (.iaload, 1) := by decide +kernel
theorem dL_law_447 : decode cL_law 447 = .ok (.aload_n 0, 1) := by decide +kernel
theorem dL_law_448 : decode cL_law 448 = .ok (.iload_n 3, 1) := by decide +kernel
theorem dL_law_449 : decode cL_law 449 = .ok (.iconst 2, 1) := by decide +kernel
theorem dL_law_450 : decode cL_law 450 = .ok (.iadd, 1) := by decide +kernel
theorem dL_law_451 : decode cL_law 451 = .ok (.iaload, 1) := by decide +kernel
theorem dL_law_452 : decode cL_law 452 = .ok (.invokevirtual 56, 3) := by decide +kernel
theorem dL_law_455 : decode cL_law 455 = .ok (.if_icmp .eq 861, 3) := by decide +kernel
theorem dL_law_458 : decode cL_law 458 = .ok (.iconst 0, 1) := by decide +kernel
theorem dL_law_459 : decode cL_law 459 = .ok (.ireturn, 1) := by decide +kernel
theorem dL_law_460 : decode cL_law 460 = .ok (.aload_n 1, 1) := by decide +kernel
theorem dL_law_461 : decode cL_law 461 = .ok (.aload_n 0, 1) := by decide +kernel
theorem dL_law_462 : decode cL_law 462 = .ok (.iload_n 3, 1) := by decide +kernel
theorem dL_law_463 : decode cL_law 463 = .ok (.iconst 1, 1) := by decide +kernel
theorem dL_law_464 : decode cL_law 464 = .ok (.iadd, 1) := by decide +kernel
theorem dL_law_465 : decode cL_law 465 = .ok (.iaload, 1) := by decide +kernel
theorem dL_law_466 : decode cL_law 466 = .ok (.invokevirtual 57, 3) := by decide +kernel
theorem dL_law_469 : decode cL_law 469 = .ok (.aload_n 2, 1) := by decide +kernel
theorem dL_law_470 : decode cL_law 470 = .ok (.aload_n 0, 1) := by decide +kernel
theorem dL_law_471 : decode cL_law 471 = .ok (.iload_n 3, 1) := by decide +kernel
theorem dL_law_472 : decode cL_law 472 = .ok (.iconst 1, 1) := by decide +kernel
theorem dL_law_473 : decode cL_law 473 = .ok (.iadd, 1) := by decide +kernel
theorem dL_law_474 : decode cL_law 474 = .ok (.iaload, 1) := by decide +kernel
theorem dL_law_475 : decode cL_law 475 = .ok (.invokevirtual 60, 3) := by decide +kernel
theorem dL_law_478 : decode cL_law 478 = .ok (.if_icmp .eq 838, 3) := by decide +kernel
theorem dL_law_481 : decode cL_law 481 = .ok (.iconst 0, 1) := by decide +kernel
theorem dL_law_482 : decode cL_law 482 = .ok (.ireturn, 1) := by decide +kernel
theorem dL_law_483 : decode cL_law 483 = .ok (.aload_n 1, 1) := by decide +kernel
theorem dL_law_484 : decode cL_law 484 = .ok (.aload_n 0, 1) := by decide +kernel
theorem dL_law_485 : decode cL_law 485 = .ok (.iload_n 3, 1) := by decide +kernel
theorem dL_law_486 : decode cL_law 486 = .ok (.iconst 1, 1) := by decide +kernel
theorem dL_law_487 : decode cL_law 487 = .ok (.iadd, 1) := by decide +kernel
theorem dL_law_488 : decode cL_law 488 = .ok (.iaload, 1) := by decide +kernel
theorem dL_law_489 : decode cL_law 489 = .ok (.invokevirtual 61, 3) := by decide +kernel
theorem dL_law_492 : decode cL_law 492 = .ok (.aload_n 2, 1) := by decide +kernel
theorem dL_law_493 : decode cL_law 493 = .ok (.aload_n 0, 1) := by decide +kernel
theorem dL_law_494 : decode cL_law 494 = .ok (.iload_n 3, 1) := by decide +kernel
theorem dL_law_495 : decode cL_law 495 = .ok (.iconst 1, 1) := by decide +kernel
theorem dL_law_496 : decode cL_law 496 = .ok (.iadd, 1) := by decide +kernel
theorem dL_law_497 : decode cL_law 497 = .ok (.iaload, 1) := by decide +kernel
theorem dL_law_498 : decode cL_law 498 = .ok (.invokevirtual 64, 3) := by decide +kernel
theorem dL_law_501 : decode cL_law 501 = .ok (.if_icmp .eq 815, 3) := by decide +kernel
theorem dL_law_504 : decode cL_law 504 = .ok (.iconst 0, 1) := by decide +kernel
theorem dL_law_505 : decode cL_law 505 = .ok (.ireturn, 1) := by decide +kernel
theorem dL_law_506 : decode cL_law 506 = .ok (.aload_n 1, 1) := by decide +kernel
theorem dL_law_507 : decode cL_law 507 = .ok (.aload_n 0, 1) := by decide +kernel
theorem dL_law_508 : decode cL_law 508 = .ok (.iload_n 3, 1) := by decide +kernel
theorem dL_law_509 : decode cL_law 509 = .ok (.iconst 1, 1) := by decide +kernel
theorem dL_law_510 : decode cL_law 510 = .ok (.iadd, 1) := by decide +kernel
theorem dL_law_511 : decode cL_law 511 = .ok (.iaload, 1) := by decide +kernel
theorem dL_law_512 : decode cL_law 512 = .ok (.aload_n 0, 1) := by decide +kernel
theorem dL_law_513 : decode cL_law 513 = .ok (.iload_n 3, 1) := by decide +kernel
theorem dL_law_514 : decode cL_law 514 = .ok (.iconst 2, 1) := by decide +kernel
theorem dL_law_515 : decode cL_law 515 = .ok (.iadd, 1) := by decide +kernel
theorem dL_law_516 : decode cL_law 516 = .ok (.iaload, 1) := by decide +kernel
theorem dL_law_517 : decode cL_law 517 = .ok (.aload_n 0, 1) := by decide +kernel
theorem dL_law_518 : decode cL_law 518 = .ok (.iload_n 3, 1) := by decide +kernel
theorem dL_law_519 : decode cL_law 519 = .ok (.iconst 3, 1) := by decide +kernel
theorem dL_law_520 : decode cL_law 520 = .ok (.iadd, 1) := by decide +kernel
theorem dL_law_521 : decode cL_law 521 = .ok (.iaload, 1) := by decide +kernel
theorem dL_law_522 : decode cL_law 522 = .ok (.invokevirtual 65, 3) := by decide +kernel
theorem dL_law_525 : decode cL_law 525 = .ok (.aload_n 2, 1) := by decide +kernel
theorem dL_law_526 : decode cL_law 526 = .ok (.aload_n 0, 1) := by decide +kernel
theorem dL_law_527 : decode cL_law 527 = .ok (.iload_n 3, 1) := by decide +kernel
theorem dL_law_528 : decode cL_law 528 = .ok (.iconst 1, 1) := by decide +kernel
theorem dL_law_529 : decode cL_law 529 = .ok (.iadd, 1) := by decide +kernel
theorem dL_law_530 : decode cL_law 530 = .ok (.iaload, 1) := by decide +kernel
theorem dL_law_531 : decode cL_law 531 = .ok (.aload_n 0, 1) := by decide +kernel
theorem dL_law_532 : decode cL_law 532 = .ok (.iload_n 3, 1) := by decide +kernel
theorem dL_law_533 : decode cL_law 533 = .ok (.iconst 2, 1) := by decide +kernel
theorem dL_law_534 : decode cL_law 534 = .ok (.iadd, 1) := by decide +kernel
theorem dL_law_535 : decode cL_law 535 = .ok (.iaload, 1) := by decide +kernel
theorem dL_law_536 : decode cL_law 536 = .ok (.aload_n 0, 1) := by decide +kernel
theorem dL_law_537 : decode cL_law 537 = .ok (.iload_n 3, 1) := by decide +kernel
theorem dL_law_538 : decode cL_law 538 = .ok (.iconst 3, 1) := by decide +kernel
theorem dL_law_539 : decode cL_law 539 = .ok (.iadd, 1) := by decide +kernel
theorem dL_law_540 : decode cL_law 540 = .ok (.iaload, 1) := by decide +kernel
theorem dL_law_541 : decode cL_law 541 = .ok (.invokevirtual 69, 3) := by decide +kernel
theorem dL_law_544 : decode cL_law 544 = .ok (.if_icmp .eq 772, 3) := by decide +kernel
theorem dL_law_547 : decode cL_law 547 = .ok (.iconst 0, 1) := by decide +kernel
theorem dL_law_548 : decode cL_law 548 = .ok (.ireturn, 1) := by decide +kernel
theorem dL_law_549 : decode cL_law 549 = .ok (.aload_n 1, 1) := by decide +kernel
theorem dL_law_550 : decode cL_law 550 = .ok (.aload_n 0, 1) := by decide +kernel
theorem dL_law_551 : decode cL_law 551 = .ok (.iload_n 3, 1) := by decide +kernel
theorem dL_law_552 : decode cL_law 552 = .ok (.iconst 1, 1) := by decide +kernel
theorem dL_law_553 : decode cL_law 553 = .ok (.iadd, 1) := by decide +kernel
theorem dL_law_554 : decode cL_law 554 = .ok (.iaload, 1) := by decide +kernel
theorem dL_law_555 : decode cL_law 555 = .ok (.aload_n 0, 1) := by decide +kernel
theorem dL_law_556 : decode cL_law 556 = .ok (.iload_n 3, 1) := by decide +kernel
theorem dL_law_557 : decode cL_law 557 = .ok (.iconst 2, 1) := by decide +kernel
theorem dL_law_558 : decode cL_law 558 = .ok (.iadd, 1) := by decide +kernel
theorem dL_law_559 : decode cL_law 559 = .ok (.iaload, 1) := by decide +kernel
theorem dL_law_560 : decode cL_law 560 = .ok (.aload_n 0, 1) := by decide +kernel
theorem dL_law_561 : decode cL_law 561 = .ok (.iload_n 3, 1) := by decide +kernel
theorem dL_law_562 : decode cL_law 562 = .ok (.iconst 3, 1) := by decide +kernel
theorem dL_law_563 : decode cL_law 563 = .ok (.iadd, 1) := by decide +kernel
theorem dL_law_564 : decode cL_law 564 = .ok (.iaload, 1) := by decide +kernel
theorem dL_law_565 : decode cL_law 565 = .ok (.aload_n 0, 1) := by decide +kernel
theorem dL_law_566 : decode cL_law 566 = .ok (.iload_n 3, 1) := by decide +kernel
theorem dL_law_567 : decode cL_law 567 = .ok (.iconst 4, 1) := by decide +kernel
theorem dL_law_568 : decode cL_law 568 = .ok (.iadd, 1) := by decide +kernel
theorem dL_law_569 : decode cL_law 569 = .ok (.iaload, 1) := by decide +kernel
theorem dL_law_570 : decode cL_law 570 = .ok (.invokevirtual 70, 3) := by decide +kernel
theorem dL_law_573 : decode cL_law 573 = .ok (.aload_n 2, 1) := by decide +kernel
theorem dL_law_574 : decode cL_law 574 = .ok (.aload_n 0, 1) := by decide +kernel
theorem dL_law_575 : decode cL_law 575 = .ok (.iload_n 3, 1) := by decide +kernel
theorem dL_law_576 : decode cL_law 576 = .ok (.iconst 1, 1) := by decide +kernel
theorem dL_law_577 : decode cL_law 577 = .ok (.iadd, 1) := by decide +kernel
theorem dL_law_578 : decode cL_law 578 = .ok (.iaload, 1) := by decide +kernel
theorem dL_law_579 : decode cL_law 579 = .ok (.aload_n 0, 1) := by decide +kernel
theorem dL_law_580 : decode cL_law 580 = .ok (.iload_n 3, 1) := by decide +kernel
theorem dL_law_581 : decode cL_law 581 = .ok (.iconst 2, 1) := by decide +kernel
theorem dL_law_582 : decode cL_law 582 = .ok (.iadd, 1) := by decide +kernel
theorem dL_law_583 : decode cL_law 583 = .ok (.iaload, 1) := by decide +kernel
theorem dL_law_584 : decode cL_law 584 = .ok (.aload_n 0, 1) := by decide +kernel
theorem dL_law_585 : decode cL_law 585 = .ok (.iload_n 3, 1) := by decide +kernel
theorem dL_law_586 : decode cL_law 586 = .ok (.iconst 3, 1) := by decide +kernel
theorem dL_law_587 : decode cL_law 587 = .ok (.iadd, 1) := by decide +kernel
theorem dL_law_588 : decode cL_law 588 = .ok (.iaload, 1) := by decide +kernel
theorem dL_law_589 : decode cL_law 589 = .ok (.aload_n 0, 1) := by decide +kernel
theorem dL_law_590 : decode cL_law 590 = .ok (.iload_n 3, 1) := by decide +kernel
theorem dL_law_591 : decode cL_law 591 = .ok (.iconst 4, 1) := by decide +kernel
theorem dL_law_592 : decode cL_law 592 = .ok (.iadd, 1) := by decide +kernel
theorem dL_law_593 : decode cL_law 593 = .ok (.iaload, 1) := by decide +kernel
theorem dL_law_594 : decode cL_law 594 = .ok (.invokevirtual 74, 3) := by decide +kernel
theorem dL_law_597 : decode cL_law 597 = .ok (.if_icmp .eq 719, 3) := by decide +kernel
theorem dL_law_600 : decode cL_law 600 = .ok (.iconst 0, 1) := by decide +kernel
theorem dL_law_601 : decode cL_law 601 = .ok (.ireturn, 1) := by decide +kernel
theorem dL_law_602 : decode cL_law 602 = .ok (.aload_n 1, 1) := by decide +kernel
theorem dL_law_603 : decode cL_law 603 = .ok (.aload_n 0, 1) := by decide +kernel
theorem dL_law_604 : decode cL_law 604 = .ok (.iload_n 3, 1) := by decide +kernel
theorem dL_law_605 : decode cL_law 605 = .ok (.iconst 1, 1) := by decide +kernel
theorem dL_law_606 : decode cL_law 606 = .ok (.iadd, 1) := by decide +kernel
theorem dL_law_607 : decode cL_law 607 = .ok (.iaload, 1) := by decide +kernel
theorem dL_law_608 : decode cL_law 608 = .ok (.aload_n 0, 1) := by decide +kernel
theorem dL_law_609 : decode cL_law 609 = .ok (.iload_n 3, 1) := by decide +kernel
theorem dL_law_610 : decode cL_law 610 = .ok (.iconst 2, 1) := by decide +kernel
theorem dL_law_611 : decode cL_law 611 = .ok (.iadd, 1) := by decide +kernel
theorem dL_law_612 : decode cL_law 612 = .ok (.iaload, 1) := by decide +kernel
theorem dL_law_613 : decode cL_law 613 = .ok (.aload_n 0, 1) := by decide +kernel
theorem dL_law_614 : decode cL_law 614 = .ok (.iload_n 3, 1) := by decide +kernel
theorem dL_law_615 : decode cL_law 615 = .ok (.iconst 3, 1) := by decide +kernel
theorem dL_law_616 : decode cL_law 616 = .ok (.iadd, 1) := by decide +kernel
theorem dL_law_617 : decode cL_law 617 = .ok (.iaload, 1) := by decide +kernel
theorem dL_law_618 : decode cL_law 618 = .ok (.invokevirtual 75, 3) := by decide +kernel
theorem dL_law_621 : decode cL_law 621 = .ok (.aload_n 2, 1) := by decide +kernel
theorem dL_law_622 : decode cL_law 622 = .ok (.aload_n 0, 1) := by decide +kernel
theorem dL_law_623 : decode cL_law 623 = .ok (.iload_n 3, 1) := by decide +kernel
theorem dL_law_624 : decode cL_law 624 = .ok (.iconst 1, 1) := by decide +kernel
theorem dL_law_625 : decode cL_law 625 = .ok (.iadd, 1) := by decide +kernel
theorem dL_law_626 : decode cL_law 626 = .ok (.iaload, 1) := by decide +kernel
theorem dL_law_627 : decode cL_law 627 = .ok (.aload_n 0, 1) := by decide +kernel
theorem dL_law_628 : decode cL_law 628 = .ok (.iload_n 3, 1) := by decide +kernel
theorem dL_law_629 : decode cL_law 629 = .ok (.iconst 2, 1) := by decide +kernel
theorem dL_law_630 : decode cL_law 630 = .ok (.iadd, 1) := by decide +kernel
theorem dL_law_631 : decode cL_law 631 = .ok (.iaload, 1) := by decide +kernel
theorem dL_law_632 : decode cL_law 632 = .ok (.aload_n 0, 1) := by decide +kernel
theorem dL_law_633 : decode cL_law 633 = .ok (.iload_n 3, 1) := by decide +kernel
theorem dL_law_634 : decode cL_law 634 = .ok (.iconst 3, 1) := by decide +kernel
theorem dL_law_635 : decode cL_law 635 = .ok (.iadd, 1) := by decide +kernel
theorem dL_law_636 : decode cL_law 636 = .ok (.iaload, 1) := by decide +kernel
theorem dL_law_637 : decode cL_law 637 = .ok (.invokevirtual 78, 3) := by decide +kernel
theorem dL_law_640 : decode cL_law 640 = .ok (.if_icmp .eq 676, 3) := by decide +kernel
theorem dL_law_643 : decode cL_law 643 = .ok (.iconst 0, 1) := by decide +kernel
theorem dL_law_644 : decode cL_law 644 = .ok (.ireturn, 1) := by decide +kernel
theorem dL_law_645 : decode cL_law 645 = .ok (.aload_n 1, 1) := by decide +kernel
theorem dL_law_646 : decode cL_law 646 = .ok (.aload_n 0, 1) := by decide +kernel
theorem dL_law_647 : decode cL_law 647 = .ok (.iload_n 3, 1) := by decide +kernel
theorem dL_law_648 : decode cL_law 648 = .ok (.iconst 1, 1) := by decide +kernel
theorem dL_law_649 : decode cL_law 649 = .ok (.iadd, 1) := by decide +kernel
theorem dL_law_650 : decode cL_law 650 = .ok (.iaload, 1) := by decide +kernel
theorem dL_law_651 : decode cL_law 651 = .ok (.aload_n 0, 1) := by decide +kernel
theorem dL_law_652 : decode cL_law 652 = .ok (.iload_n 3, 1) := by decide +kernel
theorem dL_law_653 : decode cL_law 653 = .ok (.iconst 2, 1) := by decide +kernel
theorem dL_law_654 : decode cL_law 654 = .ok (.iadd, 1) := by decide +kernel
theorem dL_law_655 : decode cL_law 655 = .ok (.iaload, 1) := by decide +kernel
theorem dL_law_656 : decode cL_law 656 = .ok (.aload_n 0, 1) := by decide +kernel
theorem dL_law_657 : decode cL_law 657 = .ok (.iload_n 3, 1) := by decide +kernel
theorem dL_law_658 : decode cL_law 658 = .ok (.iconst 3, 1) := by decide +kernel
theorem dL_law_659 : decode cL_law 659 = .ok (.iadd, 1) := by decide +kernel
theorem dL_law_660 : decode cL_law 660 = .ok (.iaload, 1) := by decide +kernel
theorem dL_law_661 : decode cL_law 661 = .ok (.invokevirtual 79, 3) := by decide +kernel
theorem dL_law_664 : decode cL_law 664 = .ok (.aload_n 2, 1) := by decide +kernel
theorem dL_law_665 : decode cL_law 665 = .ok (.aload_n 0, 1) := by decide +kernel
theorem dL_law_666 : decode cL_law 666 = .ok (.iload_n 3, 1) := by decide +kernel
theorem dL_law_667 : decode cL_law 667 = .ok (.iconst 1, 1) := by decide +kernel
theorem dL_law_668 : decode cL_law 668 = .ok (.iadd, 1) := by decide +kernel
theorem dL_law_669 : decode cL_law 669 = .ok (.iaload, 1) := by decide +kernel
theorem dL_law_670 : decode cL_law 670 = .ok (.aload_n 0, 1) := by decide +kernel
theorem dL_law_671 : decode cL_law 671 = .ok (.iload_n 3, 1) := by decide +kernel
theorem dL_law_672 : decode cL_law 672 = .ok (.iconst 2, 1) := by decide +kernel
theorem dL_law_673 : decode cL_law 673 = .ok (.iadd, 1) := by decide +kernel
theorem dL_law_674 : decode cL_law 674 = .ok (.iaload, 1) := by decide +kernel
theorem dL_law_675 : decode cL_law 675 = .ok (.aload_n 0, 1) := by decide +kernel
theorem dL_law_676 : decode cL_law 676 = .ok (.iload_n 3, 1) := by decide +kernel
theorem dL_law_677 : decode cL_law 677 = .ok (.iconst 3, 1) := by decide +kernel
theorem dL_law_678 : decode cL_law 678 = .ok (.iadd, 1) := by decide +kernel
theorem dL_law_679 : decode cL_law 679 = .ok (.iaload, 1) := by decide +kernel
theorem dL_law_680 : decode cL_law 680 = .ok (.invokevirtual 82, 3) := by decide +kernel
theorem dL_law_683 : decode cL_law 683 = .ok (.if_icmp .eq 633, 3) := by decide +kernel
theorem dL_law_686 : decode cL_law 686 = .ok (.iconst 0, 1) := by decide +kernel
theorem dL_law_687 : decode cL_law 687 = .ok (.ireturn, 1) := by decide +kernel
theorem dL_law_688 : decode cL_law 688 = .ok (.aload_n 1, 1) := by decide +kernel
theorem dL_law_689 : decode cL_law 689 = .ok (.aload_n 0, 1) := by decide +kernel
theorem dL_law_690 : decode cL_law 690 = .ok (.iload_n 3, 1) := by decide +kernel
theorem dL_law_691 : decode cL_law 691 = .ok (.iconst 1, 1) := by decide +kernel
theorem dL_law_692 : decode cL_law 692 = .ok (.iadd, 1) := by decide +kernel
theorem dL_law_693 : decode cL_law 693 = .ok (.iaload, 1) := by decide +kernel
theorem dL_law_694 : decode cL_law 694 = .ok (.invokevirtual 83, 3) := by decide +kernel
theorem dL_law_697 : decode cL_law 697 = .ok (.aload_n 2, 1) := by decide +kernel
theorem dL_law_698 : decode cL_law 698 = .ok (.aload_n 0, 1) := by decide +kernel
theorem dL_law_699 : decode cL_law 699 = .ok (.iload_n 3, 1) := by decide +kernel
theorem dL_law_700 : decode cL_law 700 = .ok (.iconst 1, 1) := by decide +kernel
theorem dL_law_701 : decode cL_law 701 = .ok (.iadd, 1) := by decide +kernel
theorem dL_law_702 : decode cL_law 702 = .ok (.iaload, 1) := by decide +kernel
theorem dL_law_703 : decode cL_law 703 = .ok (.invokevirtual 86, 3) := by decide +kernel
theorem dL_law_706 : decode cL_law 706 = .ok (.if_icmp .eq 610, 3) := by decide +kernel
theorem dL_law_709 : decode cL_law 709 = .ok (.iconst 0, 1) := by decide +kernel
theorem dL_law_710 : decode cL_law 710 = .ok (.ireturn, 1) := by decide +kernel
theorem dL_law_711 : decode cL_law 711 = .ok (.aload_n 1, 1) := by decide +kernel
theorem dL_law_712 : decode cL_law 712 = .ok (.invokevirtual 87, 3) := by decide +kernel
theorem dL_law_715 : decode cL_law 715 = .ok (.aload_n 2, 1) := by decide +kernel
theorem dL_law_716 : decode cL_law 716 = .ok (.invokevirtual 90, 3) := by decide +kernel
theorem dL_law_719 : decode cL_law 719 = .ok (.if_icmp .eq 597, 3) := by decide +kernel
theorem dL_law_722 : decode cL_law 722 = .ok (.iconst 0, 1) := by decide +kernel
theorem dL_law_723 : decode cL_law 723 = .ok (.ireturn, 1) := by decide +kernel
theorem dL_law_724 : decode cL_law 724 = .ok (.aload_n 1, 1) := by decide +kernel
theorem dL_law_725 : decode cL_law 725 = .ok (.invokevirtual 91, 3) := by decide +kernel
theorem dL_law_728 : decode cL_law 728 = .ok (.aload_n 2, 1) := by decide +kernel
theorem dL_law_729 : decode cL_law 729 = .ok (.invokevirtual 94, 3) := by decide +kernel
theorem dL_law_732 : decode cL_law 732 = .ok (.if_icmp .eq 584, 3) := by decide +kernel
theorem dL_law_735 : decode cL_law 735 = .ok (.iconst 0, 1) := by decide +kernel
theorem dL_law_736 : decode cL_law 736 = .ok (.ireturn, 1) := by decide +kernel
theorem dL_law_737 : decode cL_law 737 = .ok (.aload_n 1, 1) := by decide +kernel
theorem dL_law_738 : decode cL_law 738 = .ok (.aload_n 0, 1) := by decide +kernel
theorem dL_law_739 : decode cL_law 739 = .ok (.iload_n 3, 1) := by decide +kernel
theorem dL_law_740 : decode cL_law 740 = .ok (.iconst 1, 1) := by decide +kernel
theorem dL_law_741 : decode cL_law 741 = .ok (.iadd, 1) := by decide +kernel
theorem dL_law_742 : decode cL_law 742 = .ok (.iaload, 1) := by decide +kernel
theorem dL_law_743 : decode cL_law 743 = .ok (.aload_n 0, 1) := by decide +kernel
theorem dL_law_744 : decode cL_law 744 = .ok (.iload_n 3, 1) := by decide +kernel
theorem dL_law_745 : decode cL_law 745 = .ok (.iconst 2, 1) := by decide +kernel
theorem dL_law_746 : decode cL_law 746 = .ok (.iadd, 1) := by decide +kernel
theorem dL_law_747 : decode cL_law 747 = .ok (.iaload, 1) := by decide +kernel
theorem dL_law_748 : decode cL_law 748 = .ok (.aload_n 0, 1) := by decide +kernel
theorem dL_law_749 : decode cL_law 749 = .ok (.iload_n 3, 1) := by decide +kernel
theorem dL_law_750 : decode cL_law 750 = .ok (.iconst 3, 1) := by decide +kernel
theorem dL_law_751 : decode cL_law 751 = .ok (.iadd, 1) := by decide +kernel
theorem dL_law_752 : decode cL_law 752 = .ok (.iaload, 1) := by decide +kernel
theorem dL_law_753 : decode cL_law 753 = .ok (.aload_n 0, 1) := by decide +kernel
theorem dL_law_754 : decode cL_law 754 = .ok (.iload_n 3, 1) := by decide +kernel
theorem dL_law_755 : decode cL_law 755 = .ok (.iconst 4, 1) := by decide +kernel
theorem dL_law_756 : decode cL_law 756 = .ok (.iadd, 1) := by decide +kernel
theorem dL_law_757 : decode cL_law 757 = .ok (.iaload, 1) := by decide +kernel
theorem dL_law_758 : decode cL_law 758 = .ok (.invokevirtual 95, 3) := by decide +kernel
theorem dL_law_761 : decode cL_law 761 = .ok (.aload_n 2, 1) := by decide +kernel
theorem dL_law_762 : decode cL_law 762 = .ok (.aload_n 0, 1) := by decide +kernel
theorem dL_law_763 : decode cL_law 763 = .ok (.iload_n 3, 1) := by decide +kernel
theorem dL_law_764 : decode cL_law 764 = .ok (.iconst 1, 1) := by decide +kernel
theorem dL_law_765 : decode cL_law 765 = .ok (.iadd, 1) := by decide +kernel
theorem dL_law_766 : decode cL_law 766 = .ok (.iaload, 1) := by decide +kernel
theorem dL_law_767 : decode cL_law 767 = .ok (.aload_n 0, 1) := by decide +kernel
theorem dL_law_768 : decode cL_law 768 = .ok (.iload_n 3, 1) := by decide +kernel
theorem dL_law_769 : decode cL_law 769 = .ok (.iconst 2, 1) := by decide +kernel
theorem dL_law_770 : decode cL_law 770 = .ok (.iadd, 1) := by decide +kernel
theorem dL_law_771 : decode cL_law 771 = .ok (.iaload, 1) := by decide +kernel
theorem dL_law_772 : decode cL_law 772 = .ok (.aload_n 0, 1) := by decide +kernel
theorem dL_law_773 : decode cL_law 773 = .ok (.iload_n 3, 1) := by decide +kernel
theorem dL_law_774 : decode cL_law 774 = .ok (.iconst 3, 1) := by decide +kernel
theorem dL_law_775 : decode cL_law 775 = .ok (.iadd, 1) := by decide +kernel
theorem dL_law_776 : decode cL_law 776 = .ok (.iaload, 1) := by decide +kernel
theorem dL_law_777 : decode cL_law 777 = .ok (.aload_n 0, 1) := by decide +kernel
theorem dL_law_778 : decode cL_law 778 = .ok (.iload_n 3, 1) := by decide +kernel
theorem dL_law_779 : decode cL_law 779 = .ok (.iconst 4, 1) := by decide +kernel
theorem dL_law_780 : decode cL_law 780 = .ok (.iadd, 1) := by decide +kernel
theorem dL_law_781 : decode cL_law 781 = .ok (.iaload, 1) := by decide +kernel
theorem dL_law_782 : decode cL_law 782 = .ok (.invokevirtual 98, 3) := by decide +kernel
theorem dL_law_785 : decode cL_law 785 = .ok (.if_icmp .eq 531, 3) := by decide +kernel
theorem dL_law_788 : decode cL_law 788 = .ok (.iconst 0, 1) := by decide +kernel
theorem dL_law_789 : decode cL_law 789 = .ok (.ireturn, 1) := by decide +kernel
theorem dL_law_790 : decode cL_law 790 = .ok (.aload_n 1, 1) := by decide +kernel
theorem dL_law_791 : decode cL_law 791 = .ok (.aload_n 0, 1) := by decide +kernel
theorem dL_law_792 : decode cL_law 792 = .ok (.iload_n 3, 1) := by decide +kernel
theorem dL_law_793 : decode cL_law 793 = .ok (.iconst 1, 1) := by decide +kernel
theorem dL_law_794 : decode cL_law 794 = .ok (.iadd, 1) := by decide +kernel
theorem dL_law_795 : decode cL_law 795 = .ok (.iaload, 1) := by decide +kernel
theorem dL_law_796 : decode cL_law 796 = .ok (.aload_n 0, 1) := by decide +kernel
theorem dL_law_797 : decode cL_law 797 = .ok (.iload_n 3, 1) := by decide +kernel
theorem dL_law_798 : decode cL_law 798 = .ok (.iconst 2, 1) := by decide +kernel
theorem dL_law_799 : decode cL_law 799 = .ok (.iadd, 1) := by decide +kernel
theorem dL_law_800 : decode cL_law 800 = .ok (.iaload, 1) := by decide +kernel
theorem dL_law_801 : decode cL_law 801 = .ok (.invokevirtual 99, 3) := by decide +kernel
theorem dL_law_804 : decode cL_law 804 = .ok (.aload_n 2, 1) := by decide +kernel
theorem dL_law_805 : decode cL_law 805 = .ok (.aload_n 0, 1) := by decide +kernel
theorem dL_law_806 : decode cL_law 806 = .ok (.iload_n 3, 1) := by decide +kernel
theorem dL_law_807 : decode cL_law 807 = .ok (.iconst 1, 1) := by decide +kernel
theorem dL_law_808 : decode cL_law 808 = .ok (.iadd, 1) := by decide +kernel
theorem dL_law_809 : decode cL_law 809 = .ok (.iaload, 1) := by decide +kernel
theorem dL_law_810 : decode cL_law 810 = .ok (.aload_n 0, 1) := by decide +kernel
theorem dL_law_811 : decode cL_law 811 = .ok (.iload_n 3, 1) := by decide +kernel
theorem dL_law_812 : decode cL_law 812 = .ok (.iconst 2, 1) := by decide +kernel
theorem dL_law_813 : decode cL_law 813 = .ok (.iadd, 1) := by decide +kernel
theorem dL_law_814 : decode cL_law 814 = .ok (.iaload, 1) := by decide +kernel
theorem dL_law_815 : decode cL_law 815 = .ok (.invokevirtual 102, 3) := by decide +kernel
theorem dL_law_818 : decode cL_law 818 = .ok (.if_icmp .eq 498, 3) := by decide +kernel
theorem dL_law_821 : decode cL_law 821 = .ok (.iconst 0, 1) := by decide +kernel
theorem dL_law_822 : decode cL_law 822 = .ok (.ireturn, 1) := by decide +kernel
theorem dL_law_823 : decode cL_law 823 = .ok (.aload_n 1, 1) := by decide +kernel
theorem dL_law_824 : decode cL_law 824 = .ok (.aload_n 0, 1) := by decide +kernel
theorem dL_law_825 : decode cL_law 825 = .ok (.iload_n 3, 1) := by decide +kernel
theorem dL_law_826 : decode cL_law 826 = .ok (.iconst 1, 1) := by decide +kernel
theorem dL_law_827 : decode cL_law 827 = .ok (.iadd, 1) := by decide +kernel
theorem dL_law_828 : decode cL_law 828 = .ok (.iaload, 1) := by decide +kernel
theorem dL_law_829 : decode cL_law 829 = .ok (.invokevirtual 103, 3) := by decide +kernel
theorem dL_law_832 : decode cL_law 832 = .ok (.aload_n 2, 1) := by decide +kernel
theorem dL_law_833 : decode cL_law 833 = .ok (.aload_n 0, 1) := by decide +kernel
theorem dL_law_834 : decode cL_law 834 = .ok (.iload_n 3, 1) := by decide +kernel
theorem dL_law_835 : decode cL_law 835 = .ok (.iconst 1, 1) := by decide +kernel
theorem dL_law_836 : decode cL_law 836 = .ok (.iadd, 1) := by decide +kernel
theorem dL_law_837 : decode cL_law 837 = .ok (.iaload, 1) := by decide +kernel
theorem dL_law_838 : decode cL_law 838 = .ok (.invokevirtual 106, 3) := by decide +kernel
theorem dL_law_841 : decode cL_law 841 = .ok (.if_icmp .eq 475, 3) := by decide +kernel
theorem dL_law_844 : decode cL_law 844 = .ok (.iconst 0, 1) := by decide +kernel
theorem dL_law_845 : decode cL_law 845 = .ok (.ireturn, 1) := by decide +kernel
theorem dL_law_846 : decode cL_law 846 = .ok (.aload_n 1, 1) := by decide +kernel
theorem dL_law_847 : decode cL_law 847 = .ok (.aload_n 0, 1) := by decide +kernel
theorem dL_law_848 : decode cL_law 848 = .ok (.iload_n 3, 1) := by decide +kernel
theorem dL_law_849 : decode cL_law 849 = .ok (.iconst 1, 1) := by decide +kernel
theorem dL_law_850 : decode cL_law 850 = .ok (.iadd, 1) := by decide +kernel
theorem dL_law_851 : decode cL_law 851 = .ok (.iaload, 1) := by decide +kernel
theorem dL_law_852 : decode cL_law 852 = .ok (.aload_n 0, 1) := by decide +kernel
theorem dL_law_853 : decode cL_law 853 = .ok (.iload_n 3, 1) := by decide +kernel
theorem dL_law_854 : decode cL_law 854 = .ok (.iconst 2, 1) := by decide +kernel
theorem dL_law_855 : decode cL_law 855 = .ok (.iadd, 1) := by decide +kernel
theorem dL_law_856 : decode cL_law 856 = .ok (.iaload, 1) := by decide +kernel
theorem dL_law_857 : decode cL_law 857 = .ok (.aload_n 0, 1) := by decide +kernel
theorem dL_law_858 : decode cL_law 858 = .ok (.iload_n 3, 1) := by decide +kernel
theorem dL_law_859 : decode cL_law 859 = .ok (.iconst 3, 1) := by decide +kernel
theorem dL_law_860 : decode cL_law 860 = .ok (.iadd, 1) := by decide +kernel
theorem dL_law_861 : decode cL_law 861 = .ok (.iaload, 1) := by decide +kernel
theorem dL_law_862 : decode cL_law 862 = .ok (.aload_n 0, 1) := by decide +kernel
theorem dL_law_863 : decode cL_law 863 = .ok (.iload_n 3, 1) := by decide +kernel
theorem dL_law_864 : decode cL_law 864 = .ok (.iconst 4, 1) := by decide +kernel
theorem dL_law_865 : decode cL_law 865 = .ok (.iadd, 1) := by decide +kernel
theorem dL_law_866 : decode cL_law 866 = .ok (.iaload, 1) := by decide +kernel
theorem dL_law_867 : decode cL_law 867 = .ok (.aload_n 0, 1) := by decide +kernel
theorem dL_law_868 : decode cL_law 868 = .ok (.iload_n 3, 1) := by decide +kernel
theorem dL_law_869 : decode cL_law 869 = .ok (.iconst 5, 1) := by decide +kernel
theorem dL_law_870 : decode cL_law 870 = .ok (.iadd, 1) := by decide +kernel
theorem dL_law_871 : decode cL_law 871 = .ok (.iaload, 1) := by decide +kernel
theorem dL_law_872 : decode cL_law 872 = .ok (.invokevirtual 107, 3) := by decide +kernel
theorem dL_law_875 : decode cL_law 875 = .ok (.aload_n 2, 1) := by decide +kernel
theorem dL_law_876 : decode cL_law 876 = .ok (.aload_n 0, 1) := by decide +kernel
theorem dL_law_877 : decode cL_law 877 = .ok (.iload_n 3, 1) := by decide +kernel
theorem dL_law_878 : decode cL_law 878 = .ok (.iconst 1, 1) := by decide +kernel
theorem dL_law_879 : decode cL_law 879 = .ok (.iadd, 1) := by decide +kernel
theorem dL_law_880 : decode cL_law 880 = .ok (.iaload, 1) := by decide +kernel
theorem dL_law_881 : decode cL_law 881 = .ok (.aload_n 0, 1) := by decide +kernel
theorem dL_law_882 : decode cL_law 882 = .ok (.iload_n 3, 1) := by decide +kernel
theorem dL_law_883 : decode cL_law 883 = .ok (.iconst 2, 1) := by decide +kernel
theorem dL_law_884 : decode cL_law 884 = .ok (.iadd, 1) := by decide +kernel
theorem dL_law_885 : decode cL_law 885 = .ok (.iaload, 1) := by decide +kernel
theorem dL_law_886 : decode cL_law 886 = .ok (.aload_n 0, 1) := by decide +kernel
theorem dL_law_887 : decode cL_law 887 = .ok (.iload_n 3, 1) := by decide +kernel
theorem dL_law_888 : decode cL_law 888 = .ok (.iconst 3, 1) := by decide +kernel
theorem dL_law_889 : decode cL_law 889 = .ok (.iadd, 1) := by decide +kernel
theorem dL_law_890 : decode cL_law 890 = .ok (.iaload, 1) := by decide +kernel
theorem dL_law_891 : decode cL_law 891 = .ok (.aload_n 0, 1) := by decide +kernel
theorem dL_law_892 : decode cL_law 892 = .ok (.iload_n 3, 1) := by decide +kernel
theorem dL_law_893 : decode cL_law 893 = .ok (.iconst 4, 1) := by decide +kernel
theorem dL_law_894 : decode cL_law 894 = .ok (.iadd, 1) := by decide +kernel
theorem dL_law_895 : decode cL_law 895 = .ok (.iaload, 1) := by decide +kernel
theorem dL_law_896 : decode cL_law 896 = .ok (.aload_n 0, 1) := by decide +kernel
theorem dL_law_897 : decode cL_law 897 = .ok (.iload_n 3, 1) := by decide +kernel
theorem dL_law_898 : decode cL_law 898 = .ok (.iconst 5, 1) := by decide +kernel
theorem dL_law_899 : decode cL_law 899 = .ok (.iadd, 1) := by decide +kernel
theorem dL_law_900 : decode cL_law 900 = .ok (.iaload, 1) := by decide +kernel
theorem dL_law_901 : decode cL_law 901 = .ok (.invokevirtual 110, 3) := by decide +kernel
theorem dL_law_904 : decode cL_law 904 = .ok (.if_icmp .eq 412, 3) := by decide +kernel
theorem dL_law_907 : decode cL_law 907 = .ok (.iconst 0, 1) := by decide +kernel
theorem dL_law_908 : decode cL_law 908 = .ok (.ireturn, 1) := by decide +kernel
theorem dL_law_909 : decode cL_law 909 = .ok (.aload_n 1, 1) := by decide +kernel
theorem dL_law_910 : decode cL_law 910 = .ok (.aload_n 0, 1) := by decide +kernel
theorem dL_law_911 : decode cL_law 911 = .ok (.iload_n 3, 1) := by decide +kernel
theorem dL_law_912 : decode cL_law 912 = .ok (.iconst 1, 1) := by decide +kernel
theorem dL_law_913 : decode cL_law 913 = .ok (.iadd, 1) := by decide +kernel
theorem dL_law_914 : decode cL_law 914 = .ok (.iaload, 1) := by decide +kernel
theorem dL_law_915 : decode cL_law 915 = .ok (.aload_n 0, 1) := by decide +kernel
theorem dL_law_916 : decode cL_law 916 = .ok (.iload_n 3, 1) := by decide +kernel
theorem dL_law_917 : decode cL_law 917 = .ok (.iconst 2, 1) := by decide +kernel
theorem dL_law_918 : decode cL_law 918 = .ok (.iadd, 1) := by decide +kernel
theorem dL_law_919 : decode cL_law 919 = .ok (.iaload, 1) := by decide +kernel
theorem dL_law_920 : decode cL_law 920 = .ok (.aload_n 0, 1) := by decide +kernel
theorem dL_law_921 : decode cL_law 921 = .ok (.iload_n 3, 1) := by decide +kernel
theorem dL_law_922 : decode cL_law 922 = .ok (.iconst 3, 1) := by decide +kernel
theorem dL_law_923 : decode cL_law 923 = .ok (.iadd, 1) := by decide +kernel
theorem dL_law_924 : decode cL_law 924 = .ok (.iaload, 1) := by decide +kernel
theorem dL_law_925 : decode cL_law 925 = .ok (.aload_n 0, 1) := by decide +kernel
theorem dL_law_926 : decode cL_law 926 = .ok (.iload_n 3, 1) := by decide +kernel
theorem dL_law_927 : decode cL_law 927 = .ok (.iconst 4, 1) := by decide +kernel
theorem dL_law_928 : decode cL_law 928 = .ok (.iadd, 1) := by decide +kernel
theorem dL_law_929 : decode cL_law 929 = .ok (.iaload, 1) := by decide +kernel
theorem dL_law_930 : decode cL_law 930 = .ok (.invokevirtual 111, 3) := by decide +kernel
theorem dL_law_933 : decode cL_law 933 = .ok (.aload_n 2, 1) := by decide +kernel
theorem dL_law_934 : decode cL_law 934 = .ok (.aload_n 0, 1) := by decide +kernel
theorem dL_law_935 : decode cL_law 935 = .ok (.iload_n 3, 1) := by decide +kernel
theorem dL_law_936 : decode cL_law 936 = .ok (.iconst 1, 1) := by decide +kernel
theorem dL_law_937 : decode cL_law 937 = .ok (.iadd, 1) := by decide +kernel
theorem dL_law_938 : decode cL_law 938 = .ok (.iaload, 1) := by decide +kernel
theorem dL_law_939 : decode cL_law 939 = .ok (.aload_n 0, 1) := by decide +kernel
theorem dL_law_940 : decode cL_law 940 = .ok (.iload_n 3, 1) := by decide +kernel
theorem dL_law_941 : decode cL_law 941 = .ok (.iconst 2, 1) := by decide +kernel
theorem dL_law_942 : decode cL_law 942 = .ok (.iadd, 1) := by decide +kernel
theorem dL_law_943 : decode cL_law 943 = .ok (.iaload, 1) := by decide +kernel
theorem dL_law_944 : decode cL_law 944 = .ok (.aload_n 0, 1) := by decide +kernel
theorem dL_law_945 : decode cL_law 945 = .ok (.iload_n 3, 1) := by decide +kernel
theorem dL_law_946 : decode cL_law 946 = .ok (.iconst 3, 1) := by decide +kernel
theorem dL_law_947 : decode cL_law 947 = .ok (.iadd, 1) := by decide +kernel
theorem dL_law_948 : decode cL_law 948 = .ok (.iaload, 1) := by decide +kernel
theorem dL_law_949 : decode cL_law 949 = .ok (.aload_n 0, 1) := by decide +kernel
theorem dL_law_950 : decode cL_law 950 = .ok (.iload_n 3, 1) := by decide +kernel
theorem dL_law_951 : decode cL_law 951 = .ok (.iconst 4, 1) := by decide +kernel
theorem dL_law_952 : decode cL_law 952 = .ok (.iadd, 1) := by decide +kernel
theorem dL_law_953 : decode cL_law 953 = .ok (.iaload, 1) := by decide +kernel
theorem dL_law_954 : decode cL_law 954 = .ok (.invokevirtual 114, 3) := by decide +kernel
theorem dL_law_957 : decode cL_law 957 = .ok (.if_icmp .eq 359, 3) := by decide +kernel
theorem dL_law_960 : decode cL_law 960 = .ok (.iconst 0, 1) := by decide +kernel
theorem dL_law_961 : decode cL_law 961 = .ok (.ireturn, 1) := by decide +kernel
theorem dL_law_962 : decode cL_law 962 = .ok (.aload_n 1, 1) := by decide +kernel
theorem dL_law_963 : decode cL_law 963 = .ok (.aload_n 0, 1) := by decide +kernel
theorem dL_law_964 : decode cL_law 964 = .ok (.iload_n 3, 1) := by decide +kernel
theorem dL_law_965 : decode cL_law 965 = .ok (.iconst 1, 1) := by decide +kernel
theorem dL_law_966 : decode cL_law 966 = .ok (.iadd, 1) := by decide +kernel
theorem dL_law_967 : decode cL_law 967 = .ok (.iaload, 1) := by decide +kernel
theorem dL_law_968 : decode cL_law 968 = .ok (.invokevirtual 115, 3) := by decide +kernel
theorem dL_law_971 : decode cL_law 971 = .ok (.aload_n 2, 1) := by decide +kernel
theorem dL_law_972 : decode cL_law 972 = .ok (.aload_n 0, 1) := by decide +kernel
theorem dL_law_973 : decode cL_law 973 = .ok (.iload_n 3, 1) := by decide +kernel
theorem dL_law_974 : decode cL_law 974 = .ok (.iconst 1, 1) := by decide +kernel
theorem dL_law_975 : decode cL_law 975 = .ok (.iadd, 1) := by decide +kernel
theorem dL_law_976 : decode cL_law 976 = .ok (.iaload, 1) := by decide +kernel
theorem dL_law_977 : decode cL_law 977 = .ok (.invokevirtual 118, 3) := by decide +kernel
theorem dL_law_980 : decode cL_law 980 = .ok (.if_icmp .eq 336, 3) := by decide +kernel
theorem dL_law_983 : decode cL_law 983 = .ok (.iconst 0, 1) := by decide +kernel
theorem dL_law_984 : decode cL_law 984 = .ok (.ireturn, 1) := by decide +kernel
theorem dL_law_985 : decode cL_law 985 = .ok (.aload_n 1, 1) := by decide +kernel
theorem dL_law_986 : decode cL_law 986 = .ok (.aload_n 0, 1) := by decide +kernel
theorem dL_law_987 : decode cL_law 987 = .ok (.iload_n 3, 1) := by decide +kernel
theorem dL_law_988 : decode cL_law 988 = .ok (.iconst 1, 1) := by decide +kernel
theorem dL_law_989 : decode cL_law 989 = .ok (.iadd, 1) := by decide +kernel
theorem dL_law_990 : decode cL_law 990 = .ok (.iaload, 1) := by decide +kernel
theorem dL_law_991 : decode cL_law 991 = .ok (.invokevirtual 119, 3) := by decide +kernel
theorem dL_law_994 : decode cL_law 994 = .ok (.aload_n 2, 1) := by decide +kernel
theorem dL_law_995 : decode cL_law 995 = .ok (.aload_n 0, 1) := by decide +kernel
theorem dL_law_996 : decode cL_law 996 = .ok (.iload_n 3, 1) := by decide +kernel
theorem dL_law_997 : decode cL_law 997 = .ok (.iconst 1, 1) := by decide +kernel
theorem dL_law_998 : decode cL_law 998 = .ok (.iadd, 1) := by decide +kernel
theorem dL_law_999 : decode cL_law 999 = .ok (.iaload, 1) := by decide +kernel
theorem dL_law_1000 : decode cL_law 1000 = .ok (.invokevirtual 122, 3) := by decide +kernel
theorem dL_law_1003 : decode cL_law 1003 = .ok (.if_icmp .eq 313, 3) := by decide +kernel
theorem dL_law_1006 : decode cL_law 1006 = .ok (.iconst 0, 1) := by decide +kernel
theorem dL_law_1007 : decode cL_law 1007 = .ok (.ireturn, 1) := by decide +kernel
theorem dL_law_1008 : decode cL_law 1008 = .ok (.aload_n 1, 1) := by decide +kernel
theorem dL_law_1009 : decode cL_law 1009 = .ok (.aload_n 0, 1) := by decide +kernel
theorem dL_law_1010 : decode cL_law 1010 = .ok (.iload_n 3, 1) := by decide +kernel
theorem dL_law_1011 : decode cL_law 1011 = .ok (.iconst 1, 1) := by decide +kernel
theorem dL_law_1012 : decode cL_law 1012 = .ok (.iadd, 1) := by decide +kernel
theorem dL_law_1013 : decode cL_law 1013 = .ok (.iaload, 1) := by decide +kernel
theorem dL_law_1014 : decode cL_law 1014 = .ok (.invokevirtual 123, 3) := by decide +kernel
theorem dL_law_1017 : decode cL_law 1017 = .ok (.aload_n 2, 1) := by decide +kernel
theorem dL_law_1018 : decode cL_law 1018 = .ok (.aload_n 0, 1) := by decide +kernel
theorem dL_law_1019 : decode cL_law 1019 = .ok (.iload_n 3, 1) := by decide +kernel
theorem dL_law_1020 : decode cL_law 1020 = .ok (.iconst 1, 1) := by decide +kernel
theorem dL_law_1021 : decode cL_law 1021 = .ok (.iadd, 1) := by decide +kernel
theorem dL_law_1022 : decode cL_law 1022 = .ok (.iaload, 1) := by decide +kernel
theorem dL_law_1023 : decode cL_law 1023 = .ok (.invokevirtual 126, 3) := by decide +kernel
theorem dL_law_1026 : decode cL_law 1026 = .ok (.if_icmp .eq 290, 3) := by decide +kernel
theorem dL_law_1029 : decode cL_law 1029 = .ok (.iconst 0, 1) := by decide +kernel
theorem dL_law_1030 : decode cL_law 1030 = .ok (.ireturn, 1) := by decide +kernel
theorem dL_law_1031 : decode cL_law 1031 = .ok (.aload_n 1, 1) := by decide +kernel
theorem dL_law_1032 : decode cL_law 1032 = .ok (.aload_n 0, 1) := by decide +kernel
theorem dL_law_1033 : decode cL_law 1033 = .ok (.iload_n 3, 1) := by decide +kernel
theorem dL_law_1034 : decode cL_law 1034 = .ok (.iconst 1, 1) := by decide +kernel
theorem dL_law_1035 : decode cL_law 1035 = .ok (.iadd, 1) := by decide +kernel
theorem dL_law_1036 : decode cL_law 1036 = .ok (.iaload, 1) := by decide +kernel
theorem dL_law_1037 : decode cL_law 1037 = .ok (.invokevirtual 127, 3) := by decide +kernel
theorem dL_law_1040 : decode cL_law 1040 = .ok (.aload_n 2, 1) := by decide +kernel
theorem dL_law_1041 : decode cL_law 1041 = .ok (.aload_n 0, 1) := by decide +kernel
theorem dL_law_1042 : decode cL_law 1042 = .ok (.iload_n 3, 1) := by decide +kernel
theorem dL_law_1043 : decode cL_law 1043 = .ok (.iconst 1, 1) := by decide +kernel
theorem dL_law_1044 : decode cL_law 1044 = .ok (.iadd, 1) := by decide +kernel
theorem dL_law_1045 : decode cL_law 1045 = .ok (.iaload, 1) := by decide +kernel
theorem dL_law_1046 : decode cL_law 1046 = .ok (.invokevirtual 130, 3) := by decide +kernel
theorem dL_law_1049 : decode cL_law 1049 = .ok (.if_icmp .eq 267, 3) := by decide +kernel
theorem dL_law_1052 : decode cL_law 1052 = .ok (.iconst 0, 1) := by decide +kernel
theorem dL_law_1053 : decode cL_law 1053 = .ok (.ireturn, 1) := by decide +kernel
theorem dL_law_1054 : decode cL_law 1054 = .ok (.aload_n 1, 1) := by decide +kernel
theorem dL_law_1055 : decode cL_law 1055 = .ok (.aload_n 0, 1) := by decide +kernel
theorem dL_law_1056 : decode cL_law 1056 = .ok (.iload_n 3, 1) := by decide +kernel
theorem dL_law_1057 : decode cL_law 1057 = .ok (.iconst 1, 1) := by decide +kernel
theorem dL_law_1058 : decode cL_law 1058 = .ok (.iadd, 1) := by decide +kernel
theorem dL_law_1059 : decode cL_law 1059 = .ok (.iaload, 1) := by decide +kernel
theorem dL_law_1060 : decode cL_law 1060 = .ok (.invokevirtual 131, 3) := by decide +kernel
theorem dL_law_1063 : decode cL_law 1063 = .ok (.aload_n 2, 1) := by decide +kernel
theorem dL_law_1064 : decode cL_law 1064 = .ok (.aload_n 0, 1) := by decide +kernel
theorem dL_law_1065 : decode cL_law 1065 = .ok (.iload_n 3, 1) := by decide +kernel
theorem dL_law_1066 : decode cL_law 1066 = .ok (.iconst 1, 1) := by decide +kernel
theorem dL_law_1067 : decode cL_law 1067 = .ok (.iadd, 1) := by decide +kernel
theorem dL_law_1068 : decode cL_law 1068 = .ok (.iaload, 1) := by decide +kernel
theorem dL_law_1069 : decode cL_law 1069 = .ok (.invokevirtual 134, 3) := by decide +kernel
theorem dL_law_1072 : decode cL_law 1072 = .ok (.if_icmp .eq 244, 3) := by decide +kernel
theorem dL_law_1075 : decode cL_law 1075 = .ok (.iconst 0, 1) := by decide +kernel
theorem dL_law_1076 : decode cL_law 1076 = .ok (.ireturn, 1) := by decide +kernel
theorem dL_law_1077 : decode cL_law 1077 = .ok (.aload_n 1, 1) := by decide +kernel
theorem dL_law_1078 : decode cL_law 1078 = .ok (.aload_n 0, 1) := by decide +kernel
theorem dL_law_1079 : decode cL_law 1079 = .ok (.iload_n 3, 1) := by decide +kernel
theorem dL_law_1080 : decode cL_law 1080 = .ok (.iconst 1, 1) := by decide +kernel
theorem dL_law_1081 : decode cL_law 1081 = .ok (.iadd, 1) := by decide +kernel
theorem dL_law_1082 : decode cL_law 1082 = .ok (.iaload, 1) := by decide +kernel
theorem dL_law_1083 : decode cL_law 1083 = .ok (.aload_n 0, 1) := by decide +kernel
theorem dL_law_1084 : decode cL_law 1084 = .ok (.iload_n 3, 1) := by decide +kernel
theorem dL_law_1085 : decode cL_law 1085 = .ok (.iconst 2, 1) := by decide +kernel
theorem dL_law_1086 : decode cL_law 1086 = .ok (.iadd, 1) := by decide +kernel
theorem dL_law_1087 : decode cL_law 1087 = .ok (.iaload, 1) := by decide +kernel
theorem dL_law_1088 : decode cL_law 1088 = .ok (.aload_n 0, 1) := by decide +kernel
theorem dL_law_1089 : decode cL_law 1089 = .ok (.iload_n 3, 1) := by decide +kernel
theorem dL_law_1090 : decode cL_law 1090 = .ok (.iconst 3, 1) := by decide +kernel
theorem dL_law_1091 : decode cL_law 1091 = .ok (.iadd, 1) := by decide +kernel
theorem dL_law_1092 : decode cL_law 1092 = .ok (.iaload, 1) := by decide +kernel
theorem dL_law_1093 : decode cL_law 1093 = .ok (.invokevirtual 135, 3) := by decide +kernel
theorem dL_law_1096 : decode cL_law 1096 = .ok (.aload_n 2, 1) := by decide +kernel
theorem dL_law_1097 : decode cL_law 1097 = .ok (.aload_n 0, 1) := by decide +kernel
theorem dL_law_1098 : decode cL_law 1098 = .ok (.iload_n 3, 1) := by decide +kernel
theorem dL_law_1099 : decode cL_law 1099 = .ok (.iconst 1, 1) := by decide +kernel
theorem dL_law_1100 : decode cL_law 1100 = .ok (.iadd, 1) := by decide +kernel
theorem dL_law_1101 : decode cL_law 1101 = .ok (.iaload, 1) := by decide +kernel
theorem dL_law_1102 : decode cL_law 1102 = .ok (.aload_n 0, 1) := by decide +kernel
theorem dL_law_1103 : decode cL_law 1103 = .ok (.iload_n 3, 1) := by decide +kernel
theorem dL_law_1104 : decode cL_law 1104 = .ok (.iconst 2, 1) := by decide +kernel
theorem dL_law_1105 : decode cL_law 1105 = .ok (.iadd, 1) := by decide +kernel
theorem dL_law_1106 : decode cL_law 1106 = .ok (.iaload, 1) := by decide +kernel
theorem dL_law_1107 : decode cL_law 1107 = .ok (.aload_n 0, 1) := by decide +kernel
theorem dL_law_1108 : decode cL_law 1108 = .ok (.iload_n 3, 1) := by decide +kernel
theorem dL_law_1109 : decode cL_law 1109 = .ok (.iconst 3, 1) := by decide +kernel
theorem dL_law_1110 : decode cL_law 1110 = .ok (.iadd, 1) := by decide +kernel
theorem dL_law_1111 : decode cL_law 1111 = .ok (.iaload, 1) := by decide +kernel
theorem dL_law_1112 : decode cL_law 1112 = .ok (.invokevirtual 138, 3) := by decide +kernel
theorem dL_law_1115 : decode cL_law 1115 = .ok (.if_icmp .eq 201, 3) := by decide +kernel
theorem dL_law_1118 : decode cL_law 1118 = .ok (.iconst 0, 1) := by decide +kernel
theorem dL_law_1119 : decode cL_law 1119 = .ok (.ireturn, 1) := by decide +kernel
theorem dL_law_1120 : decode cL_law 1120 = .ok (.aload_n 1, 1) := by decide +kernel
theorem dL_law_1121 : decode cL_law 1121 = .ok (.aload_n 0, 1) := by decide +kernel
theorem dL_law_1122 : decode cL_law 1122 = .ok (.iload_n 3, 1) := by decide +kernel
theorem dL_law_1123 : decode cL_law 1123 = .ok (.iconst 1, 1) := by decide +kernel
theorem dL_law_1124 : decode cL_law 1124 = .ok (.iadd, 1) := by decide +kernel
theorem dL_law_1125 : decode cL_law 1125 = .ok (.iaload, 1) := by decide +kernel
theorem dL_law_1126 : decode cL_law 1126 = .ok (.aload_n 0, 1) := by decide +kernel
theorem dL_law_1127 : decode cL_law 1127 = .ok (.iload_n 3, 1) := by decide +kernel
theorem dL_law_1128 : decode cL_law 1128 = .ok (.iconst 2, 1) := by decide +kernel
theorem dL_law_1129 : decode cL_law 1129 = .ok (.iadd, 1) := by decide +kernel
theorem dL_law_1130 : decode cL_law 1130 = .ok (.iaload, 1) := by decide +kernel
theorem dL_law_1131 : decode cL_law 1131 = .ok (.invokevirtual 139, 3) := by decide +kernel
theorem dL_law_1134 : decode cL_law 1134 = .ok (.aload_n 2, 1) := by decide +kernel
theorem dL_law_1135 : decode cL_law 1135 = .ok (.aload_n 0, 1) := by decide +kernel
theorem dL_law_1136 : decode cL_law 1136 = .ok (.iload_n 3, 1) := by decide +kernel
theorem dL_law_1137 : decode cL_law 1137 = .ok (.iconst 1, 1) := by decide +kernel
theorem dL_law_1138 : decode cL_law 1138 = .ok (.iadd, 1) := by decide +kernel
theorem dL_law_1139 : decode cL_law 1139 = .ok (.iaload, 1) := by decide +kernel
theorem dL_law_1140 : decode cL_law 1140 = .ok (.aload_n 0, 1) := by decide +kernel
theorem dL_law_1141 : decode cL_law 1141 = .ok (.iload_n 3, 1) := by decide +kernel
theorem dL_law_1142 : decode cL_law 1142 = .ok (.iconst 2, 1) := by decide +kernel
theorem dL_law_1143 : decode cL_law 1143 = .ok (.iadd, 1) := by decide +kernel
theorem dL_law_1144 : decode cL_law 1144 = .ok (.iaload, 1) := by decide +kernel
theorem dL_law_1145 : decode cL_law 1145 = .ok (.invokevirtual 142, 3) := by decide +kernel
theorem dL_law_1148 : decode cL_law 1148 = .ok (.if_icmp .eq 168, 3) := by decide +kernel
theorem dL_law_1151 : decode cL_law 1151 = .ok (.iconst 0, 1) := by decide +kernel
theorem dL_law_1152 : decode cL_law 1152 = .ok (.ireturn, 1) := by decide +kernel
theorem dL_law_1153 : decode cL_law 1153 = .ok (.aload_n 1, 1) := by decide +kernel
theorem dL_law_1154 : decode cL_law 1154 = .ok (.aload_n 0, 1) := by decide +kernel
theorem dL_law_1155 : decode cL_law 1155 = .ok (.iload_n 3, 1) := by decide +kernel
theorem dL_law_1156 : decode cL_law 1156 = .ok (.iconst 1, 1) := by decide +kernel
theorem dL_law_1157 : decode cL_law 1157 = .ok (.iadd, 1) := by decide +kernel
theorem dL_law_1158 : decode cL_law 1158 = .ok (.iaload, 1) := by decide +kernel
theorem dL_law_1159 : decode cL_law 1159 = .ok (.aload_n 0, 1) := by decide +kernel
theorem dL_law_1160 : decode cL_law 1160 = .ok (.iload_n 3, 1) := by decide +kernel
theorem dL_law_1161 : decode cL_law 1161 = .ok (.iconst 2, 1) := by decide +kernel
theorem dL_law_1162 : decode cL_law 1162 = .ok (.iadd, 1) := by decide +kernel
theorem dL_law_1163 : decode cL_law 1163 = .ok (.iaload, 1) := by decide +kernel
theorem dL_law_1164 : decode cL_law 1164 = .ok (.invokevirtual 143, 3) := by decide +kernel
theorem dL_law_1167 : decode cL_law 1167 = .ok (.aload_n 2, 1) := by decide +kernel
theorem dL_law_1168 : decode cL_law 1168 = .ok (.aload_n 0, 1) := by decide +kernel
theorem dL_law_1169 : decode cL_law 1169 = .ok (.iload_n 3, 1) := by decide +kernel
theorem dL_law_1170 : decode cL_law 1170 = .ok (.iconst 1, 1) := by decide +kernel
theorem dL_law_1171 : decode cL_law 1171 = .ok (.iadd, 1) := by decide +kernel
theorem dL_law_1172 : decode cL_law 1172 = .ok (.iaload, 1) := by decide +kernel
theorem dL_law_1173 : decode cL_law 1173 = .ok (.aload_n 0, 1) := by decide +kernel
theorem dL_law_1174 : decode cL_law 1174 = .ok (.iload_n 3, 1) := by decide +kernel
theorem dL_law_1175 : decode cL_law 1175 = .ok (.iconst 2, 1) := by decide +kernel
theorem dL_law_1176 : decode cL_law 1176 = .ok (.iadd, 1) := by decide +kernel
theorem dL_law_1177 : decode cL_law 1177 = .ok (.iaload, 1) := by decide +kernel
theorem dL_law_1178 : decode cL_law 1178 = .ok (.invokevirtual 146, 3) := by decide +kernel
theorem dL_law_1181 : decode cL_law 1181 = .ok (.if_icmp .eq 135, 3) := by decide +kernel
theorem dL_law_1184 : decode cL_law 1184 = .ok (.iconst 0, 1) := by decide +kernel
theorem dL_law_1185 : decode cL_law 1185 = .ok (.ireturn, 1) := by decide +kernel
theorem dL_law_1186 : decode cL_law 1186 = .ok (.aload_n 1, 1) := by decide +kernel
theorem dL_law_1187 : decode cL_law 1187 = .ok (.aload_n 0, 1) := by decide +kernel
theorem dL_law_1188 : decode cL_law 1188 = .ok (.iload_n 3, 1) := by decide +kernel
theorem dL_law_1189 : decode cL_law 1189 = .ok (.iconst 1, 1) := by decide +kernel
theorem dL_law_1190 : decode cL_law 1190 = .ok (.iadd, 1) := by decide +kernel
theorem dL_law_1191 : decode cL_law 1191 = .ok (.iaload, 1) := by decide +kernel
theorem dL_law_1192 : decode cL_law 1192 = .ok (.invokevirtual 147, 3) := by decide +kernel
theorem dL_law_1195 : decode cL_law 1195 = .ok (.aload_n 2, 1) := by decide +kernel
theorem dL_law_1196 : decode cL_law 1196 = .ok (.aload_n 0, 1) := by decide +kernel
theorem dL_law_1197 : decode cL_law 1197 = .ok (.iload_n 3, 1) := by decide +kernel
theorem dL_law_1198 : decode cL_law 1198 = .ok (.iconst 1, 1) := by decide +kernel
theorem dL_law_1199 : decode cL_law 1199 = .ok (.iadd, 1) := by decide +kernel
theorem dL_law_1200 : decode cL_law 1200 = .ok (.iaload, 1) := by decide +kernel
theorem dL_law_1201 : decode cL_law 1201 = .ok (.invokevirtual 151, 3) := by decide +kernel
theorem dL_law_1204 : decode cL_law 1204 = .ok (.lcmp, 1) := by decide +kernel
theorem dL_law_1205 : decode cL_law 1205 = .ok (.ifCond .eq 111, 3) := by decide +kernel
theorem dL_law_1208 : decode cL_law 1208 = .ok (.iconst 0, 1) := by decide +kernel
theorem dL_law_1209 : decode cL_law 1209 = .ok (.ireturn, 1) := by decide +kernel
theorem dL_law_1210 : decode cL_law 1210 = .ok (.aload_n 1, 1) := by decide +kernel
theorem dL_law_1211 : decode cL_law 1211 = .ok (.aload_n 0, 1) := by decide +kernel
theorem dL_law_1212 : decode cL_law 1212 = .ok (.iload_n 3, 1) := by decide +kernel
theorem dL_law_1213 : decode cL_law 1213 = .ok (.iconst 1, 1) := by decide +kernel
theorem dL_law_1214 : decode cL_law 1214 = .ok (.iadd, 1) := by decide +kernel
theorem dL_law_1215 : decode cL_law 1215 = .ok (.iaload, 1) := by decide +kernel
theorem dL_law_1216 : decode cL_law 1216 = .ok (.invokevirtual 152, 3) := by decide +kernel
theorem dL_law_1219 : decode cL_law 1219 = .ok (.aload_n 2, 1) := by decide +kernel
theorem dL_law_1220 : decode cL_law 1220 = .ok (.aload_n 0, 1) := by decide +kernel
theorem dL_law_1221 : decode cL_law 1221 = .ok (.iload_n 3, 1) := by decide +kernel
theorem dL_law_1222 : decode cL_law 1222 = .ok (.iconst 1, 1) := by decide +kernel
theorem dL_law_1223 : decode cL_law 1223 = .ok (.iadd, 1) := by decide +kernel
theorem dL_law_1224 : decode cL_law 1224 = .ok (.iaload, 1) := by decide +kernel
theorem dL_law_1225 : decode cL_law 1225 = .ok (.invokevirtual 155, 3) := by decide +kernel
theorem dL_law_1228 : decode cL_law 1228 = .ok (.if_icmp .eq 88, 3) := by decide +kernel
theorem dL_law_1231 : decode cL_law 1231 = .ok (.iconst 0, 1) := by decide +kernel
theorem dL_law_1232 : decode cL_law 1232 = .ok (.ireturn, 1) := by decide +kernel
theorem dL_law_1233 : decode cL_law 1233 = .ok (.aload_n 1, 1) := by decide +kernel
theorem dL_law_1234 : decode cL_law 1234 = .ok (.aload_n 0, 1) := by decide +kernel
theorem dL_law_1235 : decode cL_law 1235 = .ok (.iload_n 3, 1) := by decide +kernel
theorem dL_law_1236 : decode cL_law 1236 = .ok (.iconst 1, 1) := by decide +kernel
theorem dL_law_1237 : decode cL_law 1237 = .ok (.iadd, 1) := by decide +kernel
theorem dL_law_1238 : decode cL_law 1238 = .ok (.iaload, 1) := by decide +kernel
theorem dL_law_1239 : decode cL_law 1239 = .ok (.invokevirtual 156, 3) := by decide +kernel
theorem dL_law_1242 : decode cL_law 1242 = .ok (.aload_n 2, 1) := by decide +kernel
theorem dL_law_1243 : decode cL_law 1243 = .ok (.aload_n 0, 1) := by decide +kernel
theorem dL_law_1244 : decode cL_law 1244 = .ok (.iload_n 3, 1) := by decide +kernel
theorem dL_law_1245 : decode cL_law 1245 = .ok (.iconst 1, 1) := by decide +kernel
theorem dL_law_1246 : decode cL_law 1246 = .ok (.iadd, 1) := by decide +kernel
theorem dL_law_1247 : decode cL_law 1247 = .ok (.iaload, 1) := by decide +kernel
theorem dL_law_1248 : decode cL_law 1248 = .ok (.invokevirtual 159, 3) := by decide +kernel
theorem dL_law_1251 : decode cL_law 1251 = .ok (.if_icmp .eq 65, 3) := by decide +kernel
theorem dL_law_1254 : decode cL_law 1254 = .ok (.iconst 0, 1) := by decide +kernel
theorem dL_law_1255 : decode cL_law 1255 = .ok (.ireturn, 1) := by decide +kernel
theorem dL_law_1256 : decode cL_law 1256 = .ok (.aload_n 1, 1) := by decide +kernel
theorem dL_law_1257 : decode cL_law 1257 = .ok (.aload_n 0, 1) := by decide +kernel
theorem dL_law_1258 : decode cL_law 1258 = .ok (.iload_n 3, 1) := by decide +kernel
theorem dL_law_1259 : decode cL_law 1259 = .ok (.iconst 1, 1) := by decide +kernel
theorem dL_law_1260 : decode cL_law 1260 = .ok (.iadd, 1) := by decide +kernel
theorem dL_law_1261 : decode cL_law 1261 = .ok (.iaload, 1) := by decide +kernel
theorem dL_law_1262 : decode cL_law 1262 = .ok (.invokevirtual 160, 3) := by decide +kernel
theorem dL_law_1265 : decode cL_law 1265 = .ok (.aload_n 2, 1) := by decide +kernel
theorem dL_law_1266 : decode cL_law 1266 = .ok (.aload_n 0, 1) := by decide +kernel
theorem dL_law_1267 : decode cL_law 1267 = .ok (.iload_n 3, 1) := by decide +kernel
theorem dL_law_1268 : decode cL_law 1268 = .ok (.iconst 1, 1) := by decide +kernel
theorem dL_law_1269 : decode cL_law 1269 = .ok (.iadd, 1) := by decide +kernel
theorem dL_law_1270 : decode cL_law 1270 = .ok (.iaload, 1) := by decide +kernel
theorem dL_law_1271 : decode cL_law 1271 = .ok (.invokevirtual 163, 3) := by decide +kernel
theorem dL_law_1274 : decode cL_law 1274 = .ok (.if_icmp .eq 42, 3) := by decide +kernel
theorem dL_law_1277 : decode cL_law 1277 = .ok (.iconst 0, 1) := by decide +kernel
theorem dL_law_1278 : decode cL_law 1278 = .ok (.ireturn, 1) := by decide +kernel
theorem dL_law_1279 : decode cL_law 1279 = .ok (.aload_n 1, 1) := by decide +kernel
theorem dL_law_1280 : decode cL_law 1280 = .ok (.aload_n 0, 1) := by decide +kernel
theorem dL_law_1281 : decode cL_law 1281 = .ok (.iload_n 3, 1) := by decide +kernel
theorem dL_law_1282 : decode cL_law 1282 = .ok (.iconst 1, 1) := by decide +kernel
theorem dL_law_1283 : decode cL_law 1283 = .ok (.iadd, 1) := by decide +kernel
theorem dL_law_1284 : decode cL_law 1284 = .ok (.iaload, 1) := by decide +kernel
theorem dL_law_1285 : decode cL_law 1285 = .ok (.invokevirtual 164, 3) := by decide +kernel
theorem dL_law_1288 : decode cL_law 1288 = .ok (.aload_n 2, 1) := by decide +kernel
theorem dL_law_1289 : decode cL_law 1289 = .ok (.aload_n 0, 1) := by decide +kernel
theorem dL_law_1290 : decode cL_law 1290 = .ok (.iload_n 3, 1) := by decide +kernel
theorem dL_law_1291 : decode cL_law 1291 = .ok (.iconst 1, 1) := by decide +kernel
theorem dL_law_1292 : decode cL_law 1292 = .ok (.iadd, 1) := by decide +kernel
theorem dL_law_1293 : decode cL_law 1293 = .ok (.iaload, 1) := by decide +kernel
theorem dL_law_1294 : decode cL_law 1294 = .ok (.invokevirtual 167, 3) := by decide +kernel
theorem dL_law_1297 : decode cL_law 1297 = .ok (.if_icmp .eq 19, 3) := by decide +kernel
theorem dL_law_1300 : decode cL_law 1300 = .ok (.iconst 0, 1) := by decide +kernel
theorem dL_law_1301 : decode cL_law 1301 = .ok (.ireturn, 1) := by decide +kernel
theorem dL_law_1302 : decode cL_law 1302 = .ok (.aload_n 1, 1) := by decide +kernel
theorem dL_law_1303 : decode cL_law 1303 = .ok (.invokevirtual 168, 3) := by decide +kernel
theorem dL_law_1306 : decode cL_law 1306 = .ok (.aload_n 2, 1) := by decide +kernel
theorem dL_law_1307 : decode cL_law 1307 = .ok (.invokevirtual 172, 3) := by decide +kernel
theorem dL_law_1310 : decode cL_law 1310 = .ok (.lcmp, 1) := by decide +kernel
theorem dL_law_1311 : decode cL_law 1311 = .ok (.ifCond .eq 5, 3) := by decide +kernel
theorem dL_law_1314 : decode cL_law 1314 = .ok (.iconst 0, 1) := by decide +kernel
theorem dL_law_1315 : decode cL_law 1315 = .ok (.ireturn, 1) := by decide +kernel
theorem dL_law_1316 : decode cL_law 1316 = .ok (.iinc 3 6, 3) := by decide +kernel
theorem dL_law_1319 : decode cL_law 1319 = .ok (.goto (-1301), 3) := by decide +kernel
theorem dL_law_1322 : decode cL_law 1322 = .ok (.iconst 1, 1) := by decide +kernel
theorem dL_law_1323 : decode cL_law 1323 = .ok (.ireturn, 1) := by decide +kernel
end
section
/-! the words that calls may carry on -/
def gw : List Cond := lw_tbl.filter goodWord
theorem gw_good {w : Cond} (h : w ∈ gw) : (w.onTables && w.keeps) = true ∨ ∃ ty, w = .arrayClass ty := good_of_word (List.mem_filter.mp h).2
theorem gw_tbl {w : Cond} (h : w ∈ gw) : w ∈ lw_tbl := (List.mem_filter.mp h).1
theorem gw_t {w : Cond} (i : Nat) (h : tables_1[i]? = some w) (g : goodWord w = true) : w ∈ gw := List.mem_filter.mpr ⟨List.mem_append_right _ (List.mem_of_getElem? h), g⟩
theorem gw_s {q : MethodName × Nat} (i : Nat) (h : lw_privs[i]? = some q) : Cond.selects q.1.cls q.1 q.1 ∈ gw := List.mem_filter.mpr ⟨List.mem_append_left _ (List.mem_map.mpr ⟨q, List.mem_of_getElem? h, rfl⟩), rfl⟩
def wsM (y : MethodName) (cc : ByteArray) (n : Nat) (r : Option FieldType) : List Cond := .code y cc n r :: gw
theorem goodIn_wsM {y : MethodName} {cc : ByteArray} {n : Nat} {r : Option FieldType} (h : Cond.code y cc n r ∈ gw) : GoodIn gw (wsM y cc n r) := by
  intro w hw
  rcases List.mem_cons.mp hw with e | h1
  · rw [e]; exact ⟨h, gw_good h⟩
  · exact ⟨h1, gw_good h1⟩
theorem nst_t {w : Cond} (i : Nat) (h : tables_1[i]? = some w) : w ∈ lw_tbl := List.mem_append_right _ (List.mem_of_getElem? h)
/-! links to a nest mate's members: they go along with the world -/
def isNest : Cond → Bool
  | .fieldLinkNest _ _ _ _ _ _ => true
  | .methodLinkNest _ _ _ _ => true
  | _ => false
def nstW : List Cond := lw_tbl.filter isNest
theorem nst_in {w : Cond} (i : Nat) (h : tables_1[i]? = some w) (g : isNest w = true) : w ∈ nstW := List.mem_filter.mpr ⟨nst_t i h, g⟩
def NW (U : State) : Prop := ∀ w ∈ nstW, va_Nw w U
theorem NW.warm {s U : State} (hW : s.WarmedH U.vm) (h : NW s) : NW U := by
  intro w hw
  have h1 := h w hw
  have h2 := (List.mem_filter.mp hw).2
  cases w with
  | fieldLinkNest a i b n d g => exact va_Nw.warmF hW h1
  | methodLinkNest a i x g => exact va_Nw.warmM hW h1
  | _ => cases h2
theorem NW.same {u U : State} (hv : u.vm = U.vm) (h : NW u) : NW U := by
  intro w hw
  have h1 := h w hw
  have h2 := (List.mem_filter.mp hw).2
  cases w with
  | fieldLinkNest a i b n d g => exact va_Nw.same rfl hv h1
  | methodLinkNest a i x g => exact va_Nw.same rfl hv h1
  | _ => cases h2
theorem NW.of {A : Array Value} {s : State} (h : ∀ w ∈ lw_tbl, w.before A s = true) : NW s := by
  intro w hw
  have h0 := List.mem_filter.mp hw
  have h1 := h w h0.1
  have h2 := h0.2
  cases w with
  | fieldLinkNest a i b n d g => exact va_Nw.of rfl h1
  | methodLinkNest a i x g => exact va_Nw.of rfl h1
  | _ => cases h2
/-! the layout: which cell is of which kind (a class's number; 8 a row of the class, 9 the row of poses, 10 a row of the reference) -/
def kdP : List Nat := [2, 8, 8, 8, 8, 1, 8, 8, 9, 1, 8, 8, 1, 8, 8, 1, 8, 8, 1, 8, 8, 1, 8, 8, 1, 8, 8, 1, 8, 8, 1, 8, 8, 8, 8, 5, 8, 5, 8, 5, 8]
def kdL : List Nat := 6 :: (kdP ++ (kdP ++ (kdP ++ (kdP ++ [3, 8, 4, 8, 0, 8, 8, 1, 8, 8, 8, 7, 10, 10, 10, 10, 10, 10, 10, 10]))))
def kd (k : Nat) : Nat := kdL.getD k 99
def lnP : List Nat := [0, 7, 7, 7, 7, 0, 7, 7, 8, 0, 7, 7, 0, 7, 7, 0, 7, 7, 0, 7, 7, 0, 7, 7, 0, 7, 7, 0, 7, 7, 0, 7, 7, 8, 8, 0, 20, 0, 30, 0, 24]
def lnL : List Nat := 0 :: (lnP ++ (lnP ++ (lnP ++ (lnP ++ [0, 150, 0, 5, 0, 25, 25, 0, 7, 7, 9, 0, 340, 150, 340, 53, 10, 25, 25, 680]))))
def ln (k : Nat) : Nat := lnL.getD k 0
theorem kd_big {k : Nat} (h : 185 ≤ k) : kd k = 99 := by
  unfold kd
  rw [List.getD_eq_getElem?_getD, List.getElem?_eq_none (by exact h)]
  rfl
theorem kd_lt {k c : Nat} (h : kd k = c) (hc : c < 99) : k < 185 := by
  rcases Nat.lt_or_ge k 185 with q | q
  · exact q
  · rw [kd_big q] at h; omega
def lo (t : Bool) : Nat := if t = true then 0 else 176
def ct (t : Bool) : Nat := if t = true then 176 else 9
def inW (t : Bool) (k : Nat) : Prop := lo t ≤ k ∧ k < lo t + ct t
theorem kd_all : ∀ k : Nat, k < 185 → ((kd k = 7 ∨ kd k = 10) → (176 ≤ k)) ∧ ((kd k ≠ 7 ∧ kd k ≠ 10) → k < 176) := by decide +kernel
theorem inC {k c : Nat} (h : kd k = c) (hc : (decide (c < 99) && decide (c ≠ 7) && decide (c ≠ 10)) = true) : inW true k := by
  simp only [Bool.and_eq_true, decide_eq_true_eq] at hc
  have h1 := kd_lt h hc.1.1
  have h2 := (kd_all k h1).2 ⟨by rw [h]; exact hc.1.2, by rw [h]; exact hc.2⟩
  exact ⟨Nat.zero_le _, by show k < 0 + 176; omega⟩
theorem inM {k c : Nat} (h : kd k = c) (hc : (decide (c = 7) || decide (c = 10)) = true) : inW false k := by
  simp only [Bool.or_eq_true, decide_eq_true_eq] at hc
  have h1 := kd_lt h (by omega)
  have h2 := (kd_all k h1).1 (by rw [h]; exact hc)
  exact ⟨h2, by show k < 176 + 9; omega⟩
/-! memory -/
abbrev Mem : Type := (Nat → Nat → Int32) × (Nat → Nat → Int64)
def s1 (M : Mem) (k j : Nat) (v : Int32) : Mem := (fun a b => if a = k then (if b = j then v else M.1 a b) else M.1 a b, M.2)
def s2 (M : Mem) (k j : Nat) (v : Int64) : Mem := (M.1, fun a b => if a = k then (if b = j then v else M.2 a b) else M.2 a b)
/-! the classes; what all rests on: the classes' numbers and slots, the addresses, the classes of rows, the texts -/
abbrev cl8 : List vw_C := [(RX0, TX0, 2), (RX1, TX1, 5), (RX2, TX2, 15), (RX3, TX3, 6), (RX4, TX4, 8), (RX5, TX5, 4), (RX6, TX6, 16), (RX7, TX7, 21)]
abbrev GT : Type := va_G × (Nat → Nat) × ClassId × ClassId × (Nat → Nat) × (Nat → Nat)
def ad (G : GT) (k : Nat) : Nat := G.2.1 k
def fs0 (G : GT) (k : Nat) : List Value := [.ref (ad G (k + 1)), .ref (ad G (k + 2))]
def fs1 (G : GT) (k : Nat) (r : Nat → Int32) : List Value := [.int (r 0), .int (r 1), .int (r 2), .ref (ad G (k + 1)), .ref (ad G (k + 2))]
def fs2 (G : GT) (k : Nat) (r : Nat → Int32) : List Value := [.ref (ad G (k + 1)), .ref (ad G (k + 2)), .ref (ad G (k + 3)), .ref (ad G (k + 4)), .int (r 4), .ref (ad G (k + 5)), .ref (ad G (k + 8)), .int (r 7), .int (r 8), .ref (ad G (k + 33)), .ref (ad G (k + 34)), .int (r 11), .ref (ad G (k + 35)), .ref (ad G (k + 37)), .ref (ad G (k + 39))]
def fs3 (G : GT) (k : Nat) (r : Nat → Int32) : List Value := [.ref (ad G (k + 1)), .int (r 1), .int (r 2), .int (r 3), .int (r 4), .int (r 5)]
def fs4 (G : GT) (k : Nat) (r : Nat → Int32) : List Value := [.ref (ad G (k + 1)), .int (r 1), .int (r 2), .int (r 3), .int (r 4), .int (r 5), .int (r 6), .int (r 7)]
def fs5 (G : GT) (k : Nat) (r : Nat → Int32) : List Value := [.int (r 0), .ref (ad G (k + 1)), .int (r 2), .int (r 3)]
def fs6 (G : GT) (r : Nat → Int32) (q : Nat → Int64) : List Value := [.ref (ad G 1), .ref (ad G 42), .ref (ad G 83), .ref (ad G 124), .int (r 4), .int (r 5), .ref (ad G 165), .ref (ad G 167), .ref (ad G 169), .ref (ad G 172), .ref (ad G 175), .long (q 11), .long (q 12), .int (r 13), .int (r 14), .int (r 15)]
def fs7 (G : GT) (r : Nat → Int32) (q : Nat → Int64) : List Value := [.ref (ad G 177), .int (r 1), .int (r 2), .int (r 3), .long (q 4), .long (q 5), .ref (ad G 178), .int (r 7), .int (r 8), .int (r 9), .int (r 10), .int (r 11), .int (r 12), .ref (ad G 179), .ref (ad G 180), .int (r 15), .ref (ad G 181), .ref (ad G 182), .ref (ad G 183), .ref (ad G 184), .int (r 20)]
def shp (G : GT) (k : Nat) (r : Nat → Int32) (q : Nat → Int64) : va_E := match kd k with
  | 0 => .inr (0, fs0 G k)
  | 1 => .inr (1, fs1 G k r)
  | 2 => .inr (2, fs2 G k r)
  | 3 => .inr (3, fs3 G k r)
  | 4 => .inr (4, fs4 G k r)
  | 5 => .inr (5, fs5 G k r)
  | 6 => .inr (6, fs6 G r q)
  | 7 => .inr (7, fs7 G r q)
  | 9 => .inl (G.2.2.2.1, 8, .inr (.inr (.inr (.inr (fun n => some (ad G (k + 1 + 3 * n)))))))
  | _ => .inl (G.2.2.1, ln k, .inl r)
theorem shp0 {G : GT} {k : Nat} {r : Nat → Int32} {q : Nat → Int64} (h : kd k = 0) : shp G k r q = .inr (0, fs0 G k) := by unfold shp; rw [h]; rfl
theorem shp1 {G : GT} {k : Nat} {r : Nat → Int32} {q : Nat → Int64} (h : kd k = 1) : shp G k r q = .inr (1, fs1 G k r) := by unfold shp; rw [h]; rfl
theorem shp2 {G : GT} {k : Nat} {r : Nat → Int32} {q : Nat → Int64} (h : kd k = 2) : shp G k r q = .inr (2, fs2 G k r) := by unfold shp; rw [h]; rfl
theorem shp3 {G : GT} {k : Nat} {r : Nat → Int32} {q : Nat → Int64} (h : kd k = 3) : shp G k r q = .inr (3, fs3 G k r) := by unfold shp; rw [h]; rfl
theorem shp4 {G : GT} {k : Nat} {r : Nat → Int32} {q : Nat → Int64} (h : kd k = 4) : shp G k r q = .inr (4, fs4 G k r) := by unfold shp; rw [h]; rfl
theorem shp5 {G : GT} {k : Nat} {r : Nat → Int32} {q : Nat → Int64} (h : kd k = 5) : shp G k r q = .inr (5, fs5 G k r) := by unfold shp; rw [h]; rfl
theorem shp6 {G : GT} {k : Nat} {r : Nat → Int32} {q : Nat → Int64} (h : kd k = 6) : shp G k r q = .inr (6, fs6 G r q) := by unfold shp; rw [h]; rfl
theorem shp7 {G : GT} {k : Nat} {r : Nat → Int32} {q : Nat → Int64} (h : kd k = 7) : shp G k r q = .inr (7, fs7 G r q) := by unfold shp; rw [h]; rfl
theorem shp8 {G : GT} {k : Nat} {r : Nat → Int32} {q : Nat → Int64} (h : kd k = 8) : shp G k r q = .inl (G.2.2.1, ln k, .inl r) := by unfold shp; rw [h]; rfl
theorem shp9 {G : GT} {k : Nat} {r : Nat → Int32} {q : Nat → Int64} (h : kd k = 9) : shp G k r q = .inl (G.2.2.2.1, 8, .inr (.inr (.inr (.inr (fun n => some (ad G (k + 1 + 3 * n))))))) := by unfold shp; rw [h]; rfl
theorem shp10 {G : GT} {k : Nat} {r : Nat → Int32} {q : Nat → Int64} (h : kd k = 10) : shp G k r q = .inl (G.2.2.1, ln k, .inl r) := by unfold shp; rw [h]; rfl
/-! the world -/
def wl (G : GT) (t : Bool) (M : Mem) : va_W := (List.range (ct t)).map (fun i => (ad G (lo t + i), shp G (lo t + i) (M.1 (lo t + i)) (M.2 (lo t + i))))
theorem wl_at {G : GT} {t : Bool} {M : Mem} {k : Nat} (h : inW t k) : (wl G t M)[k - lo t]? = some (ad G k, shp G k (M.1 k) (M.2 k)) := by
  have h1 : k - lo t < ct t := by have := h.1; have := h.2; omega
  have h2 : lo t + (k - lo t) = k := by have := h.1; omega
  unfold wl
  rw [List.getElem?_map, List.getElem?_range h1]
  simp only [Option.map_some]
  rw [h2]
theorem wl_get {G : GT} {t : Bool} {M : Mem} {i : Nat} {q : Nat × va_E} (h : (wl G t M)[i]? = some q) : i < ct t ∧ q = (ad G (lo t + i), shp G (lo t + i) (M.1 (lo t + i)) (M.2 (lo t + i))) := by
  unfold wl at h
  rw [List.getElem?_map] at h
  rcases Nat.lt_or_ge i (ct t) with c | c
  · rw [List.getElem?_range c] at h
    exact ⟨c, (Option.some.inj h).symm⟩
  · rw [List.getElem?_eq_none (by rw [List.length_range]; exact c)] at h
    cases h
def Aw (G : GT) (t : Bool) : Nat → Prop := fun q => ∃ k, inW t k ∧ q = ad G k
def Inj (G : GT) (t : Bool) : Prop := ∀ i j : Nat, inW t i → inW t j → ad G i = ad G j → i = j
theorem wl_D {G : GT} {t : Bool} {M : Mem} (h : Inj G t) : va_D (Aw G t) (wl G t M) := by
  refine ⟨fun i j p q hp hq e => ?_, fun k q hq => ?_⟩
  · obtain ⟨a1, a2⟩ := wl_get hp
    obtain ⟨b1, b2⟩ := wl_get hq
    subst a2; subst b2
    have := h _ _ ⟨Nat.le_add_right _ _, Nat.add_lt_add_left a1 _⟩ ⟨Nat.le_add_right _ _, Nat.add_lt_add_left b1 _⟩ e
    omega
  · obtain ⟨a1, a2⟩ := wl_get hq
    subst a2
    exact ⟨_, ⟨Nat.le_add_right _ _, Nat.add_lt_add_left a1 _⟩, rfl⟩
theorem wl_set {G : GT} {t : Bool} {M M' : Mem} {k : Nat} {e : va_E} (h : inW t k) (he : shp G k (M'.1 k) (M'.2 k) = e) (h1 : ∀ j, j ≠ k → M'.1 j = M.1 j) (h2 : ∀ j, j ≠ k → M'.2 j = M.2 j) : (wl G t M).set (k - lo t) (ad G k, e) = wl G t M' := by
  have hk : lo t + (k - lo t) = k := by have := h.1; omega
  have hkc : k - lo t < ct t := by have := h.1; have := h.2; omega
  apply List.ext_getElem?
  intro i
  by_cases hi : i = k - lo t
  · subst hi
    rw [List.getElem?_set_self (by unfold wl; rw [List.length_map, List.length_range]; exact hkc), wl_at h, he]
  · rw [List.getElem?_set_ne (Ne.symm hi)]
    unfold wl
    rw [List.getElem?_map, List.getElem?_map]
    rcases Nat.lt_or_ge i (ct t) with c | c
    · rw [List.getElem?_range c]
      simp only [Option.map_some]
      rw [h1 _ (by omega), h2 _ (by omega)]
    · rw [List.getElem?_eq_none (by rw [List.length_range]; exact c)]
      rfl
theorem s1_o {M : Mem} {k j : Nat} {v : Int32} : ∀ i, i ≠ k → (s1 M k j v).1 i = M.1 i := by
  intro i hi
  funext b
  show (if i = k then _ else _) = _
  rw [if_neg hi]
theorem s1_k {M : Mem} {k j : Nat} {v : Int32} : (s1 M k j v).1 k = upd (M.1 k) j v := by
  funext b
  show (if k = k then _ else _) = _
  rw [if_pos rfl]
  rfl
theorem s2_o {M : Mem} {k j : Nat} {v : Int64} : ∀ i, i ≠ k → (s2 M k j v).2 i = M.2 i := by
  intro i hi
  funext b
  show (if i = k then _ else _) = _
  rw [if_neg hi]
theorem s2_k {M : Mem} {k j : Nat} {v : Int64} : (s2 M k j v).2 k = vp_updL (M.2 k) j v := by
  funext b
  show (if k = k then _ else _) = _
  rw [if_pos rfl]
  rfl
/-! what stays known of the state: classes, nest mates, addresses apart, and (the class's own world) the texts -/
def sLen : List Nat := [6, 4, 4, 3, 4]
def sByt : List (List Int32) := [[112, 117, 112, 112, 101, 116], [108, 105, 109, 98], [109, 111, 118, 101], [116, 105, 101], [104, 97, 110, 103]]
def sIdx : List (Nat × String) := [(45, "puppet"), (65, "limb"), (73, "move"), (78, "tie"), (83, "hang")]
def strF (G : GT) (t : Bool) (U : State) (H : Heap) : Prop := t = true → vk_S 5 sLen sByt G.2.2.2.2.1 G.2.2.2.2.2 (Aw G t) U H ∧ (∀ i : Nat, ∀ q : Nat × String, sIdx[i]? = some q → vk_R RX3 q.1 q.2 (G.2.2.2.2.1 i) U) ∧ va_Z "java/lang/String" "COMPACT_STRINGS" "Z" (.int 1) (Aw G t) U H
abbrev tysG (G : GT) : List (ClassId × FieldType) := [(G.2.2.1, .int), (G.2.2.2.1, .object RX1)]
def Kn (G : GT) (t : Bool) (U : State) : Prop := va_K G.1 cl8 (tysG G) U ∧ NW U ∧ Inj G t ∧ strF G t U U.heap
theorem strF.move {G : GT} {t : Bool} {s U : State} {H : Heap} (h : strF G t s s.heap) (hW : s.WarmedH U.vm) (hS : ∀ q : Nat, q < s.heap.size → ¬ Aw G t q → H[q]? = s.heap[q]?) : strF G t U H := by
  intro e
  obtain ⟨a, b, c⟩ := h e
  exact ⟨(a.kept hS).moved hW.alike, fun i q hq => (b i q hq).warm hW, (c.kept hS).moved hW.alike⟩
theorem strF.same {G : GT} {t : Bool} {s U : State} {H : Heap} (h : strF G t s H) (hv : s.vm = U.vm) : strF G t U H := by
  intro e
  obtain ⟨a, b, c⟩ := h e
  have hal : s.vm.Alike U.vm := by rw [hv]; exact Vm.Alike.refl _
  exact ⟨a.moved hal, fun i q hq => (b i q hq).same hv.symm, c.moved hal⟩
theorem Kn.move {G : GT} {t : Bool} {s U : State} {H : Heap} {locs : List Loc} (h : Kn G t s) (hS : va_S (Aw G t) s.heap H locs) (hH : U.heap = H) (hW : s.WarmedH U.vm) : Kn G t U :=
  ⟨va_K.moved hW.alike h.1, NW.warm hW h.2.1, h.2.2.1, by rw [hH]; exact h.2.2.2.move hW hS.2.1⟩
theorem Kn.calling {G : GT} {t : Bool} {U : State} (g : JFrame) (mk : MethodId) (a : Array Value) (h : Kn G t U) : Kn G t (U.calling g mk a) :=
  ⟨va_K.moved (u := U) (U := U.calling g mk a) (Vm.Alike.refl U.vm) h.1, NW.same (u := U) (U := U.calling g mk a) rfl h.2.1, h.2.2.1, strF.same (s := U) (U := U.calling g mk a) h.2.2.2 rfl⟩
/-- the memory M lies in the heap H; outside of the world nothing has changed -/
def Ws (G : GT) (t : Bool) (M : Mem) (s : State) (H : Heap) (locs : List Loc) : Prop := va_P G.1 cl8 (wl G t M) H ∧ va_S (Aw G t) s.heap H locs
abbrev rmD (d : Nat) : Room := { frames := d, cells := 0, slots := 0, locals := 40 * d }
end
section
/-! rows over the world -/
section WROWS
variable {p : Program} {l : Launch} {e : Env} {R : Room} {s : State} {m : MethodId} {args : Array Value} {below : List Frame} {meth : Method} {c : Code} {H : Heap} {locs : List Loc} {cells slots : Nat} {Q : State → Prop}
variable {cc : ByteArray} {pc : Nat} {ls : Array Slot} {rest : List Value} {G : GT} {t : Bool} {M : Mem}
theorem w_get (hx : p.tables.exec = Jvm.exec) (hb : c.code = cc) {own C : String} {T : u_T} {N ci index : Nat} (hg : ∀ w ∈ gw, w.before args s = true) (hin : ∀ w ∈ u_ws C T N, w ∈ gw) (hown : s.vm.findClass own = some m.cls) (hK : Kn G t s) (hW : Ws G t M s H locs) {k : Nat} (hk : inW t k) {fs : List Value} (hsh : shp G k (M.1 k) (M.2 k) = .inr (ci, fs)) (hc : cl8[ci]? = some (C, T, N)) (j : Nat) (hj : j < N) (hlink : Cond.fieldLink own index (T j).1 (T j).2.1 (T j).2.2.1 ∈ gw) {v : Value} (hv : fs[j]? = some v) (hdg : decode cc pc = .ok (.getfield index, 3))
    (kk : W p l e R s m args below meth c H locs cells slots Q (F0 m (pc + 3) ls (v :: rest))) : W p l e R s m args below meth c H locs cells slots Q (F0 m pc ls (.ref (ad G k) :: rest)) :=
  va_get hx hb hg hin hown hK.1 hW.1 (k - lo t) (by rw [wl_at hk, hsh]) hc j hj (hg _ hlink) (fun _ h => h) hv hdg kk
theorem w_getN (hx : p.tables.exec = Jvm.exec) (hb : c.code = cc) {own C host : String} {T : u_T} {N ci index : Nat} (hg : ∀ w ∈ gw, w.before args s = true) (hin : ∀ w ∈ u_ws C T N, w ∈ gw) (hown : s.vm.findClass own = some m.cls) (hK : Kn G t s) (hW : Ws G t M s H locs) {k : Nat} (hk : inW t k) {fs : List Value} (hsh : shp G k (M.1 k) (M.2 k) = .inr (ci, fs)) (hc : cl8[ci]? = some (C, T, N)) (j : Nat) (hj : j < N) (hlink : Cond.fieldLinkNest own index (T j).1 (T j).2.1 (T j).2.2.1 host ∈ nstW) {v : Value} (hv : fs[j]? = some v) (hdg : decode cc pc = .ok (.getfield index, 3))
    (kk : W p l e R s m args below meth c H locs cells slots Q (F0 m (pc + 3) ls (v :: rest))) : W p l e R s m args below meth c H locs cells slots Q (F0 m pc ls (.ref (ad G k) :: rest)) :=
  va_getN hx hb hg hin hown hK.1 hW.1 (k - lo t) (by rw [wl_at hk, hsh]) hc j hj (va_Nw.use rfl (hK.2.1 _ hlink)) (fun _ h => h) hv hdg kk
theorem w_put (hx : p.tables.exec = Jvm.exec) (hb : c.code = cc) {own C : String} {T : u_T} {N ci index : Nat} (hg : ∀ w ∈ gw, w.before args s = true) (hin : ∀ w ∈ u_ws C T N, w ∈ gw) (ty0 : Nat → FieldType) (hty : ∀ k, k < N → parseFieldDescriptor (T k).2.2.1 = some (ty0 k)) (hnm : ∀ a, a < N → ∀ b, b < N → a ≠ b → (T a).2.1 ≠ (T b).2.1) (hown : s.vm.findClass own = some m.cls) (hK : Kn G t s) (hW : Ws G t M s H locs) {k : Nat} (hk : inW t k) {fs : List Value} (hsh : shp G k (M.1 k) (M.2 k) = .inr (ci, fs)) (hc : cl8[ci]? = some (C, T, N)) (j : Nat) (hj : j < N) (hlink : Cond.fieldLink own index (T j).1 (T j).2.1 (T j).2.2.1 ∈ gw) (hfin : (T j).2.2.2 = false) {ty : FieldType} {v : Value} (hd : parseFieldDescriptor (T j).2.2.1 = some ty) (hn : narrow ty v = v) (hfit : fits ty v = true) (hl : j < fs.length) {M' : Mem} (hM : shp G k (M'.1 k) (M'.2 k) = .inr (ci, fs.set j v)) (h1 : ∀ i, i ≠ k → M'.1 i = M.1 i) (h2 : ∀ i, i ≠ k → M'.2 i = M.2 i)
    (hdg : decode cc pc = .ok (.putfield index, 3)) (kk : ∀ (H1 : Heap) (locs1 : List Loc), Ws G t M' s H1 locs1 → W p l e R s m args below meth c H1 locs1 cells slots Q (F0 m (pc + 3) ls rest)) : W p l e R s m args below meth c H locs cells slots Q (F0 m pc ls (v :: .ref (ad G k) :: rest)) :=
  va_put hx hb hg hin ty0 hty hnm hown hK.1 hW.1 (wl_D hK.2.2.1) hW.2 (k - lo t) (by rw [wl_at hk, hsh]) hc j hj (hg _ hlink) (fun _ h => h) hfin hd hn hfit hl hdg (fun H1 locs1 hP _ hS => kk H1 locs1 ⟨by rw [wl_set hk hM h1 h2] at hP; exact hP, hS⟩)
theorem w_putN (hx : p.tables.exec = Jvm.exec) (hb : c.code = cc) {own C host : String} {T : u_T} {N ci index : Nat} (hg : ∀ w ∈ gw, w.before args s = true) (hin : ∀ w ∈ u_ws C T N, w ∈ gw) (ty0 : Nat → FieldType) (hty : ∀ k, k < N → parseFieldDescriptor (T k).2.2.1 = some (ty0 k)) (hnm : ∀ a, a < N → ∀ b, b < N → a ≠ b → (T a).2.1 ≠ (T b).2.1) (hown : s.vm.findClass own = some m.cls) (hK : Kn G t s) (hW : Ws G t M s H locs) {k : Nat} (hk : inW t k) {fs : List Value} (hsh : shp G k (M.1 k) (M.2 k) = .inr (ci, fs)) (hc : cl8[ci]? = some (C, T, N)) (j : Nat) (hj : j < N) (hlink : Cond.fieldLinkNest own index (T j).1 (T j).2.1 (T j).2.2.1 host ∈ nstW) (hfin : (T j).2.2.2 = false) {ty : FieldType} {v : Value} (hd : parseFieldDescriptor (T j).2.2.1 = some ty) (hn : narrow ty v = v) (hfit : fits ty v = true) (hl : j < fs.length) {M' : Mem} (hM : shp G k (M'.1 k) (M'.2 k) = .inr (ci, fs.set j v)) (h1 : ∀ i, i ≠ k → M'.1 i = M.1 i) (h2 : ∀ i, i ≠ k → M'.2 i = M.2 i)
    (hdg : decode cc pc = .ok (.putfield index, 3)) (kk : ∀ (H1 : Heap) (locs1 : List Loc), Ws G t M' s H1 locs1 → W p l e R s m args below meth c H1 locs1 cells slots Q (F0 m (pc + 3) ls rest)) : W p l e R s m args below meth c H locs cells slots Q (F0 m pc ls (v :: .ref (ad G k) :: rest)) :=
  va_putN hx hb hg hin ty0 hty hnm hown hK.1 hW.1 (wl_D hK.2.2.1) hW.2 (k - lo t) (by rw [wl_at hk, hsh]) hc j hj (va_Nw.use rfl (hK.2.1 _ hlink)) (fun _ h => h) hfin hd hn hfit hl hdg (fun H1 locs1 hP _ hS => kk H1 locs1 ⟨by rw [wl_set hk hM h1 h2] at hP; exact hP, hS⟩)
theorem w_ald (hx : p.tables.exec = Jvm.exec) (hb : c.code = cc) (hK : Kn G t s) (hW : Ws G t M s H locs) {k : Nat} (hk : inW t k) (hsh : shp G k (M.1 k) (M.2 k) = .inl (G.2.2.1, ln k, .inl (M.1 k))) {i v : Int32} (hi : vp_in i (ln k)) (hv : v = M.1 k i.toNatClampNeg) (hdg : decode cc pc = .ok (.iaload, 1))
    (kk : W p l e R s m args below meth c H locs cells slots Q (F0 m (pc + 1) ls (.int v :: rest))) : W p l e R s m args below meth c H locs cells slots Q (F0 m pc ls (.int i :: .ref (ad G k) :: rest)) :=
  va_iald hx hb hK.1 hW.1 (k - lo t) 0 (by rw [wl_at hk, hsh]) rfl hi hdg (hv ▸ kk)
theorem w_ast (hx : p.tables.exec = Jvm.exec) (hb : c.code = cc) (hK : Kn G t s) (hW : Ws G t M s H locs) {k : Nat} (hk : inW t k) (hsh : ∀ r : Nat → Int32, shp G k r (M.2 k) = .inl (G.2.2.1, ln k, .inl r)) {i v : Int32} (hi : vp_in i (ln k)) {M' : Mem} (hM : M' = s1 M k i.toNatClampNeg v) (hdg : decode cc pc = .ok (.iastore, 1))
    (kk : ∀ (H1 : Heap) (locs1 : List Loc), Ws G t M' s H1 locs1 → W p l e R s m args below meth c H1 locs1 cells slots Q (F0 m (pc + 1) ls rest)) : W p l e R s m args below meth c H locs cells slots Q (F0 m pc ls (.int v :: .int i :: .ref (ad G k) :: rest)) :=
  va_iast hx hb hK.1 hW.1 (wl_D hK.2.2.1) hW.2 (k - lo t) 0 (by rw [wl_at hk, hsh]) rfl hi hdg (fun H1 locs1 hP _ hS => kk H1 locs1 ⟨by rw [wl_set (M' := M') hk (by rw [hM, s1_k]; exact hsh _) (by rw [hM]; exact s1_o) (by rw [hM]; exact fun _ _ => rfl)] at hP; exact hP, hS⟩)
theorem w_len (hx : p.tables.exec = Jvm.exec) (hb : c.code = cc) (hK : Kn G t s) (hW : Ws G t M s H locs) {k : Nat} (hk : inW t k) (hsh : shp G k (M.1 k) (M.2 k) = .inl (G.2.2.1, ln k, .inl (M.1 k))) (hdg : decode cc pc = .ok (.arraylength, 1))
    (kk : W p l e R s m args below meth c H locs cells slots Q (F0 m (pc + 1) ls (.int (nI (ln k)) :: rest))) : W p l e R s m args below meth c H locs cells slots Q (F0 m pc ls (.ref (ad G k) :: rest)) :=
  va_alen (x := (ln k, .inl (M.1 k))) hx hb hK.1 hW.1 (k - lo t) 0 (by rw [wl_at hk, hsh]) rfl rfl hdg kk
theorem w_lenP (hx : p.tables.exec = Jvm.exec) (hb : c.code = cc) (hK : Kn G t s) (hW : Ws G t M s H locs) {k : Nat} (hk : inW t k) (h9 : kd k = 9) (hdg : decode cc pc = .ok (.arraylength, 1))
    (kk : W p l e R s m args below meth c H locs cells slots Q (F0 m (pc + 1) ls (.int (nI 8) :: rest))) : W p l e R s m args below meth c H locs cells slots Q (F0 m pc ls (.ref (ad G k) :: rest)) :=
  va_alen (x := (8, .inr (.inr (.inr (.inr (fun n => some (ad G (k + 1 + 3 * n)))))))) hx hb hK.1 hW.1 (k - lo t) 1 (by rw [wl_at hk, shp9 h9]) rfl rfl hdg kk
theorem w_aldP (hx : p.tables.exec = Jvm.exec) (hb : c.code = cc) (hK : Kn G t s) (hW : Ws G t M s H locs) {k : Nat} (hk : inW t k) (h9 : kd k = 9) {i : Int32} {q : Nat} (hi : vp_in i 8) (hq : q = k + 1 + 3 * i.toNatClampNeg) (hdg : decode cc pc = .ok (.aaload, 1))
    (kk : W p l e R s m args below meth c H locs cells slots Q (F0 m (pc + 1) ls (.ref (ad G q) :: rest))) : W p l e R s m args below meth c H locs cells slots Q (F0 m pc ls (.int i :: .ref (ad G k) :: rest)) :=
  va_aldq (f := fun n => some (ad G (k + 1 + 3 * n))) hx hb hK.1 hW.1 (k - lo t) 1 (by rw [wl_at hk, shp9 h9]) rfl hi hdg (hq ▸ kk)
end WROWS
/-! contracts: from the memory M the method answers r and leaves the memory M' -/
def PreM (G : GT) (t : Bool) (av : List Value) (M : Mem) : Array Value → State → Prop := va_Pc av (fun U => va_P G.1 cl8 (wl G t M) U.heap ∧ Kn G t U)
def PstI (G : GT) (t : Bool) (r : Int32) (M : Mem) : Array Value → State → Outcome → State → Prop := va_Qi (fun v (_ : Unit) => v = r) (fun _ u => va_P G.1 cl8 (wl G t M) u.heap) (Aw G t)
def PstL (G : GT) (t : Bool) (r : Int64) (M : Mem) : Array Value → State → Outcome → State → Prop := va_Ql (fun v (_ : Unit) => v = r) (fun _ u => va_P G.1 cl8 (wl G t M) u.heap) (Aw G t)
def PstV (G : GT) (t : Bool) (M : Mem) : Array Value → State → Outcome → State → Prop := va_Qv (fun (_ : Unit) => True) (fun _ u => va_P G.1 cl8 (wl G t M) u.heap) (Aw G t)
def PstR (G : GT) (t : Bool) (r : Nat) (M : Mem) : Array Value → State → Outcome → State → Prop := va_Qr (fun (_ : Unit) => True) (fun _ a u => a = ad G r ∧ va_P G.1 cl8 (wl G t M) u.heap) (Aw G t)
def CMi (l : Launch) (G : GT) (t : Bool) (y : MethodName) (cc : ByteArray) (mx : Nat) (ret : Option FieldType) (d : Nat) (av : List Value) (M : Mem) (r : Int32) (M' : Mem) : Prop := Met l y (wsM y cc mx ret) (rmD d) (PreM G t av M) (PstI G t r M') 0 0 (Aw G t)
def CMl (l : Launch) (G : GT) (t : Bool) (y : MethodName) (cc : ByteArray) (mx : Nat) (ret : Option FieldType) (d : Nat) (av : List Value) (M : Mem) (r : Int64) (M' : Mem) : Prop := Met l y (wsM y cc mx ret) (rmD d) (PreM G t av M) (PstL G t r M') 0 0 (Aw G t)
def CMv (l : Launch) (G : GT) (t : Bool) (y : MethodName) (cc : ByteArray) (mx : Nat) (ret : Option FieldType) (d : Nat) (av : List Value) (M : Mem) (M' : Mem) : Prop := Met l y (wsM y cc mx ret) (rmD d) (PreM G t av M) (PstV G t M') 0 0 (Aw G t)
def CMr (l : Launch) (G : GT) (t : Bool) (y : MethodName) (cc : ByteArray) (mx : Nat) (ret : Option FieldType) (d : Nat) (av : List Value) (M : Mem) (r : Nat) (M' : Mem) : Prop := Met l y (wsM y cc mx ret) (rmD d) (PreM G t av M) (PstR G t r M') 0 0 (Aw G t)
theorem PreM.blind {G : GT} {t : Bool} {av : List Value} {M : Mem} : FrameBlind (PreM G t av M) := fun a U g mk q => ⟨q.1, q.2.1, q.2.2.calling g mk a⟩
/-- a walk's place: room, code, memory, and where it stands -/
abbrev Wx (p : Program) (l : Launch) (e : Env) (d : Nat) (s : State) (m : MethodId) (args : Array Value) (below : List Frame) (meth : Method) (c : Code) (Q : State → Prop) (H : Heap) (locs : List Loc) (pc : Nat) (ls : Array Slot) (st : List Value) : Prop := W p l e (rmD d) s m args below meth c H locs 0 0 Q (F0 m pc ls st)
theorem CMi.of {l : Launch} {G : GT} {t : Bool} {y : MethodName} {cc : ByteArray} {mx : Nat} {d : Nat} {av : List Value} {M : Mem} {r : Int32} {M' : Mem} (hy : plainName y.cls = true) (hn : (lg_sl av).length ≤ mx)
    (body : ∀ (p : Program) (e : Env) (s : State) (m : MethodId) (args : Array Value) (below : List Frame) (meth : Method) (c : Code) (Q : State → Prop), p.tables.exec = Jvm.exec → c.code = cc → c.maxLocals = mx → s.vm.findClass y.cls = some m.cls → (∀ w ∈ gw, w.before args s = true) → Kn G t s → Ws G t M s s.heap [] → (∀ (H : Heap) (locs : List Loc) (pc : Nat) (ls : Array Slot), Ws G t M' s H locs → decode cc pc = .ok (.ireturn, 1) → Wx p l e d s m args below meth c Q H locs pc ls [.int r]) → ∀ ls : Array Slot, lv_has ls mx (lv_args 0 av) → Wx p l e d s m args below meth c Q s.heap [] 0 ls []) :
    CMi l G t y cc mx (some .int) d av M r M' := by
  refine Met.ofW (cc := cc) (maxL := mx) (ret := some .int) hy rfl ?_
  intro p e s m args below meth c s₁ B hml hv
  obtain ⟨rfl, hP, hK⟩ := hv
  have hts := atoms_spec (ws := wsM y cc mx (some .int)) B.pre
  have hr := B.returns
  have hlocks := B.notSynchronized
  have hl := lv_entry av (n := mx) hn
  rw [lg_entry_eq]
  exact body p e s m _ below meth c _ B.exec B.bytes hml (findClass_of_methodNamed B.named) (fun w hw => hts w (List.mem_cons_of_mem _ hw)) hK ⟨hP, va_S.rf⟩ (fun H locs pc ls hW hdg => W.iret (v := r) B.exec B.bytes hr (fun u hu _ => ⟨⟨r, (), rfl, rfl, by show va_P _ _ _ u.heap; rw [hu]; exact hW.1⟩, hW.2.F hu⟩) hW.2.2.2 hdg hlocks) _ hl
theorem CMi.ofZ {l : Launch} {G : GT} {t : Bool} {y : MethodName} {cc : ByteArray} {mx : Nat} {d : Nat} {av : List Value} {M : Mem} {r : Int32} {M' : Mem} (hy : plainName y.cls = true) (hn : (lg_sl av).length ≤ mx)
    (body : ∀ (p : Program) (e : Env) (s : State) (m : MethodId) (args : Array Value) (below : List Frame) (meth : Method) (c : Code) (Q : State → Prop), p.tables.exec = Jvm.exec → c.code = cc → c.maxLocals = mx → s.vm.findClass y.cls = some m.cls → (∀ w ∈ gw, w.before args s = true) → Kn G t s → Ws G t M s s.heap [] → (∀ (H : Heap) (locs : List Loc) (pc : Nat) (ls : Array Slot), (r = 0 ∨ r = 1) → Ws G t M' s H locs → decode cc pc = .ok (.ireturn, 1) → Wx p l e d s m args below meth c Q H locs pc ls [.int r]) → ∀ ls : Array Slot, lv_has ls mx (lv_args 0 av) → Wx p l e d s m args below meth c Q s.heap [] 0 ls []) :
    CMi l G t y cc mx (some .boolean) d av M r M' := by
  refine Met.ofW (cc := cc) (maxL := mx) (ret := some .boolean) hy rfl ?_
  intro p e s m args below meth c s₁ B hml hv
  obtain ⟨rfl, hP, hK⟩ := hv
  have hts := atoms_spec (ws := wsM y cc mx (some .boolean)) B.pre
  have hr := B.returns
  have hlocks := B.notSynchronized
  have hl := lv_entry av (n := mx) hn
  rw [lg_entry_eq]
  exact body p e s m _ below meth c _ B.exec B.bytes hml (findClass_of_methodNamed B.named) (fun w hw => hts w (List.mem_cons_of_mem _ hw)) hK ⟨hP, va_S.rf⟩ (fun H locs pc ls h01 hW hdg => W.zret (v := r) B.exec B.bytes hr (by rcases h01 with h | h <;> rw [h] <;> rfl) (fun u hu _ => ⟨⟨r, (), rfl, rfl, by show va_P _ _ _ u.heap; rw [hu]; exact hW.1⟩, hW.2.F hu⟩) hW.2.2.2 hdg hlocks) _ hl
theorem CMl.of {l : Launch} {G : GT} {t : Bool} {y : MethodName} {cc : ByteArray} {mx : Nat} {d : Nat} {av : List Value} {M : Mem} {r : Int64} {M' : Mem} (hy : plainName y.cls = true) (hn : (lg_sl av).length ≤ mx)
    (body : ∀ (p : Program) (e : Env) (s : State) (m : MethodId) (args : Array Value) (below : List Frame) (meth : Method) (c : Code) (Q : State → Prop), p.tables.exec = Jvm.exec → c.code = cc → c.maxLocals = mx → s.vm.findClass y.cls = some m.cls → (∀ w ∈ gw, w.before args s = true) → Kn G t s → Ws G t M s s.heap [] → (∀ (H : Heap) (locs : List Loc) (pc : Nat) (ls : Array Slot), Ws G t M' s H locs → decode cc pc = .ok (.lreturn, 1) → Wx p l e d s m args below meth c Q H locs pc ls [.long r]) → ∀ ls : Array Slot, lv_has ls mx (lv_args 0 av) → Wx p l e d s m args below meth c Q s.heap [] 0 ls []) :
    CMl l G t y cc mx (some .long) d av M r M' := by
  refine Met.ofW (cc := cc) (maxL := mx) (ret := some .long) hy rfl ?_
  intro p e s m args below meth c s₁ B hml hv
  obtain ⟨rfl, hP, hK⟩ := hv
  have hts := atoms_spec (ws := wsM y cc mx (some .long)) B.pre
  have hr := B.returns
  have hlocks := B.notSynchronized
  have hl := lv_entry av (n := mx) hn
  rw [lg_entry_eq]
  exact body p e s m _ below meth c _ B.exec B.bytes hml (findClass_of_methodNamed B.named) (fun w hw => hts w (List.mem_cons_of_mem _ hw)) hK ⟨hP, va_S.rf⟩ (fun H locs pc ls hW hdg => W.lret (v := r) B.exec B.bytes hr (fun u hu _ => ⟨⟨r, (), rfl, rfl, by show va_P _ _ _ u.heap; rw [hu]; exact hW.1⟩, hW.2.F hu⟩) hW.2.2.2 hdg hlocks) _ hl
theorem CMv.of {l : Launch} {G : GT} {t : Bool} {y : MethodName} {cc : ByteArray} {mx : Nat} {d : Nat} {av : List Value} {M M' : Mem} (hy : plainName y.cls = true) (hn : (lg_sl av).length ≤ mx)
    (body : ∀ (p : Program) (e : Env) (s : State) (m : MethodId) (args : Array Value) (below : List Frame) (meth : Method) (c : Code) (Q : State → Prop), p.tables.exec = Jvm.exec → c.code = cc → c.maxLocals = mx → s.vm.findClass y.cls = some m.cls → (∀ w ∈ gw, w.before args s = true) → Kn G t s → Ws G t M s s.heap [] → (∀ (H : Heap) (locs : List Loc) (pc : Nat) (ls : Array Slot), Ws G t M' s H locs → decode cc pc = .ok (.return_, 1) → Wx p l e d s m args below meth c Q H locs pc ls []) → ∀ ls : Array Slot, lv_has ls mx (lv_args 0 av) → Wx p l e d s m args below meth c Q s.heap [] 0 ls []) :
    CMv l G t y cc mx none d av M M' := by
  refine Met.ofW (cc := cc) (maxL := mx) (ret := none) hy rfl ?_
  intro p e s m args below meth c s₁ B hml hv
  obtain ⟨rfl, hP, hK⟩ := hv
  have hts := atoms_spec (ws := wsM y cc mx none) B.pre
  have hr := B.returns
  have hlocks := B.notSynchronized
  have hl := lv_entry av (n := mx) hn
  rw [lg_entry_eq]
  exact body p e s m _ below meth c _ B.exec B.bytes hml (findClass_of_methodNamed B.named) (fun w hw => hts w (List.mem_cons_of_mem _ hw)) hK ⟨hP, va_S.rf⟩ (fun H locs pc ls hW hdg => W.vret B.exec B.bytes hr (fun u hu _ => ⟨⟨(), rfl, trivial, by show va_P _ _ _ u.heap; rw [hu]; exact hW.1⟩, hW.2.F hu⟩) hW.2.2.2 hdg hlocks) _ hl
theorem CMr.of {l : Launch} {G : GT} {t : Bool} {y : MethodName} {cc : ByteArray} {mx : Nat} {d : Nat} {av : List Value} {M : Mem} {r : Nat} {M' : Mem} {C : String} (hy : plainName y.cls = true) (hn : (lg_sl av).length ≤ mx)
    (body : ∀ (p : Program) (e : Env) (s : State) (m : MethodId) (args : Array Value) (below : List Frame) (meth : Method) (c : Code) (Q : State → Prop), p.tables.exec = Jvm.exec → c.code = cc → c.maxLocals = mx → s.vm.findClass y.cls = some m.cls → (∀ w ∈ gw, w.before args s = true) → Kn G t s → Ws G t M s s.heap [] → (∀ (H : Heap) (locs : List Loc) (pc : Nat) (ls : Array Slot), Ws G t M' s H locs → decode cc pc = .ok (.areturn, 1) → Wx p l e d s m args below meth c Q H locs pc ls [.ref (ad G r)]) → ∀ ls : Array Slot, lv_has ls mx (lv_args 0 av) → Wx p l e d s m args below meth c Q s.heap [] 0 ls []) :
    CMr l G t y cc mx (some (.object C)) d av M r M' := by
  refine Met.ofW (cc := cc) (maxL := mx) (ret := some (.object C)) hy rfl ?_
  intro p e s m args below meth c s₁ B hml hv
  obtain ⟨rfl, hP, hK⟩ := hv
  have hts := atoms_spec (ws := wsM y cc mx (some (.object C))) B.pre
  have hr := B.returns
  have hlocks := B.notSynchronized
  have hl := lv_entry av (n := mx) hn
  rw [lg_entry_eq]
  exact body p e s m _ below meth c _ B.exec B.bytes hml (findClass_of_methodNamed B.named) (fun w hw => hts w (List.mem_cons_of_mem _ hw)) hK ⟨hP, va_S.rf⟩ (fun H locs pc ls hW hdg => W.aret (v := .ref (ad G r)) B.exec B.bytes hr (Or.inl ⟨_, rfl⟩) (Or.inr ⟨_, rfl⟩) (fun u hu _ => ⟨⟨(), ad G r, rfl, trivial, rfl, by show va_P _ _ _ u.heap; rw [hu]; exact hW.1⟩, hW.2.F hu⟩) hW.2.2.2 hdg hlocks) _ hl
end
section
section CALLS
variable {p : Program} {l : Launch} {e : Env} {s : State} {m : MethodId} {args : Array Value} {below : List Frame} {meth : Method} {c : Code} {H : Heap} {locs : List Loc} {Q : State → Prop}
variable {cc : ByteArray} {pc nL : Nat} {ls : Array Slot} {rest st As : List Value} {G : GT} {t : Bool} {M M' : Mem} {d d' : Nat} {own host C : String} {y : MethodName} {bytes : ByteArray} {mx n idx : Nat} {ret : Option FieldType} {Qc : Array Value → State → Outcome → State → Prop}
theorem rn_S (w1 : Cond.methodLink own idx y ∈ gw) (w2 : Cond.static y ∈ gw) (w3 : Cond.initialized y.cls ∈ gw) (w4 : Cond.code y bytes mx ret ∈ gw) (hd : y.cls ≠ "java/lang/invoke/MethodHandle" ∧ y.cls ≠ "java/lang/invoke/VarHandle" ∧ (parseMethodDescriptor y.desc).map (fun d => d.parameters.length) = some n) (hmx : mx ≤ 21)
    (hx : p.tables.exec = Jvm.exec) (hb : c.code = cc) (hml : c.maxLocals = nL) (hown : s.vm.findClass own = some m.cls) (hg : ∀ w ∈ gw, w.before args s = true) (hK : Kn G t s) (hW : Ws G t M s H locs)
    (hM : Met l y (wsM y bytes mx ret) (rmD d') (PreM G t As M) Qc 0 0 (Aw G t)) (hdd : d' < d) (hn : As.length = n) (hsz : ls.size = nL) (hst : st = As.reverse ++ rest) (hrm : (rest.map fun v => v.category).sum ≤ 8) (hdg : decode cc pc = .ok (.invokestatic idx, 3)) :
    va_Run p l e (rmD d) s m args below meth c H locs 0 0 0 0 (F0 m pc ls st) rest (Qc As.toArray) (Aw G t) :=
  va_runS (Ts := gw) (own := own) ⟨hx, hb, hml, hown, hg⟩ hM ⟨callB_of n hg (goodIn_wsM w4) rfl rfl rfl (hg _ w3) (hg _ w1) hd ⟨hdd, by show 8 + (mx + 11) + 40 * d' ≤ 40 * d; omega⟩, hg _ w2⟩ ⟨PreM.blind, fun U hU hWm => ⟨rfl, by rw [hU]; exact hW.1, hK.move hW.2 hU hWm⟩⟩ rfl hn hsz hst (lv_room hrm) hdg ⟨Nat.le_refl 0, Nat.le_refl 0⟩
theorem rn_SN (w1 : Cond.methodLinkNest own idx y host ∈ nstW) (w2 : Cond.static y ∈ gw) (w3 : Cond.initialized y.cls ∈ gw) (w4 : Cond.code y bytes mx ret ∈ gw) (hd : y.cls ≠ "java/lang/invoke/MethodHandle" ∧ y.cls ≠ "java/lang/invoke/VarHandle" ∧ (parseMethodDescriptor y.desc).map (fun d => d.parameters.length) = some n) (hmx : mx ≤ 21)
    (hx : p.tables.exec = Jvm.exec) (hb : c.code = cc) (hml : c.maxLocals = nL) (hown : s.vm.findClass own = some m.cls) (hg : ∀ w ∈ gw, w.before args s = true) (hK : Kn G t s) (hW : Ws G t M s H locs)
    (hM : Met l y (wsM y bytes mx ret) (rmD d') (PreM G t As M) Qc 0 0 (Aw G t)) (hdd : d' < d) (hn : As.length = n) (hsz : ls.size = nL) (hst : st = As.reverse ++ rest) (hrm : (rest.map fun v => v.category).sum ≤ 8) (hdg : decode cc pc = .ok (.invokestatic idx, 3)) :
    va_Run p l e (rmD d) s m args below meth c H locs 0 0 0 0 (F0 m pc ls st) rest (Qc As.toArray) (Aw G t) :=
  va_runSN (Ts := gw) (own := own) (host := host) ⟨hx, hb, hml, hown, hg⟩ hM ⟨va_cnB n hg (goodIn_wsM w4) rfl rfl rfl (hK.2.1 _ w1) (hg _ w3) hd ⟨hdd, by show 8 + (mx + 11) + 40 * d' ≤ 40 * d; omega⟩, hg _ w2, trivial⟩ ⟨PreM.blind, fun U hU hWm => ⟨rfl, by rw [hU]; exact hW.1, hK.move hW.2 hU hWm⟩⟩ rfl hn hsz hst (lv_room hrm) hdg ⟨Nat.le_refl 0, Nat.le_refl 0⟩
theorem rn_V {k ci N : Nat} {T : u_T} {fs : List Value} (w1 : Cond.methodLink own idx y ∈ gw) (w2 : Cond.instanceMethod y ∈ gw) (w5 : Cond.selects C y y ∈ gw) (w3 : Cond.initialized y.cls ∈ gw) (w4 : Cond.code y bytes mx ret ∈ gw) (hd : y.cls ≠ "java/lang/invoke/MethodHandle" ∧ y.cls ≠ "java/lang/invoke/VarHandle" ∧ (parseMethodDescriptor y.desc).map (fun d => d.parameters.length) = some n) (hmx : mx ≤ 21) (hc : cl8[ci]? = some (C, T, N)) (hk : inW t k) (hsh : shp G k (M.1 k) (M.2 k) = .inr (ci, fs))
    (hx : p.tables.exec = Jvm.exec) (hb : c.code = cc) (hml : c.maxLocals = nL) (hown : s.vm.findClass own = some m.cls) (hg : ∀ w ∈ gw, w.before args s = true) (hK : Kn G t s) (hW : Ws G t M s H locs)
    (hM : Met l y (wsM y bytes mx ret) (rmD d') (PreM G t (.ref (ad G k) :: As) M) Qc 0 0 (Aw G t)) (hdd : d' < d) (hn : As.length = n) (hsz : ls.size = nL) (hst : st = As.reverse ++ .ref (ad G k) :: rest) (hrm : (rest.map fun v => v.category).sum ≤ 8) (hdg : decode cc pc = .ok (.invokevirtual idx, 3)) :
    va_Run p l e (rmD d) s m args below meth c H locs 0 0 0 0 (F0 m pc ls st) rest (Qc (Value.ref (ad G k) :: As).toArray) (Aw G t) :=
  va_runV (Ts := gw) (own := own) (C := C) ⟨hx, hb, hml, hown, hg⟩ hM ⟨callB_of n hg (goodIn_wsM w4) rfl rfl rfl (hg _ w3) (hg _ w1) hd ⟨hdd, by show 8 + (mx + 11) + 40 * d' ≤ 40 * d; omega⟩, hg _ w2, hg _ w5⟩ ⟨PreM.blind, va_recv hK.1 hW.1 hc (q0 := k - lo t) (fs := fs) (by rw [wl_at hk, hsh]), fun U hU hWm => ⟨rfl, by rw [hU]; exact hW.1, hK.move hW.2 hU hWm⟩⟩ rfl hn hsz hst (lv_room hrm) hdg ⟨Nat.le_refl 0, Nat.le_refl 0⟩
theorem rn_VN {k ci N : Nat} {T : u_T} {fs : List Value} (w1 : Cond.methodLinkNest own idx y host ∈ nstW) (w2 : Cond.instanceMethod y ∈ gw) (w5 : Cond.selects C y y ∈ gw) (w3 : Cond.initialized y.cls ∈ gw) (w4 : Cond.code y bytes mx ret ∈ gw) (hd : y.cls ≠ "java/lang/invoke/MethodHandle" ∧ y.cls ≠ "java/lang/invoke/VarHandle" ∧ (parseMethodDescriptor y.desc).map (fun d => d.parameters.length) = some n) (hmx : mx ≤ 21) (hc : cl8[ci]? = some (C, T, N)) (hk : inW t k) (hsh : shp G k (M.1 k) (M.2 k) = .inr (ci, fs))
    (hx : p.tables.exec = Jvm.exec) (hb : c.code = cc) (hml : c.maxLocals = nL) (hown : s.vm.findClass own = some m.cls) (hg : ∀ w ∈ gw, w.before args s = true) (hK : Kn G t s) (hW : Ws G t M s H locs)
    (hM : Met l y (wsM y bytes mx ret) (rmD d') (PreM G t (.ref (ad G k) :: As) M) Qc 0 0 (Aw G t)) (hdd : d' < d) (hn : As.length = n) (hsz : ls.size = nL) (hst : st = As.reverse ++ .ref (ad G k) :: rest) (hrm : (rest.map fun v => v.category).sum ≤ 8) (hdg : decode cc pc = .ok (.invokevirtual idx, 3)) :
    va_Run p l e (rmD d) s m args below meth c H locs 0 0 0 0 (F0 m pc ls st) rest (Qc (Value.ref (ad G k) :: As).toArray) (Aw G t) :=
  va_runVN (Ts := gw) (own := own) (C := C) (host := host) ⟨hx, hb, hml, hown, hg⟩ hM ⟨va_cnB n hg (goodIn_wsM w4) rfl rfl rfl (hK.2.1 _ w1) (hg _ w3) hd ⟨hdd, by show 8 + (mx + 11) + 40 * d' ≤ 40 * d; omega⟩, hg _ w2, hg _ w5⟩ ⟨PreM.blind, va_recv hK.1 hW.1 hc (q0 := k - lo t) (fs := fs) (by rw [wl_at hk, hsh]), fun U hU hWm => ⟨rfl, by rw [hU]; exact hW.1, hK.move hW.2 hU hWm⟩⟩ rfl hn hsz hst (lv_room hrm) hdg ⟨Nat.le_refl 0, Nat.le_refl 0⟩
variable {a : Array Value}
theorem cl_i {r : Int32} (hr : va_Run p l e (rmD d) s m args below meth c H locs 0 0 0 0 (F0 m pc ls st) rest (PstI G t r M' a) (Aw G t)) (hW : Ws G t M s H locs) (kk : ∀ (H1 : Heap) (locs1 : List Loc), Ws G t M' s H1 locs1 → Wx p l e d s m args below meth c Q H1 locs1 (pc + 3) ls (.int r :: rest)) : Wx p l e d s m args below meth c Q H locs pc ls st :=
  va_calli hr hW.2 (fun _ _ h => h) (fun _ h => h) (fun r1 u t1 H1 locs1 ht _ hp hB _ _ hS => by
    subst hp
    exact kk H1 locs1 ⟨by rw [← ht]; exact hB, hS⟩)
theorem cl_l {r : Int64} (hr : va_Run p l e (rmD d) s m args below meth c H locs 0 0 0 0 (F0 m pc ls st) rest (PstL G t r M' a) (Aw G t)) (hW : Ws G t M s H locs) (kk : ∀ (H1 : Heap) (locs1 : List Loc), Ws G t M' s H1 locs1 → Wx p l e d s m args below meth c Q H1 locs1 (pc + 3) ls (.long r :: rest)) : Wx p l e d s m args below meth c Q H locs pc ls st :=
  va_calll hr hW.2 (fun _ _ h => h) (fun _ h => h) (fun r1 u t1 H1 locs1 ht _ hp hB _ _ hS => by
    subst hp
    exact kk H1 locs1 ⟨by rw [← ht]; exact hB, hS⟩)
theorem cl_v (hr : va_Run p l e (rmD d) s m args below meth c H locs 0 0 0 0 (F0 m pc ls st) rest (PstV G t M' a) (Aw G t)) (hW : Ws G t M s H locs) (kk : ∀ (H1 : Heap) (locs1 : List Loc), Ws G t M' s H1 locs1 → Wx p l e d s m args below meth c Q H1 locs1 (pc + 3) ls rest) : Wx p l e d s m args below meth c Q H locs pc ls st :=
  va_callv hr hW.2 (fun _ _ h => h) (fun _ h => h) (fun u t1 H1 locs1 ht _ _ hB _ _ hS => kk H1 locs1 ⟨by rw [← ht]; exact hB, hS⟩)
theorem cl_r {r : Nat} (hr : va_Run p l e (rmD d) s m args below meth c H locs 0 0 0 0 (F0 m pc ls st) rest (PstR G t r M' a) (Aw G t)) (hW : Ws G t M s H locs) (kk : ∀ (H1 : Heap) (locs1 : List Loc), Ws G t M' s H1 locs1 → Wx p l e d s m args below meth c Q H1 locs1 (pc + 3) ls (.ref (ad G r) :: rest)) : Wx p l e d s m args below meth c Q H locs pc ls st :=
  va_callr hr hW.2 (fun _ _ h => h) (fun _ h => h) (fun u ra t1 H1 locs1 ht _ _ hB _ _ hS => by
    obtain ⟨e1, hB⟩ := hB
    subst e1
    exact kk H1 locs1 ⟨by rw [← ht]; exact hB, hS⟩)
theorem nm_i {x x0 : Int32} {pc : Nat} (h : x = x0) (k : Wx p l e d s m args below meth c Q H locs pc ls (.int x :: rest)) : Wx p l e d s m args below meth c Q H locs pc ls (.int x0 :: rest) := h ▸ k
theorem nm_l {x x0 : Int64} {pc : Nat} (h : x = x0) (k : Wx p l e d s m args below meth c Q H locs pc ls (.long x :: rest)) : Wx p l e d s m args below meth c Q H locs pc ls (.long x0 :: rest) := h ▸ k
theorem mx_i {x y0 : Int32} (w1 : Cond.methodLink own idx Lib.Math.max.name ∈ gw) (w2 : Cond.static Lib.Math.max.name ∈ gw) (w3 : Cond.initialized "java/lang/Math" ∈ gw) (w4 : Cond.code Lib.Math.max.name Lib.Math.max.code 2 (some .int) ∈ gw) (hx : p.tables.exec = Jvm.exec) (hb : c.code = cc) (hml : c.maxLocals = nL) (hown : s.vm.findClass own = some m.cls) (hg : ∀ w ∈ gw, w.before args s = true) (hsz : ls.size = nL) (hd : 0 < d) (hrm : (rest.map fun v => v.category).sum ≤ 8) (hdg : decode cc pc = .ok (.invokestatic idx, 3)) (kk : Wx p l e d s m args below meth c Q H locs (pc + 3) ls (.int (if x < y0 then y0 else x) :: rest)) : Wx p l e d s m args below meth c Q H locs pc ls (.int y0 :: .int x :: rest) :=
  va_mmax (R := rmD d) hx hb (hml.trans hsz.symm) hown (hg _ w1) (hg _ w2) (hg _ w3) (hg _ w4) hd (by show _ + 13 ≤ 40 * d; omega) (Nat.le_refl 0) (Nat.le_refl 0) hdg kk
theorem mn_i {x y0 : Int32} (w1 : Cond.methodLink own idx Lib.Math.min.name ∈ gw) (w2 : Cond.static Lib.Math.min.name ∈ gw) (w3 : Cond.initialized "java/lang/Math" ∈ gw) (w4 : Cond.code Lib.Math.min.name Lib.Math.min.code 2 (some .int) ∈ gw) (hx : p.tables.exec = Jvm.exec) (hb : c.code = cc) (hml : c.maxLocals = nL) (hown : s.vm.findClass own = some m.cls) (hg : ∀ w ∈ gw, w.before args s = true) (hsz : ls.size = nL) (hd : 0 < d) (hrm : (rest.map fun v => v.category).sum ≤ 8) (hdg : decode cc pc = .ok (.invokestatic idx, 3)) (kk : Wx p l e d s m args below meth c Q H locs (pc + 3) ls (.int (if y0 < x then y0 else x) :: rest)) : Wx p l e d s m args below meth c Q H locs pc ls (.int y0 :: .int x :: rest) :=
  va_mmin (R := rmD d) hx hb (hml.trans hsz.symm) hown (hg _ w1) (hg _ w2) (hg _ w3) (hg _ w4) hd (by show _ + 13 ≤ 40 * d; omega) (Nat.le_refl 0) (Nat.le_refl 0) hdg kk
theorem ab_i {x : Int32} (w1 : Cond.methodLink own idx Lib.Math.abs.name ∈ gw) (w2 : Cond.static Lib.Math.abs.name ∈ gw) (w3 : Cond.initialized "java/lang/Math" ∈ gw) (w4 : Cond.code Lib.Math.abs.name Lib.Math.abs.code 1 (some .int) ∈ gw) (hx : p.tables.exec = Jvm.exec) (hb : c.code = cc) (hml : c.maxLocals = nL) (hown : s.vm.findClass own = some m.cls) (hg : ∀ w ∈ gw, w.before args s = true) (hsz : ls.size = nL) (hd : 0 < d) (hrm : (rest.map fun v => v.category).sum ≤ 8) (hdg : decode cc pc = .ok (.invokestatic idx, 3)) (kk : Wx p l e d s m args below meth c Q H locs (pc + 3) ls (.int (if 0 ≤ x then x else 0 - x) :: rest)) : Wx p l e d s m args below meth c Q H locs pc ls (.int x :: rest) :=
  va_mabs (R := rmD d) hx hb (hml.trans hsz.symm) hown (hg _ w1) (hg _ w2) (hg _ w3) (hg _ w4) hd (by show _ + 13 ≤ 40 * d; omega) (Nat.le_refl 0) (Nat.le_refl 0) hdg kk
end CALLS
/-! the words in which the methods are told again -/
def lq {α β : Type} (e : α) (f : α → β) : β := f e
theorem lq_s {α β : Type} {e : α} {f : α → β} {r : β} (h : lq e f = r) : ∃ x, x = e ∧ f x = r := ⟨e, rfl, h⟩
theorem ite_t {c : Prop} [Decidable c] {α : Type} {a b r : α} (h : (if c then a else b) = r) (hc : c) : a = r := by rw [if_pos hc] at h; exact h
theorem ite_f {c : Prop} [Decidable c] {α : Type} {a b r : α} (h : (if c then a else b) = r) (hc : ¬ c) : b = r := by rw [if_neg hc] at h; exact h
def ob {α β : Type} (x : Option α) (f : α → Option β) : Option β := x.bind f
theorem ob_s {α β : Type} {x : Option α} {f : α → Option β} {r : β} (h : ob x f = some r) : ∃ a, x = some a ∧ f a = some r := by
  cases x with
  | none => cases h
  | some a => exact ⟨a, rfl, h⟩
def ob2 {α β γ : Type} (x : Option (α × β)) (f : α → β → Option γ) : Option γ := x.bind (fun y => f y.1 y.2)
theorem ob2_s {α β γ : Type} {x : Option (α × β)} {f : α → β → Option γ} {r : γ} (h : ob2 x f = some r) : ∃ a b, x = some (a, b) ∧ f a b = some r := by
  cases x with
  | none => cases h
  | some y => exact ⟨y.1, y.2, rfl, h⟩
def ob3 {α β γ δ : Type} (x : Option (α × β × γ)) (f : α → β → γ → Option δ) : Option δ := x.bind (fun y => f y.1 y.2.1 y.2.2)
theorem ob3_s {α β γ δ : Type} {x : Option (α × β × γ)} {f : α → β → γ → Option δ} {r : δ} (h : ob3 x f = some r) : ∃ a b c, x = some (a, b, c) ∧ f a b c = some r := by
  cases x with
  | none => cases h
  | some y => exact ⟨y.1, y.2.1, y.2.2, rfl, h⟩
def ob4 {α β γ δ ε : Type} (x : Option (α × β × γ × δ)) (f : α → β → γ → δ → Option ε) : Option ε := x.bind (fun y => f y.1 y.2.1 y.2.2.1 y.2.2.2)
theorem ob4_s {α β γ δ ε : Type} {x : Option (α × β × γ × δ)} {f : α → β → γ → δ → Option ε} {r : ε} (h : ob4 x f = some r) : ∃ a b c d, x = some (a, b, c, d) ∧ f a b c d = some r := by
  cases x with
  | none => cases h
  | some y => exact ⟨y.1, y.2.1, y.2.2.1, y.2.2.2, rfl, h⟩
def ob5 {α β γ δ ε ζ : Type} (x : Option (α × β × γ × δ × ε)) (f : α → β → γ → δ → ε → Option ζ) : Option ζ := x.bind (fun y => f y.1 y.2.1 y.2.2.1 y.2.2.2.1 y.2.2.2.2)
theorem ob5_s {α β γ δ ε ζ : Type} {x : Option (α × β × γ × δ × ε)} {f : α → β → γ → δ → ε → Option ζ} {r : ζ} (h : ob5 x f = some r) : ∃ a b c d e, x = some (a, b, c, d, e) ∧ f a b c d e = some r := by
  cases x with
  | none => cases h
  | some y => exact ⟨y.1, y.2.1, y.2.2.1, y.2.2.2.1, y.2.2.2.2, rfl, h⟩
def oeT {σ ρ : Type} (x : Option (σ ⊕ ρ)) (f : σ → Option ρ) : Option ρ := match x with
  | none => none
  | some (.inl y) => f y
  | some (.inr r) => some r
theorem oeT_s {σ ρ : Type} {x : Option (σ ⊕ ρ)} {f : σ → Option ρ} {res : ρ} (h : oeT x f = some res) : ∃ z, x = some z ∧ (∀ y, z = .inl y → f y = some res) ∧ (∀ r, z = .inr r → some r = some res) := by
  cases x with
  | none => cases h
  | some z =>
    refine ⟨z, rfl, fun y e => ?_, fun r e => ?_⟩
    · subst e; exact h
    · subst e; exact h
def oeI {σ τ ρ : Type} (x : Option (σ ⊕ ρ)) (f : σ → Option (τ ⊕ ρ)) : Option (τ ⊕ ρ) := match x with
  | none => none
  | some (.inl y) => f y
  | some (.inr r) => some (.inr r)
theorem oeI_s {σ τ ρ : Type} {x : Option (σ ⊕ ρ)} {f : σ → Option (τ ⊕ ρ)} {res : τ ⊕ ρ} (h : oeI x f = some res) : ∃ z, x = some z ∧ (∀ y, z = .inl y → f y = some res) ∧ (∀ r, z = .inr r → some (.inr r) = some res) := by
  cases x with
  | none => cases h
  | some z =>
    refine ⟨z, rfl, fun y e => ?_, fun r e => ?_⟩
    · subst e; exact h
    · subst e; exact h
def rd (M : Mem) (a : Nat) (i : Int32) : Option Int32 := if i < 0 ∨ ln a ≤ i.toNatClampNeg then none else some (M.1 a i.toNatClampNeg)
theorem rd_s {M : Mem} {a : Nat} {i v : Int32} (h : rd M a i = some v) : vp_in i (ln a) ∧ v = M.1 a i.toNatClampNeg := by
  unfold rd at h
  by_cases hc : i < 0 ∨ ln a ≤ i.toNatClampNeg
  · rw [if_pos hc] at h; cases h
  · rw [if_neg hc] at h; cases h; exact ⟨hc, rfl⟩
def wr (M : Mem) (a : Nat) (i v : Int32) : Option Mem := if i < 0 ∨ ln a ≤ i.toNatClampNeg then none else some (s1 M a i.toNatClampNeg v)
theorem wr_s {M M' : Mem} {a : Nat} {i v : Int32} (h : wr M a i v = some M') : vp_in i (ln a) ∧ M' = s1 M a i.toNatClampNeg v := by
  unfold wr at h
  by_cases hc : i < 0 ∨ ln a ≤ i.toNatClampNeg
  · rw [if_pos hc] at h; cases h
  · rw [if_neg hc] at h; cases h; exact ⟨hc, rfl⟩
def rdP (k : Nat) (i : Int32) : Option Nat := if i < 0 ∨ 8 ≤ i.toNatClampNeg then none else some (k + 1 + 3 * i.toNatClampNeg)
theorem rdP_s {k q : Nat} {i : Int32} (h : rdP k i = some q) : vp_in i 8 ∧ q = k + 1 + 3 * i.toNatClampNeg := by
  unfold rdP at h
  by_cases hc : i < 0 ∨ 8 ≤ i.toNatClampNeg
  · rw [if_pos hc] at h; cases h
  · rw [if_neg hc] at h; cases h; exact ⟨hc, rfl⟩
def dvI (x y : Int32) : Option Int32 := if y = 0 then none else some (x / y)
theorem dvI_s {x y v : Int32} (h : dvI x y = some v) : ¬ y = 0 ∧ v = x / y := by
  unfold dvI at h
  by_cases hc : y = 0
  · rw [if_pos hc] at h; cases h
  · rw [if_neg hc] at h; cases h; exact ⟨hc, rfl⟩
def rmI (x y : Int32) : Option Int32 := if y = 0 then none else some (x - x / y * y)
theorem rmI_s {x y v : Int32} (h : rmI x y = some v) : ¬ y = 0 ∧ v = x - x / y * y := by
  unfold rmI at h
  by_cases hc : y = 0
  · rw [if_pos hc] at h; cases h
  · rw [if_neg hc] at h; cases h; exact ⟨hc, rfl⟩
def dvL (x y : Int64) : Option Int64 := if y = 0 then none else some (x / y)
theorem dvL_s {x y v : Int64} (h : dvL x y = some v) : ¬ y = 0 ∧ v = x / y := by
  unfold dvL at h
  by_cases hc : y = 0
  · rw [if_pos hc] at h; cases h
  · rw [if_neg hc] at h; cases h; exact ⟨hc, rfl⟩
def rmL (x y : Int64) : Option Int64 := if y = 0 then none else some (x - x / y * y)
theorem rmL_s {x y v : Int64} (h : rmL x y = some v) : ¬ y = 0 ∧ v = x - x / y * y := by
  unfold rmL at h
  by_cases hc : y = 0
  · rw [if_pos hc] at h; cases h
  · rw [if_neg hc] at h; cases h; exact ⟨hc, rfl⟩
def FU : Nat := 4000
/-! kinds that follow from kinds -/
theorem f0_1 : ∀ k : Nat, k < 185 → kd k = 0 → kd (k + 1) = 8 := by decide +kernel
theorem k0_1 {k : Nat} (h : kd k = 0) : kd (k + 1) = 8 := f0_1 k (kd_lt h (by decide)) h
theorem f0_2 : ∀ k : Nat, k < 185 → kd k = 0 → kd (k + 2) = 8 := by decide +kernel
theorem k0_2 {k : Nat} (h : kd k = 0) : kd (k + 2) = 8 := f0_2 k (kd_lt h (by decide)) h
theorem f1_1 : ∀ k : Nat, k < 185 → kd k = 1 → kd (k + 1) = 8 := by decide +kernel
theorem k1_1 {k : Nat} (h : kd k = 1) : kd (k + 1) = 8 := f1_1 k (kd_lt h (by decide)) h
theorem f1_2 : ∀ k : Nat, k < 185 → kd k = 1 → kd (k + 2) = 8 := by decide +kernel
theorem k1_2 {k : Nat} (h : kd k = 1) : kd (k + 2) = 8 := f1_2 k (kd_lt h (by decide)) h
theorem f3_1 : ∀ k : Nat, k < 185 → kd k = 3 → kd (k + 1) = 8 := by decide +kernel
theorem k3_1 {k : Nat} (h : kd k = 3) : kd (k + 1) = 8 := f3_1 k (kd_lt h (by decide)) h
theorem f4_1 : ∀ k : Nat, k < 185 → kd k = 4 → kd (k + 1) = 8 := by decide +kernel
theorem k4_1 {k : Nat} (h : kd k = 4) : kd (k + 1) = 8 := f4_1 k (kd_lt h (by decide)) h
theorem f5_1 : ∀ k : Nat, k < 185 → kd k = 5 → kd (k + 1) = 8 := by decide +kernel
theorem k5_1 {k : Nat} (h : kd k = 5) : kd (k + 1) = 8 := f5_1 k (kd_lt h (by decide)) h
theorem f2_1 : ∀ k : Nat, k < 185 → kd k = 2 → kd (k + 1) = 8 := by decide +kernel
theorem k2_1 {k : Nat} (h : kd k = 2) : kd (k + 1) = 8 := f2_1 k (kd_lt h (by decide)) h
theorem f2_2 : ∀ k : Nat, k < 185 → kd k = 2 → kd (k + 2) = 8 := by decide +kernel
theorem k2_2 {k : Nat} (h : kd k = 2) : kd (k + 2) = 8 := f2_2 k (kd_lt h (by decide)) h
theorem f2_3 : ∀ k : Nat, k < 185 → kd k = 2 → kd (k + 3) = 8 := by decide +kernel
theorem k2_3 {k : Nat} (h : kd k = 2) : kd (k + 3) = 8 := f2_3 k (kd_lt h (by decide)) h
theorem f2_4 : ∀ k : Nat, k < 185 → kd k = 2 → kd (k + 4) = 8 := by decide +kernel
theorem k2_4 {k : Nat} (h : kd k = 2) : kd (k + 4) = 8 := f2_4 k (kd_lt h (by decide)) h
theorem f2_5 : ∀ k : Nat, k < 185 → kd k = 2 → kd (k + 5) = 1 := by decide +kernel
theorem k2_5 {k : Nat} (h : kd k = 2) : kd (k + 5) = 1 := f2_5 k (kd_lt h (by decide)) h
theorem f2_8 : ∀ k : Nat, k < 185 → kd k = 2 → kd (k + 8) = 9 := by decide +kernel
theorem k2_8 {k : Nat} (h : kd k = 2) : kd (k + 8) = 9 := f2_8 k (kd_lt h (by decide)) h
theorem f2_33 : ∀ k : Nat, k < 185 → kd k = 2 → kd (k + 33) = 8 := by decide +kernel
theorem k2_33 {k : Nat} (h : kd k = 2) : kd (k + 33) = 8 := f2_33 k (kd_lt h (by decide)) h
theorem f2_34 : ∀ k : Nat, k < 185 → kd k = 2 → kd (k + 34) = 8 := by decide +kernel
theorem k2_34 {k : Nat} (h : kd k = 2) : kd (k + 34) = 8 := f2_34 k (kd_lt h (by decide)) h
theorem f2_35 : ∀ k : Nat, k < 185 → kd k = 2 → kd (k + 35) = 5 := by decide +kernel
theorem k2_35 {k : Nat} (h : kd k = 2) : kd (k + 35) = 5 := f2_35 k (kd_lt h (by decide)) h
theorem f2_37 : ∀ k : Nat, k < 185 → kd k = 2 → kd (k + 37) = 5 := by decide +kernel
theorem k2_37 {k : Nat} (h : kd k = 2) : kd (k + 37) = 5 := f2_37 k (kd_lt h (by decide)) h
theorem f2_39 : ∀ k : Nat, k < 185 → kd k = 2 → kd (k + 39) = 5 := by decide +kernel
theorem k2_39 {k : Nat} (h : kd k = 2) : kd (k + 39) = 5 := f2_39 k (kd_lt h (by decide)) h
theorem f9_p : ∀ k : Nat, k < 185 → kd k = 9 → ∀ n : Nat, n < 8 → kd (k + 1 + 3 * n) = 1 := by decide +kernel
theorem k9_p {k q : Nat} {i : Int32} (h : kd k = 9) (hi : vp_in i 8) (hq : q = k + 1 + 3 * i.toNatClampNeg) : kd q = 1 := by
  rw [hq]
  exact f9_p k (kd_lt h (by decide)) h _ (Nat.not_le.mp fun z => hi (Or.inr z))
theorem kd_0 : kd 0 = 6 := by decide +kernel
theorem kd_1 : kd 1 = 2 := by decide +kernel
theorem kd_42 : kd 42 = 2 := by decide +kernel
theorem kd_83 : kd 83 = 2 := by decide +kernel
theorem kd_124 : kd 124 = 2 := by decide +kernel
theorem kd_165 : kd 165 = 3 := by decide +kernel
theorem kd_167 : kd 167 = 4 := by decide +kernel
theorem kd_169 : kd 169 = 0 := by decide +kernel
theorem kd_172 : kd 172 = 1 := by decide +kernel
theorem kd_175 : kd 175 = 8 := by decide +kernel
theorem kd_176 : kd 176 = 7 := by decide +kernel
theorem kd_177 : kd 177 = 10 := by decide +kernel
theorem kd_178 : kd 178 = 10 := by decide +kernel
theorem kd_179 : kd 179 = 10 := by decide +kernel
theorem kd_180 : kd 180 = 10 := by decide +kernel
theorem kd_181 : kd 181 = 10 := by decide +kernel
theorem kd_182 : kd 182 = 10 := by decide +kernel
theorem kd_183 : kd 183 = 10 := by decide +kernel
theorem kd_184 : kd 184 = 10 := by decide +kernel
end

section
/-- a private method of a class that the tables say can be made, by its rows of tables_1 -/
def lw_okq (q : MethodName × Nat) : Prop := (q.1.cls ≠ "java/lang/invoke/MethodHandle" ∧ q.1.cls ≠ "java/lang/invoke/VarHandle") ∧ Cond.instantiable q.1.cls q.2 ∈ tables_1 ∧ Cond.privateMethod q.1 ∈ tables_1 ∧ Cond.instanceMethod q.1 ∈ tables_1
theorem lw_p0 : lw_okq (⟨"ApronDesk", "refuse", "(I)I"⟩, 10) := ⟨⟨by decide +kernel, by decide +kernel⟩, List.mem_of_getElem? (i := 12) (by decide +kernel), List.mem_of_getElem? (i := 277) (by decide +kernel), List.mem_of_getElem? (i := 278) (by decide +kernel)⟩
theorem lw_p1 : lw_okq (⟨"ApronDesk$Ground", "addStand", "(II)I"⟩, 12) := ⟨⟨by decide +kernel, by decide +kernel⟩, List.mem_of_getElem? (i := 20) (by decide +kernel), List.mem_of_getElem? (i := 281) (by decide +kernel), List.mem_of_getElem? (i := 282) (by decide +kernel)⟩
theorem lw_p2 : lw_okq (⟨"ApronDesk", "grant", "(I)I"⟩, 10) := ⟨⟨by decide +kernel, by decide +kernel⟩, List.mem_of_getElem? (i := 12) (by decide +kernel), List.mem_of_getElem? (i := 285) (by decide +kernel), List.mem_of_getElem? (i := 286) (by decide +kernel)⟩
theorem lw_p3 : lw_okq (⟨"ApronDesk$Ground", "hasStand", "(I)Z"⟩, 12) := ⟨⟨by decide +kernel, by decide +kernel⟩, List.mem_of_getElem? (i := 20) (by decide +kernel), List.mem_of_getElem? (i := 293) (by decide +kernel), List.mem_of_getElem? (i := 294) (by decide +kernel)⟩
theorem lw_p4 : lw_okq (⟨"ApronDesk$Ground", "addPair", "(IIII)I"⟩, 12) := ⟨⟨by decide +kernel, by decide +kernel⟩, List.mem_of_getElem? (i := 20) (by decide +kernel), List.mem_of_getElem? (i := 301) (by decide +kernel), List.mem_of_getElem? (i := 302) (by decide +kernel)⟩
theorem lw_p5 : lw_okq (⟨"ApronDesk$Ground", "addCone", "(III)I"⟩, 12) := ⟨⟨by decide +kernel, by decide +kernel⟩, List.mem_of_getElem? (i := 20) (by decide +kernel), List.mem_of_getElem? (i := 312) (by decide +kernel), List.mem_of_getElem? (i := 313) (by decide +kernel)⟩
theorem lw_p6 : lw_okq (⟨"ApronDesk", "deny", "(I)Z"⟩, 10) := ⟨⟨by decide +kernel, by decide +kernel⟩, List.mem_of_getElem? (i := 12) (by decide +kernel), List.mem_of_getElem? (i := 320) (by decide +kernel), List.mem_of_getElem? (i := 321) (by decide +kernel)⟩
theorem lw_p7 : lw_okq (⟨"ApronDesk", "allow", "()Z"⟩, 10) := ⟨⟨by decide +kernel, by decide +kernel⟩, List.mem_of_getElem? (i := 12) (by decide +kernel), List.mem_of_getElem? (i := 324) (by decide +kernel), List.mem_of_getElem? (i := 325) (by decide +kernel)⟩
theorem lw_p8 : lw_okq (⟨"ApronDesk$Visits", "add", "(IIIII)I"⟩, 8) := ⟨⟨by decide +kernel, by decide +kernel⟩, List.mem_of_getElem? (i := 73) (by decide +kernel), List.mem_of_getElem? (i := 332) (by decide +kernel), List.mem_of_getElem? (i := 333) (by decide +kernel)⟩
theorem lw_p9 : lw_okq (⟨"ApronDesk$Visits", "has", "(I)Z"⟩, 8) := ⟨⟨by decide +kernel, by decide +kernel⟩, List.mem_of_getElem? (i := 73) (by decide +kernel), List.mem_of_getElem? (i := 340) (by decide +kernel), List.mem_of_getElem? (i := 341) (by decide +kernel)⟩
theorem lw_p10 : lw_okq (⟨"ApronDesk$Visits", "isPut", "(I)Z"⟩, 8) := ⟨⟨by decide +kernel, by decide +kernel⟩, List.mem_of_getElem? (i := 73) (by decide +kernel), List.mem_of_getElem? (i := 344) (by decide +kernel), List.mem_of_getElem? (i := 345) (by decide +kernel)⟩
theorem lw_p11 : lw_okq (⟨"ApronDesk", "faultOfPutting", "(II)I"⟩, 10) := ⟨⟨by decide +kernel, by decide +kernel⟩, List.mem_of_getElem? (i := 12) (by decide +kernel), List.mem_of_getElem? (i := 356) (by decide +kernel), List.mem_of_getElem? (i := 357) (by decide +kernel)⟩
theorem lw_p12 : lw_okq (⟨"ApronDesk", "faultOfLooking", "(II)I"⟩, 10) := ⟨⟨by decide +kernel, by decide +kernel⟩, List.mem_of_getElem? (i := 12) (by decide +kernel), List.mem_of_getElem? (i := 360) (by decide +kernel), List.mem_of_getElem? (i := 361) (by decide +kernel)⟩
theorem lw_p13 : lw_okq (⟨"ApronDesk$Visits", "isUnknown", "(I)Z"⟩, 8) := ⟨⟨by decide +kernel, by decide +kernel⟩, List.mem_of_getElem? (i := 73) (by decide +kernel), List.mem_of_getElem? (i := 364) (by decide +kernel), List.mem_of_getElem? (i := 365) (by decide +kernel)⟩
theorem lw_p14 : lw_okq (⟨"ApronDesk$Visits", "hasBegun", "(I)Z"⟩, 8) := ⟨⟨by decide +kernel, by decide +kernel⟩, List.mem_of_getElem? (i := 73) (by decide +kernel), List.mem_of_getElem? (i := 368) (by decide +kernel), List.mem_of_getElem? (i := 369) (by decide +kernel)⟩
theorem lw_p15 : lw_okq (⟨"ApronDesk$Visits", "inOf", "(I)I"⟩, 8) := ⟨⟨by decide +kernel, by decide +kernel⟩, List.mem_of_getElem? (i := 73) (by decide +kernel), List.mem_of_getElem? (i := 373) (by decide +kernel), List.mem_of_getElem? (i := 374) (by decide +kernel)⟩
def lw_privs_1 : List (MethodName × Nat) := [(⟨"ApronDesk", "refuse", "(I)I"⟩, 10), (⟨"ApronDesk$Ground", "addStand", "(II)I"⟩, 12), (⟨"ApronDesk", "grant", "(I)I"⟩, 10), (⟨"ApronDesk$Ground", "hasStand", "(I)Z"⟩, 12), (⟨"ApronDesk$Ground", "addPair", "(IIII)I"⟩, 12), (⟨"ApronDesk$Ground", "addCone", "(III)I"⟩, 12), (⟨"ApronDesk", "deny", "(I)Z"⟩, 10), (⟨"ApronDesk", "allow", "()Z"⟩, 10), (⟨"ApronDesk$Visits", "add", "(IIIII)I"⟩, 8), (⟨"ApronDesk$Visits", "has", "(I)Z"⟩, 8), (⟨"ApronDesk$Visits", "isPut", "(I)Z"⟩, 8), (⟨"ApronDesk", "faultOfPutting", "(II)I"⟩, 10), (⟨"ApronDesk", "faultOfLooking", "(II)I"⟩, 10), (⟨"ApronDesk$Visits", "isUnknown", "(I)Z"⟩, 8), (⟨"ApronDesk$Visits", "hasBegun", "(I)Z"⟩, 8), (⟨"ApronDesk$Visits", "inOf", "(I)I"⟩, 8)]
theorem lw_r1 : ∀ q ∈ lw_privs_1, lw_okq q := List.forall_mem_cons.mpr ⟨lw_p0, List.forall_mem_cons.mpr ⟨lw_p1, List.forall_mem_cons.mpr ⟨lw_p2, List.forall_mem_cons.mpr ⟨lw_p3, List.forall_mem_cons.mpr ⟨lw_p4, List.forall_mem_cons.mpr ⟨lw_p5, List.forall_mem_cons.mpr ⟨lw_p6, List.forall_mem_cons.mpr ⟨lw_p7, List.forall_mem_cons.mpr ⟨lw_p8, List.forall_mem_cons.mpr ⟨lw_p9, List.forall_mem_cons.mpr ⟨lw_p10, List.forall_mem_cons.mpr ⟨lw_p11, List.forall_mem_cons.mpr ⟨lw_p12, List.forall_mem_cons.mpr ⟨lw_p13, List.forall_mem_cons.mpr ⟨lw_p14, List.forall_mem_cons.mpr ⟨lw_p15, fun _ h => absurd h List.not_mem_nil⟩⟩⟩⟩⟩⟩⟩⟩⟩⟩⟩⟩⟩⟩⟩⟩
theorem lw_p16 : lw_okq (⟨"ApronDesk$Visits", "outOf", "(I)I"⟩, 8) := ⟨⟨by decide +kernel, by decide +kernel⟩, List.mem_of_getElem? (i := 73) (by decide +kernel), List.mem_of_getElem? (i := 378) (by decide +kernel), List.mem_of_getElem? (i := 379) (by decide +kernel)⟩
theorem lw_p17 : lw_okq (⟨"ApronDesk", "isHindered", "(IIII)Z"⟩, 10) := ⟨⟨by decide +kernel, by decide +kernel⟩, List.mem_of_getElem? (i := 12) (by decide +kernel), List.mem_of_getElem? (i := 382) (by decide +kernel), List.mem_of_getElem? (i := 383) (by decide +kernel)⟩
theorem lw_p18 : lw_okq (⟨"ApronDesk$Judge", "regard", "(I)V"⟩, 8) := ⟨⟨by decide +kernel, by decide +kernel⟩, List.mem_of_getElem? (i := 114) (by decide +kernel), List.mem_of_getElem? (i := 386) (by decide +kernel), List.mem_of_getElem? (i := 387) (by decide +kernel)⟩
theorem lw_p19 : lw_okq (⟨"ApronDesk$Visits", "kindOf", "(I)I"⟩, 8) := ⟨⟨by decide +kernel, by decide +kernel⟩, List.mem_of_getElem? (i := 73) (by decide +kernel), List.mem_of_getElem? (i := 390) (by decide +kernel), List.mem_of_getElem? (i := 391) (by decide +kernel)⟩
theorem lw_p20 : lw_okq (⟨"ApronDesk$Visits", "wingOf", "(I)I"⟩, 8) := ⟨⟨by decide +kernel, by decide +kernel⟩, List.mem_of_getElem? (i := 73) (by decide +kernel), List.mem_of_getElem? (i := 394) (by decide +kernel), List.mem_of_getElem? (i := 395) (by decide +kernel)⟩
theorem lw_p21 : lw_okq (⟨"ApronDesk$Visits", "needOf", "(I)I"⟩, 8) := ⟨⟨by decide +kernel, by decide +kernel⟩, List.mem_of_getElem? (i := 73) (by decide +kernel), List.mem_of_getElem? (i := 398) (by decide +kernel), List.mem_of_getElem? (i := 399) (by decide +kernel)⟩
theorem lw_p22 : lw_okq (⟨"ApronDesk$Judge", "against", "(III)I"⟩, 8) := ⟨⟨by decide +kernel, by decide +kernel⟩, List.mem_of_getElem? (i := 114) (by decide +kernel), List.mem_of_getElem? (i := 402) (by decide +kernel), List.mem_of_getElem? (i := 403) (by decide +kernel)⟩
theorem lw_p23 : lw_okq (⟨"ApronDesk$Judge", "isUnfit", "(III)Z"⟩, 8) := ⟨⟨by decide +kernel, by decide +kernel⟩, List.mem_of_getElem? (i := 114) (by decide +kernel), List.mem_of_getElem? (i := 406) (by decide +kernel), List.mem_of_getElem? (i := 407) (by decide +kernel)⟩
theorem lw_p24 : lw_okq (⟨"ApronDesk$Ground", "hasGate", "(I)Z"⟩, 12) := ⟨⟨by decide +kernel, by decide +kernel⟩, List.mem_of_getElem? (i := 20) (by decide +kernel), List.mem_of_getElem? (i := 410) (by decide +kernel), List.mem_of_getElem? (i := 411) (by decide +kernel)⟩
theorem lw_p25 : lw_okq (⟨"ApronDesk$Judge", "firstNeighbour", "(III)I"⟩, 8) := ⟨⟨by decide +kernel, by decide +kernel⟩, List.mem_of_getElem? (i := 114) (by decide +kernel), List.mem_of_getElem? (i := 417) (by decide +kernel), List.mem_of_getElem? (i := 418) (by decide +kernel)⟩
theorem lw_p26 : lw_okq (⟨"ApronDesk$Judge", "isOther", "(I)Z"⟩, 8) := ⟨⟨by decide +kernel, by decide +kernel⟩, List.mem_of_getElem? (i := 114) (by decide +kernel), List.mem_of_getElem? (i := 421) (by decide +kernel), List.mem_of_getElem? (i := 422) (by decide +kernel)⟩
theorem lw_p27 : lw_okq (⟨"ApronDesk$Judge", "isNeighbour", "(IIII)Z"⟩, 8) := ⟨⟨by decide +kernel, by decide +kernel⟩, List.mem_of_getElem? (i := 114) (by decide +kernel), List.mem_of_getElem? (i := 425) (by decide +kernel), List.mem_of_getElem? (i := 426) (by decide +kernel)⟩
theorem lw_p28 : lw_okq (⟨"ApronDesk$Visits", "fromOf", "(II)I"⟩, 8) := ⟨⟨by decide +kernel, by decide +kernel⟩, List.mem_of_getElem? (i := 73) (by decide +kernel), List.mem_of_getElem? (i := 429) (by decide +kernel), List.mem_of_getElem? (i := 430) (by decide +kernel)⟩
theorem lw_p29 : lw_okq (⟨"ApronDesk$Visits", "endOf", "(II)I"⟩, 8) := ⟨⟨by decide +kernel, by decide +kernel⟩, List.mem_of_getElem? (i := 73) (by decide +kernel), List.mem_of_getElem? (i := 433) (by decide +kernel), List.mem_of_getElem? (i := 434) (by decide +kernel)⟩
theorem lw_p30 : lw_okq (⟨"ApronDesk$Visits", "standOf", "(II)I"⟩, 8) := ⟨⟨by decide +kernel, by decide +kernel⟩, List.mem_of_getElem? (i := 73) (by decide +kernel), List.mem_of_getElem? (i := 437) (by decide +kernel), List.mem_of_getElem? (i := 438) (by decide +kernel)⟩
theorem lw_p31 : lw_okq (⟨"ApronDesk$Ground", "areTooNear", "(IIII)Z"⟩, 12) := ⟨⟨by decide +kernel, by decide +kernel⟩, List.mem_of_getElem? (i := 20) (by decide +kernel), List.mem_of_getElem? (i := 441) (by decide +kernel), List.mem_of_getElem? (i := 442) (by decide +kernel)⟩
def lw_privs_2 : List (MethodName × Nat) := [(⟨"ApronDesk$Visits", "outOf", "(I)I"⟩, 8), (⟨"ApronDesk", "isHindered", "(IIII)Z"⟩, 10), (⟨"ApronDesk$Judge", "regard", "(I)V"⟩, 8), (⟨"ApronDesk$Visits", "kindOf", "(I)I"⟩, 8), (⟨"ApronDesk$Visits", "wingOf", "(I)I"⟩, 8), (⟨"ApronDesk$Visits", "needOf", "(I)I"⟩, 8), (⟨"ApronDesk$Judge", "against", "(III)I"⟩, 8), (⟨"ApronDesk$Judge", "isUnfit", "(III)Z"⟩, 8), (⟨"ApronDesk$Ground", "hasGate", "(I)Z"⟩, 12), (⟨"ApronDesk$Judge", "firstNeighbour", "(III)I"⟩, 8), (⟨"ApronDesk$Judge", "isOther", "(I)Z"⟩, 8), (⟨"ApronDesk$Judge", "isNeighbour", "(IIII)Z"⟩, 8), (⟨"ApronDesk$Visits", "fromOf", "(II)I"⟩, 8), (⟨"ApronDesk$Visits", "endOf", "(II)I"⟩, 8), (⟨"ApronDesk$Visits", "standOf", "(II)I"⟩, 8), (⟨"ApronDesk$Ground", "areTooNear", "(IIII)Z"⟩, 12)]
theorem lw_r2 : ∀ q ∈ lw_privs_2, lw_okq q := List.forall_mem_cons.mpr ⟨lw_p16, List.forall_mem_cons.mpr ⟨lw_p17, List.forall_mem_cons.mpr ⟨lw_p18, List.forall_mem_cons.mpr ⟨lw_p19, List.forall_mem_cons.mpr ⟨lw_p20, List.forall_mem_cons.mpr ⟨lw_p21, List.forall_mem_cons.mpr ⟨lw_p22, List.forall_mem_cons.mpr ⟨lw_p23, List.forall_mem_cons.mpr ⟨lw_p24, List.forall_mem_cons.mpr ⟨lw_p25, List.forall_mem_cons.mpr ⟨lw_p26, List.forall_mem_cons.mpr ⟨lw_p27, List.forall_mem_cons.mpr ⟨lw_p28, List.forall_mem_cons.mpr ⟨lw_p29, List.forall_mem_cons.mpr ⟨lw_p30, List.forall_mem_cons.mpr ⟨lw_p31, fun _ h => absurd h List.not_mem_nil⟩⟩⟩⟩⟩⟩⟩⟩⟩⟩⟩⟩⟩⟩⟩⟩
theorem lw_p32 : lw_okq (⟨"ApronDesk$Ground", "firstCone", "(III)I"⟩, 12) := ⟨⟨by decide +kernel, by decide +kernel⟩, List.mem_of_getElem? (i := 20) (by decide +kernel), List.mem_of_getElem? (i := 445) (by decide +kernel), List.mem_of_getElem? (i := 446) (by decide +kernel)⟩
theorem lw_p33 : lw_okq (⟨"ApronDesk$Judge", "firstTaker", "(III)I"⟩, 8) := ⟨⟨by decide +kernel, by decide +kernel⟩, List.mem_of_getElem? (i := 114) (by decide +kernel), List.mem_of_getElem? (i := 450) (by decide +kernel), List.mem_of_getElem? (i := 451) (by decide +kernel)⟩
theorem lw_p34 : lw_okq (⟨"ApronDesk$Visits", "isStayAt", "(IIIII)Z"⟩, 8) := ⟨⟨by decide +kernel, by decide +kernel⟩, List.mem_of_getElem? (i := 73) (by decide +kernel), List.mem_of_getElem? (i := 454) (by decide +kernel), List.mem_of_getElem? (i := 455) (by decide +kernel)⟩
theorem lw_p35 : lw_okq (⟨"ApronDesk$Judge", "mayShare", "(II)Z"⟩, 8) := ⟨⟨by decide +kernel, by decide +kernel⟩, List.mem_of_getElem? (i := 114) (by decide +kernel), List.mem_of_getElem? (i := 458) (by decide +kernel), List.mem_of_getElem? (i := 459) (by decide +kernel)⟩
theorem lw_p36 : lw_okq (⟨"ApronDesk$Ground", "halfOf", "(I)I"⟩, 12) := ⟨⟨by decide +kernel, by decide +kernel⟩, List.mem_of_getElem? (i := 20) (by decide +kernel), List.mem_of_getElem? (i := 462) (by decide +kernel), List.mem_of_getElem? (i := 463) (by decide +kernel)⟩
theorem lw_p37 : lw_okq (⟨"ApronDesk$Judge", "isThirdThere", "(IIII)Z"⟩, 8) := ⟨⟨by decide +kernel, by decide +kernel⟩, List.mem_of_getElem? (i := 114) (by decide +kernel), List.mem_of_getElem? (i := 466) (by decide +kernel), List.mem_of_getElem? (i := 467) (by decide +kernel)⟩
theorem lw_p38 : lw_okq (⟨"ApronDesk", "keepReason", "(I)V"⟩, 10) := ⟨⟨by decide +kernel, by decide +kernel⟩, List.mem_of_getElem? (i := 12) (by decide +kernel), List.mem_of_getElem? (i := 476) (by decide +kernel), List.mem_of_getElem? (i := 477) (by decide +kernel)⟩
theorem lw_p39 : lw_okq (⟨"ApronDesk$Visits", "place", "(III)Z"⟩, 8) := ⟨⟨by decide +kernel, by decide +kernel⟩, List.mem_of_getElem? (i := 73) (by decide +kernel), List.mem_of_getElem? (i := 480) (by decide +kernel), List.mem_of_getElem? (i := 481) (by decide +kernel)⟩
theorem lw_p40 : lw_okq (⟨"ApronDesk$Visits", "addStay", "(III)V"⟩, 8) := ⟨⟨by decide +kernel, by decide +kernel⟩, List.mem_of_getElem? (i := 73) (by decide +kernel), List.mem_of_getElem? (i := 484) (by decide +kernel), List.mem_of_getElem? (i := 485) (by decide +kernel)⟩
theorem lw_p41 : lw_okq (⟨"ApronDesk$Visits", "takeOff", "(I)V"⟩, 8) := ⟨⟨by decide +kernel, by decide +kernel⟩, List.mem_of_getElem? (i := 73) (by decide +kernel), List.mem_of_getElem? (i := 497) (by decide +kernel), List.mem_of_getElem? (i := 498) (by decide +kernel)⟩
theorem lw_p42 : lw_okq (⟨"ApronDesk", "faultOfTowing", "(III)I"⟩, 10) := ⟨⟨by decide +kernel, by decide +kernel⟩, List.mem_of_getElem? (i := 12) (by decide +kernel), List.mem_of_getElem? (i := 505) (by decide +kernel), List.mem_of_getElem? (i := 506) (by decide +kernel)⟩
theorem lw_p43 : lw_okq (⟨"ApronDesk$Visits", "endLastStay", "(II)V"⟩, 8) := ⟨⟨by decide +kernel, by decide +kernel⟩, List.mem_of_getElem? (i := 73) (by decide +kernel), List.mem_of_getElem? (i := 511) (by decide +kernel), List.mem_of_getElem? (i := 512) (by decide +kernel)⟩
theorem lw_p44 : lw_okq (⟨"ApronDesk$Line", "empty", "()V"⟩, 2) := ⟨⟨by decide +kernel, by decide +kernel⟩, List.mem_of_getElem? (i := 155) (by decide +kernel), List.mem_of_getElem? (i := 520) (by decide +kernel), List.mem_of_getElem? (i := 521) (by decide +kernel)⟩
theorem lw_p45 : lw_okq (⟨"ApronDesk$Visits", "isToCome", "(I)Z"⟩, 8) := ⟨⟨by decide +kernel, by decide +kernel⟩, List.mem_of_getElem? (i := 73) (by decide +kernel), List.mem_of_getElem? (i := 524) (by decide +kernel), List.mem_of_getElem? (i := 525) (by decide +kernel)⟩
theorem lw_p46 : lw_okq (⟨"ApronDesk$Line", "joinByIn", "(ILApronDesk$Visits;)V"⟩, 2) := ⟨⟨by decide +kernel, by decide +kernel⟩, List.mem_of_getElem? (i := 155) (by decide +kernel), List.mem_of_getElem? (i := 530) (by decide +kernel), List.mem_of_getElem? (i := 531) (by decide +kernel)⟩
theorem lw_p47 : lw_okq (⟨"ApronDesk", "serveLine", "()I"⟩, 10) := ⟨⟨by decide +kernel, by decide +kernel⟩, List.mem_of_getElem? (i := 12) (by decide +kernel), List.mem_of_getElem? (i := 535) (by decide +kernel), List.mem_of_getElem? (i := 536) (by decide +kernel)⟩
def lw_privs_3 : List (MethodName × Nat) := [(⟨"ApronDesk$Ground", "firstCone", "(III)I"⟩, 12), (⟨"ApronDesk$Judge", "firstTaker", "(III)I"⟩, 8), (⟨"ApronDesk$Visits", "isStayAt", "(IIIII)Z"⟩, 8), (⟨"ApronDesk$Judge", "mayShare", "(II)Z"⟩, 8), (⟨"ApronDesk$Ground", "halfOf", "(I)I"⟩, 12), (⟨"ApronDesk$Judge", "isThirdThere", "(IIII)Z"⟩, 8), (⟨"ApronDesk", "keepReason", "(I)V"⟩, 10), (⟨"ApronDesk$Visits", "place", "(III)Z"⟩, 8), (⟨"ApronDesk$Visits", "addStay", "(III)V"⟩, 8), (⟨"ApronDesk$Visits", "takeOff", "(I)V"⟩, 8), (⟨"ApronDesk", "faultOfTowing", "(III)I"⟩, 10), (⟨"ApronDesk$Visits", "endLastStay", "(II)V"⟩, 8), (⟨"ApronDesk$Line", "empty", "()V"⟩, 2), (⟨"ApronDesk$Visits", "isToCome", "(I)Z"⟩, 8), (⟨"ApronDesk$Line", "joinByIn", "(ILApronDesk$Visits;)V"⟩, 2), (⟨"ApronDesk", "serveLine", "()I"⟩, 10)]
theorem lw_r3 : ∀ q ∈ lw_privs_3, lw_okq q := List.forall_mem_cons.mpr ⟨lw_p32, List.forall_mem_cons.mpr ⟨lw_p33, List.forall_mem_cons.mpr ⟨lw_p34, List.forall_mem_cons.mpr ⟨lw_p35, List.forall_mem_cons.mpr ⟨lw_p36, List.forall_mem_cons.mpr ⟨lw_p37, List.forall_mem_cons.mpr ⟨lw_p38, List.forall_mem_cons.mpr ⟨lw_p39, List.forall_mem_cons.mpr ⟨lw_p40, List.forall_mem_cons.mpr ⟨lw_p41, List.forall_mem_cons.mpr ⟨lw_p42, List.forall_mem_cons.mpr ⟨lw_p43, List.forall_mem_cons.mpr ⟨lw_p44, List.forall_mem_cons.mpr ⟨lw_p45, List.forall_mem_cons.mpr ⟨lw_p46, List.forall_mem_cons.mpr ⟨lw_p47, fun _ h => absurd h List.not_mem_nil⟩⟩⟩⟩⟩⟩⟩⟩⟩⟩⟩⟩⟩⟩⟩⟩
theorem lw_p48 : lw_okq (⟨"ApronDesk$Judge", "bestStand", "(II)I"⟩, 8) := ⟨⟨by decide +kernel, by decide +kernel⟩, List.mem_of_getElem? (i := 114) (by decide +kernel), List.mem_of_getElem? (i := 540) (by decide +kernel), List.mem_of_getElem? (i := 541) (by decide +kernel)⟩
theorem lw_p49 : lw_okq (⟨"ApronDesk$Searcher", "takeFirst", "()I"⟩, 9) := ⟨⟨by decide +kernel, by decide +kernel⟩, List.mem_of_getElem? (i := 149) (by decide +kernel), List.mem_of_getElem? (i := 555) (by decide +kernel), List.mem_of_getElem? (i := 556) (by decide +kernel)⟩
theorem lw_p50 : lw_okq (⟨"ApronDesk$Searcher", "begin", "()V"⟩, 9) := ⟨⟨by decide +kernel, by decide +kernel⟩, List.mem_of_getElem? (i := 149) (by decide +kernel), List.mem_of_getElem? (i := 559) (by decide +kernel), List.mem_of_getElem? (i := 560) (by decide +kernel)⟩
theorem lw_p51 : lw_okq (⟨"ApronDesk$Line", "join", "(I)V"⟩, 2) := ⟨⟨by decide +kernel, by decide +kernel⟩, List.mem_of_getElem? (i := 155) (by decide +kernel), List.mem_of_getElem? (i := 565) (by decide +kernel), List.mem_of_getElem? (i := 566) (by decide +kernel)⟩
theorem lw_p52 : lw_okq (⟨"ApronDesk$Searcher", "goToNextWhole", "()I"⟩, 9) := ⟨⟨by decide +kernel, by decide +kernel⟩, List.mem_of_getElem? (i := 149) (by decide +kernel), List.mem_of_getElem? (i := 569) (by decide +kernel), List.mem_of_getElem? (i := 570) (by decide +kernel)⟩
theorem lw_p53 : lw_okq (⟨"ApronDesk$Searcher", "takeAllOff", "()V"⟩, 9) := ⟨⟨by decide +kernel, by decide +kernel⟩, List.mem_of_getElem? (i := 149) (by decide +kernel), List.mem_of_getElem? (i := 579) (by decide +kernel), List.mem_of_getElem? (i := 580) (by decide +kernel)⟩
theorem lw_p54 : lw_okq (⟨"ApronDesk$Searcher", "takeBest", "()I"⟩, 9) := ⟨⟨by decide +kernel, by decide +kernel⟩, List.mem_of_getElem? (i := 149) (by decide +kernel), List.mem_of_getElem? (i := 587) (by decide +kernel), List.mem_of_getElem? (i := 588) (by decide +kernel)⟩
theorem lw_p55 : lw_okq (⟨"ApronDesk$Searcher", "keepIfBetter", "()V"⟩, 9) := ⟨⟨by decide +kernel, by decide +kernel⟩, List.mem_of_getElem? (i := 149) (by decide +kernel), List.mem_of_getElem? (i := 591) (by decide +kernel), List.mem_of_getElem? (i := 592) (by decide +kernel)⟩
theorem lw_p56 : lw_okq (⟨"ApronDesk$Searcher", "putBest", "()V"⟩, 9) := ⟨⟨by decide +kernel, by decide +kernel⟩, List.mem_of_getElem? (i := 149) (by decide +kernel), List.mem_of_getElem? (i := 599) (by decide +kernel), List.mem_of_getElem? (i := 600) (by decide +kernel)⟩
theorem lw_p57 : lw_okq (⟨"ApronDesk$Delay", "makeRoom", "(II)I"⟩, 5) := ⟨⟨by decide +kernel, by decide +kernel⟩, List.mem_of_getElem? (i := 204) (by decide +kernel), List.mem_of_getElem? (i := 607) (by decide +kernel), List.mem_of_getElem? (i := 608) (by decide +kernel)⟩
theorem lw_p58 : lw_okq (⟨"ApronDesk$Delay", "canGo", "(I)Z"⟩, 5) := ⟨⟨by decide +kernel, by decide +kernel⟩, List.mem_of_getElem? (i := 204) (by decide +kernel), List.mem_of_getElem? (i := 615) (by decide +kernel), List.mem_of_getElem? (i := 616) (by decide +kernel)⟩
theorem lw_p59 : lw_okq (⟨"ApronDesk$Judge", "sendAway", "(I)V"⟩, 8) := ⟨⟨by decide +kernel, by decide +kernel⟩, List.mem_of_getElem? (i := 114) (by decide +kernel), List.mem_of_getElem? (i := 620) (by decide +kernel), List.mem_of_getElem? (i := 621) (by decide +kernel)⟩
theorem lw_p60 : lw_okq (⟨"ApronDesk$Judge", "callAllBack", "()V"⟩, 8) := ⟨⟨by decide +kernel, by decide +kernel⟩, List.mem_of_getElem? (i := 114) (by decide +kernel), List.mem_of_getElem? (i := 625) (by decide +kernel), List.mem_of_getElem? (i := 626) (by decide +kernel)⟩
theorem lw_p61 : lw_okq (⟨"ApronDesk$Delay", "bend", "(II)I"⟩, 5) := ⟨⟨by decide +kernel, by decide +kernel⟩, List.mem_of_getElem? (i := 204) (by decide +kernel), List.mem_of_getElem? (i := 629) (by decide +kernel), List.mem_of_getElem? (i := 630) (by decide +kernel)⟩
theorem lw_p62 : lw_okq (⟨"ApronDesk$Visits", "makeLate", "(II)V"⟩, 8) := ⟨⟨by decide +kernel, by decide +kernel⟩, List.mem_of_getElem? (i := 73) (by decide +kernel), List.mem_of_getElem? (i := 633) (by decide +kernel), List.mem_of_getElem? (i := 634) (by decide +kernel)⟩
theorem lw_p63 : lw_okq (⟨"ApronDesk$Delay", "takeMoversOff", "()V"⟩, 5) := ⟨⟨by decide +kernel, by decide +kernel⟩, List.mem_of_getElem? (i := 204) (by decide +kernel), List.mem_of_getElem? (i := 638) (by decide +kernel), List.mem_of_getElem? (i := 639) (by decide +kernel)⟩
def lw_privs_4 : List (MethodName × Nat) := [(⟨"ApronDesk$Judge", "bestStand", "(II)I"⟩, 8), (⟨"ApronDesk$Searcher", "takeFirst", "()I"⟩, 9), (⟨"ApronDesk$Searcher", "begin", "()V"⟩, 9), (⟨"ApronDesk$Line", "join", "(I)V"⟩, 2), (⟨"ApronDesk$Searcher", "goToNextWhole", "()I"⟩, 9), (⟨"ApronDesk$Searcher", "takeAllOff", "()V"⟩, 9), (⟨"ApronDesk$Searcher", "takeBest", "()I"⟩, 9), (⟨"ApronDesk$Searcher", "keepIfBetter", "()V"⟩, 9), (⟨"ApronDesk$Searcher", "putBest", "()V"⟩, 9), (⟨"ApronDesk$Delay", "makeRoom", "(II)I"⟩, 5), (⟨"ApronDesk$Delay", "canGo", "(I)Z"⟩, 5), (⟨"ApronDesk$Judge", "sendAway", "(I)V"⟩, 8), (⟨"ApronDesk$Judge", "callAllBack", "()V"⟩, 8), (⟨"ApronDesk$Delay", "bend", "(II)I"⟩, 5), (⟨"ApronDesk$Visits", "makeLate", "(II)V"⟩, 8), (⟨"ApronDesk$Delay", "takeMoversOff", "()V"⟩, 5)]
theorem lw_r4 : ∀ q ∈ lw_privs_4, lw_okq q := List.forall_mem_cons.mpr ⟨lw_p48, List.forall_mem_cons.mpr ⟨lw_p49, List.forall_mem_cons.mpr ⟨lw_p50, List.forall_mem_cons.mpr ⟨lw_p51, List.forall_mem_cons.mpr ⟨lw_p52, List.forall_mem_cons.mpr ⟨lw_p53, List.forall_mem_cons.mpr ⟨lw_p54, List.forall_mem_cons.mpr ⟨lw_p55, List.forall_mem_cons.mpr ⟨lw_p56, List.forall_mem_cons.mpr ⟨lw_p57, List.forall_mem_cons.mpr ⟨lw_p58, List.forall_mem_cons.mpr ⟨lw_p59, List.forall_mem_cons.mpr ⟨lw_p60, List.forall_mem_cons.mpr ⟨lw_p61, List.forall_mem_cons.mpr ⟨lw_p62, List.forall_mem_cons.mpr ⟨lw_p63, fun _ h => absurd h List.not_mem_nil⟩⟩⟩⟩⟩⟩⟩⟩⟩⟩⟩⟩⟩⟩⟩⟩
theorem lw_p64 : lw_okq (⟨"ApronDesk$Line", "memberAt", "(I)I"⟩, 2) := ⟨⟨by decide +kernel, by decide +kernel⟩, List.mem_of_getElem? (i := 155) (by decide +kernel), List.mem_of_getElem? (i := 653) (by decide +kernel), List.mem_of_getElem? (i := 654) (by decide +kernel)⟩
theorem lw_p65 : lw_okq (⟨"ApronDesk$Visits", "isWaiting", "(I)Z"⟩, 8) := ⟨⟨by decide +kernel, by decide +kernel⟩, List.mem_of_getElem? (i := 73) (by decide +kernel), List.mem_of_getElem? (i := 661) (by decide +kernel), List.mem_of_getElem? (i := 662) (by decide +kernel)⟩
theorem lw_p66 : lw_okq (⟨"ApronDesk", "faultOfSwapping", "(II)I"⟩, 10) := ⟨⟨by decide +kernel, by decide +kernel⟩, List.mem_of_getElem? (i := 12) (by decide +kernel), List.mem_of_getElem? (i := 673) (by decide +kernel), List.mem_of_getElem? (i := 674) (by decide +kernel)⟩
theorem lw_p67 : lw_okq (⟨"ApronDesk$Visits", "moveFirstStay", "(II)V"⟩, 8) := ⟨⟨by decide +kernel, by decide +kernel⟩, List.mem_of_getElem? (i := 73) (by decide +kernel), List.mem_of_getElem? (i := 680) (by decide +kernel), List.mem_of_getElem? (i := 681) (by decide +kernel)⟩
theorem lw_p68 : lw_okq (⟨"ApronDesk$Visits", "isThere", "(IIII)Z"⟩, 8) := ⟨⟨by decide +kernel, by decide +kernel⟩, List.mem_of_getElem? (i := 73) (by decide +kernel), List.mem_of_getElem? (i := 696) (by decide +kernel), List.mem_of_getElem? (i := 697) (by decide +kernel)⟩
theorem lw_p69 : lw_okq (⟨"ApronDesk$Judge", "regardPlane", "(I)V"⟩, 8) := ⟨⟨by decide +kernel, by decide +kernel⟩, List.mem_of_getElem? (i := 114) (by decide +kernel), List.mem_of_getElem? (i := 706) (by decide +kernel), List.mem_of_getElem? (i := 707) (by decide +kernel)⟩
theorem lw_p70 : lw_okq (⟨"ApronDeskModel", "refuse", "(I)I"⟩, 35) := ⟨⟨by decide +kernel, by decide +kernel⟩, List.mem_of_getElem? (i := 710) (by decide +kernel), List.mem_of_getElem? (i := 834) (by decide +kernel), List.mem_of_getElem? (i := 835) (by decide +kernel)⟩
theorem lw_p71 : lw_okq (⟨"ApronDeskModel", "gives", "(I)I"⟩, 35) := ⟨⟨by decide +kernel, by decide +kernel⟩, List.mem_of_getElem? (i := 710) (by decide +kernel), List.mem_of_getElem? (i := 838) (by decide +kernel), List.mem_of_getElem? (i := 839) (by decide +kernel)⟩
theorem lw_p72 : lw_okq (⟨"ApronDeskModel", "isStand", "(I)Z"⟩, 35) := ⟨⟨by decide +kernel, by decide +kernel⟩, List.mem_of_getElem? (i := 710) (by decide +kernel), List.mem_of_getElem? (i := 846) (by decide +kernel), List.mem_of_getElem? (i := 847) (by decide +kernel)⟩
theorem lw_p73 : lw_okq (⟨"ApronDeskModel", "isVisit", "(I)Z"⟩, 35) := ⟨⟨by decide +kernel, by decide +kernel⟩, List.mem_of_getElem? (i := 710) (by decide +kernel), List.mem_of_getElem? (i := 873) (by decide +kernel), List.mem_of_getElem? (i := 874) (by decide +kernel)⟩
theorem lw_p74 : lw_okq (⟨"ApronDeskModel", "isPut", "(I)Z"⟩, 35) := ⟨⟨by decide +kernel, by decide +kernel⟩, List.mem_of_getElem? (i := 710) (by decide +kernel), List.mem_of_getElem? (i := 877) (by decide +kernel), List.mem_of_getElem? (i := 878) (by decide +kernel)⟩
theorem lw_p75 : lw_okq (⟨"ApronDeskModel", "isUnknown", "(I)Z"⟩, 35) := ⟨⟨by decide +kernel, by decide +kernel⟩, List.mem_of_getElem? (i := 710) (by decide +kernel), List.mem_of_getElem? (i := 889) (by decide +kernel), List.mem_of_getElem? (i := 890) (by decide +kernel)⟩
theorem lw_p76 : lw_okq (⟨"ApronDeskModel", "hasBegun", "(I)Z"⟩, 35) := ⟨⟨by decide +kernel, by decide +kernel⟩, List.mem_of_getElem? (i := 710) (by decide +kernel), List.mem_of_getElem? (i := 893) (by decide +kernel), List.mem_of_getElem? (i := 894) (by decide +kernel)⟩
theorem lw_p77 : lw_okq (⟨"ApronDeskModel", "inOf", "(I)I"⟩, 35) := ⟨⟨by decide +kernel, by decide +kernel⟩, List.mem_of_getElem? (i := 710) (by decide +kernel), List.mem_of_getElem? (i := 897) (by decide +kernel), List.mem_of_getElem? (i := 898) (by decide +kernel)⟩
theorem lw_p78 : lw_okq (⟨"ApronDeskModel", "outOf", "(I)I"⟩, 35) := ⟨⟨by decide +kernel, by decide +kernel⟩, List.mem_of_getElem? (i := 710) (by decide +kernel), List.mem_of_getElem? (i := 901) (by decide +kernel), List.mem_of_getElem? (i := 902) (by decide +kernel)⟩
theorem lw_p79 : lw_okq (⟨"ApronDeskModel", "againstOf", "(IIII)I"⟩, 35) := ⟨⟨by decide +kernel, by decide +kernel⟩, List.mem_of_getElem? (i := 710) (by decide +kernel), List.mem_of_getElem? (i := 905) (by decide +kernel), List.mem_of_getElem? (i := 906) (by decide +kernel)⟩
def lw_privs_5 : List (MethodName × Nat) := [(⟨"ApronDesk$Line", "memberAt", "(I)I"⟩, 2), (⟨"ApronDesk$Visits", "isWaiting", "(I)Z"⟩, 8), (⟨"ApronDesk", "faultOfSwapping", "(II)I"⟩, 10), (⟨"ApronDesk$Visits", "moveFirstStay", "(II)V"⟩, 8), (⟨"ApronDesk$Visits", "isThere", "(IIII)Z"⟩, 8), (⟨"ApronDesk$Judge", "regardPlane", "(I)V"⟩, 8), (⟨"ApronDeskModel", "refuse", "(I)I"⟩, 35), (⟨"ApronDeskModel", "gives", "(I)I"⟩, 35), (⟨"ApronDeskModel", "isStand", "(I)Z"⟩, 35), (⟨"ApronDeskModel", "isVisit", "(I)Z"⟩, 35), (⟨"ApronDeskModel", "isPut", "(I)Z"⟩, 35), (⟨"ApronDeskModel", "isUnknown", "(I)Z"⟩, 35), (⟨"ApronDeskModel", "hasBegun", "(I)Z"⟩, 35), (⟨"ApronDeskModel", "inOf", "(I)I"⟩, 35), (⟨"ApronDeskModel", "outOf", "(I)I"⟩, 35), (⟨"ApronDeskModel", "againstOf", "(IIII)I"⟩, 35)]
theorem lw_r5 : ∀ q ∈ lw_privs_5, lw_okq q := List.forall_mem_cons.mpr ⟨lw_p64, List.forall_mem_cons.mpr ⟨lw_p65, List.forall_mem_cons.mpr ⟨lw_p66, List.forall_mem_cons.mpr ⟨lw_p67, List.forall_mem_cons.mpr ⟨lw_p68, List.forall_mem_cons.mpr ⟨lw_p69, List.forall_mem_cons.mpr ⟨lw_p70, List.forall_mem_cons.mpr ⟨lw_p71, List.forall_mem_cons.mpr ⟨lw_p72, List.forall_mem_cons.mpr ⟨lw_p73, List.forall_mem_cons.mpr ⟨lw_p74, List.forall_mem_cons.mpr ⟨lw_p75, List.forall_mem_cons.mpr ⟨lw_p76, List.forall_mem_cons.mpr ⟨lw_p77, List.forall_mem_cons.mpr ⟨lw_p78, List.forall_mem_cons.mpr ⟨lw_p79, fun _ h => absurd h List.not_mem_nil⟩⟩⟩⟩⟩⟩⟩⟩⟩⟩⟩⟩⟩⟩⟩⟩
theorem lw_p80 : lw_okq (⟨"ApronDeskModel", "kindOf", "(I)I"⟩, 35) := ⟨⟨by decide +kernel, by decide +kernel⟩, List.mem_of_getElem? (i := 710) (by decide +kernel), List.mem_of_getElem? (i := 909) (by decide +kernel), List.mem_of_getElem? (i := 910) (by decide +kernel)⟩
theorem lw_p81 : lw_okq (⟨"ApronDeskModel", "wingOf", "(I)I"⟩, 35) := ⟨⟨by decide +kernel, by decide +kernel⟩, List.mem_of_getElem? (i := 710) (by decide +kernel), List.mem_of_getElem? (i := 913) (by decide +kernel), List.mem_of_getElem? (i := 914) (by decide +kernel)⟩
theorem lw_p82 : lw_okq (⟨"ApronDeskModel", "needOf", "(I)I"⟩, 35) := ⟨⟨by decide +kernel, by decide +kernel⟩, List.mem_of_getElem? (i := 710) (by decide +kernel), List.mem_of_getElem? (i := 917) (by decide +kernel), List.mem_of_getElem? (i := 918) (by decide +kernel)⟩
theorem lw_p83 : lw_okq (⟨"ApronDeskModel", "against", "(IIIIIII)I"⟩, 35) := ⟨⟨by decide +kernel, by decide +kernel⟩, List.mem_of_getElem? (i := 710) (by decide +kernel), List.mem_of_getElem? (i := 921) (by decide +kernel), List.mem_of_getElem? (i := 922) (by decide +kernel)⟩
theorem lw_p84 : lw_okq (⟨"ApronDeskModel", "isNeighbour", "(IIIII)Z"⟩, 35) := ⟨⟨by decide +kernel, by decide +kernel⟩, List.mem_of_getElem? (i := 710) (by decide +kernel), List.mem_of_getElem? (i := 930) (by decide +kernel), List.mem_of_getElem? (i := 931) (by decide +kernel)⟩
theorem lw_p85 : lw_okq (⟨"ApronDeskModel", "takes", "(IIIIII)Z"⟩, 35) := ⟨⟨by decide +kernel, by decide +kernel⟩, List.mem_of_getElem? (i := 710) (by decide +kernel), List.mem_of_getElem? (i := 934) (by decide +kernel), List.mem_of_getElem? (i := 935) (by decide +kernel)⟩
theorem lw_p86 : lw_okq (⟨"ApronDeskModel", "isThird", "(IIIII)Z"⟩, 35) := ⟨⟨by decide +kernel, by decide +kernel⟩, List.mem_of_getElem? (i := 710) (by decide +kernel), List.mem_of_getElem? (i := 938) (by decide +kernel), List.mem_of_getElem? (i := 939) (by decide +kernel)⟩
theorem lw_p87 : lw_okq (⟨"ApronDeskModel", "isAgainst", "(I)Z"⟩, 35) := ⟨⟨by decide +kernel, by decide +kernel⟩, List.mem_of_getElem? (i := 710) (by decide +kernel), List.mem_of_getElem? (i := 942) (by decide +kernel), List.mem_of_getElem? (i := 943) (by decide +kernel)⟩
theorem lw_p88 : lw_okq (⟨"ApronDeskModel", "sets", "(IIII)V"⟩, 35) := ⟨⟨by decide +kernel, by decide +kernel⟩, List.mem_of_getElem? (i := 710) (by decide +kernel), List.mem_of_getElem? (i := 946) (by decide +kernel), List.mem_of_getElem? (i := 947) (by decide +kernel)⟩
theorem lw_p89 : lw_okq (⟨"ApronDeskModel", "isPlanned", "(I)Z"⟩, 35) := ⟨⟨by decide +kernel, by decide +kernel⟩, List.mem_of_getElem? (i := 710) (by decide +kernel), List.mem_of_getElem? (i := 970) (by decide +kernel), List.mem_of_getElem? (i := 971) (by decide +kernel)⟩
theorem lw_p90 : lw_okq (⟨"ApronDeskModel", "lines", "(I)V"⟩, 35) := ⟨⟨by decide +kernel, by decide +kernel⟩, List.mem_of_getElem? (i := 710) (by decide +kernel), List.mem_of_getElem? (i := 974) (by decide +kernel), List.mem_of_getElem? (i := 975) (by decide +kernel)⟩
theorem lw_p91 : lw_okq (⟨"ApronDeskModel", "bestOf", "(III)I"⟩, 35) := ⟨⟨by decide +kernel, by decide +kernel⟩, List.mem_of_getElem? (i := 710) (by decide +kernel), List.mem_of_getElem? (i := 978) (by decide +kernel), List.mem_of_getElem? (i := 979) (by decide +kernel)⟩
theorem lw_p92 : lw_okq (⟨"ApronDeskModel", "rank", "(II)I"⟩, 35) := ⟨⟨by decide +kernel, by decide +kernel⟩, List.mem_of_getElem? (i := 710) (by decide +kernel), List.mem_of_getElem? (i := 982) (by decide +kernel), List.mem_of_getElem? (i := 983) (by decide +kernel)⟩
theorem lw_p93 : lw_okq (⟨"ApronDeskModel", "found", "(Z)I"⟩, 35) := ⟨⟨by decide +kernel, by decide +kernel⟩, List.mem_of_getElem? (i := 710) (by decide +kernel), List.mem_of_getElem? (i := 990) (by decide +kernel), List.mem_of_getElem? (i := 991) (by decide +kernel)⟩
theorem lw_p94 : lw_okq (⟨"ApronDeskModel", "search", "(Z)Z"⟩, 35) := ⟨⟨by decide +kernel, by decide +kernel⟩, List.mem_of_getElem? (i := 710) (by decide +kernel), List.mem_of_getElem? (i := 994) (by decide +kernel), List.mem_of_getElem? (i := 995) (by decide +kernel)⟩
theorem lw_p95 : lw_okq (⟨"ApronDeskModel", "whole", "()V"⟩, 35) := ⟨⟨by decide +kernel, by decide +kernel⟩, List.mem_of_getElem? (i := 710) (by decide +kernel), List.mem_of_getElem? (i := 998) (by decide +kernel), List.mem_of_getElem? (i := 999) (by decide +kernel)⟩
def lw_privs_6 : List (MethodName × Nat) := [(⟨"ApronDeskModel", "kindOf", "(I)I"⟩, 35), (⟨"ApronDeskModel", "wingOf", "(I)I"⟩, 35), (⟨"ApronDeskModel", "needOf", "(I)I"⟩, 35), (⟨"ApronDeskModel", "against", "(IIIIIII)I"⟩, 35), (⟨"ApronDeskModel", "isNeighbour", "(IIIII)Z"⟩, 35), (⟨"ApronDeskModel", "takes", "(IIIIII)Z"⟩, 35), (⟨"ApronDeskModel", "isThird", "(IIIII)Z"⟩, 35), (⟨"ApronDeskModel", "isAgainst", "(I)Z"⟩, 35), (⟨"ApronDeskModel", "sets", "(IIII)V"⟩, 35), (⟨"ApronDeskModel", "isPlanned", "(I)Z"⟩, 35), (⟨"ApronDeskModel", "lines", "(I)V"⟩, 35), (⟨"ApronDeskModel", "bestOf", "(III)I"⟩, 35), (⟨"ApronDeskModel", "rank", "(II)I"⟩, 35), (⟨"ApronDeskModel", "found", "(Z)I"⟩, 35), (⟨"ApronDeskModel", "search", "(Z)Z"⟩, 35), (⟨"ApronDeskModel", "whole", "()V"⟩, 35)]
theorem lw_r6 : ∀ q ∈ lw_privs_6, lw_okq q := List.forall_mem_cons.mpr ⟨lw_p80, List.forall_mem_cons.mpr ⟨lw_p81, List.forall_mem_cons.mpr ⟨lw_p82, List.forall_mem_cons.mpr ⟨lw_p83, List.forall_mem_cons.mpr ⟨lw_p84, List.forall_mem_cons.mpr ⟨lw_p85, List.forall_mem_cons.mpr ⟨lw_p86, List.forall_mem_cons.mpr ⟨lw_p87, List.forall_mem_cons.mpr ⟨lw_p88, List.forall_mem_cons.mpr ⟨lw_p89, List.forall_mem_cons.mpr ⟨lw_p90, List.forall_mem_cons.mpr ⟨lw_p91, List.forall_mem_cons.mpr ⟨lw_p92, List.forall_mem_cons.mpr ⟨lw_p93, List.forall_mem_cons.mpr ⟨lw_p94, List.forall_mem_cons.mpr ⟨lw_p95, fun _ h => absurd h List.not_mem_nil⟩⟩⟩⟩⟩⟩⟩⟩⟩⟩⟩⟩⟩⟩⟩⟩
theorem lw_p96 : lw_okq (⟨"ApronDeskModel", "isWaiting", "(I)Z"⟩, 35) := ⟨⟨by decide +kernel, by decide +kernel⟩, List.mem_of_getElem? (i := 710) (by decide +kernel), List.mem_of_getElem? (i := 1018) (by decide +kernel), List.mem_of_getElem? (i := 1019) (by decide +kernel)⟩
def lw_privs_7 : List (MethodName × Nat) := [(⟨"ApronDeskModel", "isWaiting", "(I)Z"⟩, 35)]
theorem lw_r7 : ∀ q ∈ lw_privs_7, lw_okq q := List.forall_mem_cons.mpr ⟨lw_p96, fun _ h => absurd h List.not_mem_nil⟩
def lw_privs : List (MethodName × Nat) := lw_privs_1 ++ (lw_privs_2 ++ (lw_privs_3 ++ (lw_privs_4 ++ (lw_privs_5 ++ (lw_privs_6 ++ (lw_privs_7))))))
def lw_tbl : List Cond := k2_sels lw_privs ++ tables_1
theorem lw_privs_ok : ∀ q ∈ lw_privs, lw_okq q := by
  show ∀ q ∈ lw_privs_1 ++ (lw_privs_2 ++ (lw_privs_3 ++ (lw_privs_4 ++ (lw_privs_5 ++ (lw_privs_6 ++ (lw_privs_7)))))), lw_okq q
  exact List.forall_mem_append.mpr ⟨lw_r1, List.forall_mem_append.mpr ⟨lw_r2, List.forall_mem_append.mpr ⟨lw_r3, List.forall_mem_append.mpr ⟨lw_r4, List.forall_mem_append.mpr ⟨lw_r5, List.forall_mem_append.mpr ⟨lw_r6, lw_r7⟩⟩⟩⟩⟩⟩
end
section
def RX0 : String := "ApronDesk$Delay"
def TX0 : u_T := fun k => match k with
  | 0 => ("ApronDesk$Delay", "visits", "LApronDesk$Visits;", true)
  | 1 => ("ApronDesk$Delay", "judge", "LApronDesk$Judge;", true)
  | 2 => ("ApronDesk$Delay", "movers", "LApronDesk$Line;", true)
  | 3 => ("ApronDesk$Delay", "bent", "LApronDesk$Line;", true)
  | _ => ("ApronDesk$Delay", "formerStands", "[I", true)
def tyX0 : Nat → FieldType := fun k => match k with
  | 0 => .object "ApronDesk$Visits"
  | 1 => .object "ApronDesk$Judge"
  | 2 => .object "ApronDesk$Line"
  | 3 => .object "ApronDesk$Line"
  | _ => .array .int
abbrev wsX00 : List Cond := u_ws RX0 TX0 5
theorem nmX0 : ∀ a, a < 5 → ∀ b, b < 5 → a ≠ b → (TX0 a).2.1 ≠ (TX0 b).2.1 := by decide +kernel
theorem tyX0_ok : ∀ k, k < 5 → parseFieldDescriptor (TX0 k).2.2.1 = some (tyX0 k) := by decide +kernel
abbrev cX0_init : ByteArray := prog_2_method_1_code
def yX0_init : MethodName := ⟨RX0, "<init>", "(LApronDesk$Visits;LApronDesk$Judge;)V"⟩
abbrev cX0_makeRoom : ByteArray := prog_2_method_2_code
def yX0_makeRoom : MethodName := ⟨RX0, "makeRoom", "(II)I"⟩
abbrev cX0_canGo : ByteArray := prog_2_method_3_code
def yX0_canGo : MethodName := ⟨RX0, "canGo", "(I)Z"⟩
abbrev cX0_bend : ByteArray := prog_2_method_4_code
def yX0_bend : MethodName := ⟨RX0, "bend", "(II)I"⟩
abbrev cX0_takeMoversOff : ByteArray := prog_2_method_5_code
def yX0_takeMoversOff : MethodName := ⟨RX0, "takeMoversOff", "()V"⟩
def RX1 : String := "ApronDesk$Ground"
def TX1 : u_T := fun k => match k with
  | 0 => ("ApronDesk$Ground", "kinds", "[I", true)
  | 1 => ("ApronDesk$Ground", "sizes", "[I", true)
  | 2 => ("ApronDesk$Ground", "pairA", "[I", true)
  | 3 => ("ApronDesk$Ground", "pairB", "[I", true)
  | 4 => ("ApronDesk$Ground", "limitsA", "[I", true)
  | 5 => ("ApronDesk$Ground", "limitsB", "[I", true)
  | 6 => ("ApronDesk$Ground", "coneStands", "[I", true)
  | 7 => ("ApronDesk$Ground", "coneFroms", "[I", true)
  | 8 => ("ApronDesk$Ground", "coneEnds", "[I", true)
  | 9 => ("ApronDesk$Ground", "stands", "I", false)
  | 10 => ("ApronDesk$Ground", "pairs", "I", false)
  | _ => ("ApronDesk$Ground", "cones", "I", false)
def tyX1 : Nat → FieldType := fun k => match k with
  | 0 => .array .int
  | 1 => .array .int
  | 2 => .array .int
  | 3 => .array .int
  | 4 => .array .int
  | 5 => .array .int
  | 6 => .array .int
  | 7 => .array .int
  | 8 => .array .int
  | 9 => .int
  | 10 => .int
  | _ => .int
abbrev wsX10 : List Cond := u_ws RX1 TX1 12
theorem nmX1 : ∀ a, a < 12 → ∀ b, b < 12 → a ≠ b → (TX1 a).2.1 ≠ (TX1 b).2.1 := by decide +kernel
theorem tyX1_ok : ∀ k, k < 12 → parseFieldDescriptor (TX1 k).2.2.1 = some (tyX1 k) := by decide +kernel
abbrev cX1_init : ByteArray := prog_3_method_1_code
def yX1_init : MethodName := ⟨RX1, "<init>", "()V"⟩
abbrev cX1_hasStand : ByteArray := prog_3_method_2_code
def yX1_hasStand : MethodName := ⟨RX1, "hasStand", "(I)Z"⟩
abbrev cX1_addStand : ByteArray := prog_3_method_3_code
def yX1_addStand : MethodName := ⟨RX1, "addStand", "(II)I"⟩
abbrev cX1_addPair : ByteArray := prog_3_method_4_code
def yX1_addPair : MethodName := ⟨RX1, "addPair", "(IIII)I"⟩
abbrev cX1_addCone : ByteArray := prog_3_method_5_code
def yX1_addCone : MethodName := ⟨RX1, "addCone", "(III)I"⟩
abbrev cX1_hasGate : ByteArray := prog_3_method_6_code
def yX1_hasGate : MethodName := ⟨RX1, "hasGate", "(I)Z"⟩
abbrev cX1_halfOf : ByteArray := prog_3_method_7_code
def yX1_halfOf : MethodName := ⟨RX1, "halfOf", "(I)I"⟩
abbrev cX1_areTooNear : ByteArray := prog_3_method_8_code
def yX1_areTooNear : MethodName := ⟨RX1, "areTooNear", "(IIII)Z"⟩
abbrev cX1_firstCone : ByteArray := prog_3_method_9_code
def yX1_firstCone : MethodName := ⟨RX1, "firstCone", "(III)I"⟩
def RX2 : String := "ApronDesk$Judge"
def TX2 : u_T := fun k => match k with
  | 0 => ("ApronDesk$Judge", "apron", "LApronDesk$Ground;", true)
  | 1 => ("ApronDesk$Judge", "visits", "LApronDesk$Visits;", true)
  | 2 => ("ApronDesk$Judge", "away", "[Z", true)
  | 3 => ("ApronDesk$Judge", "self", "I", false)
  | 4 => ("ApronDesk$Judge", "kind", "I", false)
  | 5 => ("ApronDesk$Judge", "wing", "I", false)
  | 6 => ("ApronDesk$Judge", "need", "I", false)
  | _ => ("ApronDesk$Judge", "by", "I", false)
def tyX2 : Nat → FieldType := fun k => match k with
  | 0 => .object "ApronDesk$Ground"
  | 1 => .object "ApronDesk$Visits"
  | 2 => .array .boolean
  | 3 => .int
  | 4 => .int
  | 5 => .int
  | 6 => .int
  | _ => .int
abbrev wsX20 : List Cond := u_ws RX2 TX2 8
theorem nmX2 : ∀ a, a < 8 → ∀ b, b < 8 → a ≠ b → (TX2 a).2.1 ≠ (TX2 b).2.1 := by decide +kernel
theorem tyX2_ok : ∀ k, k < 8 → parseFieldDescriptor (TX2 k).2.2.1 = some (tyX2 k) := by decide +kernel
abbrev cX2_init : ByteArray := prog_4_method_1_code
def yX2_init : MethodName := ⟨RX2, "<init>", "(LApronDesk$Ground;LApronDesk$Visits;)V"⟩
abbrev cX2_sendAway : ByteArray := prog_4_method_2_code
def yX2_sendAway : MethodName := ⟨RX2, "sendAway", "(I)V"⟩
abbrev cX2_callAllBack : ByteArray := prog_4_method_3_code
def yX2_callAllBack : MethodName := ⟨RX2, "callAllBack", "()V"⟩
abbrev cX2_regard : ByteArray := prog_4_method_4_code
def yX2_regard : MethodName := ⟨RX2, "regard", "(I)V"⟩
abbrev cX2_regardPlane : ByteArray := prog_4_method_5_code
def yX2_regardPlane : MethodName := ⟨RX2, "regardPlane", "(I)V"⟩
abbrev cX2_bestStand : ByteArray := prog_4_method_6_code
def yX2_bestStand : MethodName := ⟨RX2, "bestStand", "(II)I"⟩
abbrev cX2_against : ByteArray := prog_4_method_7_code
def yX2_against : MethodName := ⟨RX2, "against", "(III)I"⟩
abbrev cX2_isUnfit : ByteArray := prog_4_method_8_code
def yX2_isUnfit : MethodName := ⟨RX2, "isUnfit", "(III)Z"⟩
abbrev cX2_firstNeighbour : ByteArray := prog_4_method_9_code
def yX2_firstNeighbour : MethodName := ⟨RX2, "firstNeighbour", "(III)I"⟩
abbrev cX2_isNeighbour : ByteArray := prog_4_method_10_code
def yX2_isNeighbour : MethodName := ⟨RX2, "isNeighbour", "(IIII)Z"⟩
abbrev cX2_firstTaker : ByteArray := prog_4_method_11_code
def yX2_firstTaker : MethodName := ⟨RX2, "firstTaker", "(III)I"⟩
abbrev cX2_mayShare : ByteArray := prog_4_method_12_code
def yX2_mayShare : MethodName := ⟨RX2, "mayShare", "(II)Z"⟩
abbrev cX2_isThirdThere : ByteArray := prog_4_method_13_code
def yX2_isThirdThere : MethodName := ⟨RX2, "isThirdThere", "(IIII)Z"⟩
abbrev cX2_isOther : ByteArray := prog_4_method_14_code
def yX2_isOther : MethodName := ⟨RX2, "isOther", "(I)Z"⟩
def RX3 : String := "ApronDesk$Line"
def TX3 : u_T := fun k => match k with
  | 0 => ("ApronDesk$Line", "members", "[I", true)
  | _ => ("ApronDesk$Line", "length", "I", false)
def tyX3 : Nat → FieldType := fun k => match k with
  | 0 => .array .int
  | _ => .int
abbrev wsX30 : List Cond := u_ws RX3 TX3 2
theorem nmX3 : ∀ a, a < 2 → ∀ b, b < 2 → a ≠ b → (TX3 a).2.1 ≠ (TX3 b).2.1 := by decide +kernel
theorem tyX3_ok : ∀ k, k < 2 → parseFieldDescriptor (TX3 k).2.2.1 = some (tyX3 k) := by decide +kernel
abbrev cX3_init : ByteArray := prog_5_method_1_code
def yX3_init : MethodName := ⟨RX3, "<init>", "()V"⟩
abbrev cX3_empty : ByteArray := prog_5_method_2_code
def yX3_empty : MethodName := ⟨RX3, "empty", "()V"⟩
abbrev cX3_memberAt : ByteArray := prog_5_method_3_code
def yX3_memberAt : MethodName := ⟨RX3, "memberAt", "(I)I"⟩
abbrev cX3_join : ByteArray := prog_5_method_4_code
def yX3_join : MethodName := ⟨RX3, "join", "(I)V"⟩
abbrev cX3_joinByIn : ByteArray := prog_5_method_5_code
def yX3_joinByIn : MethodName := ⟨RX3, "joinByIn", "(ILApronDesk$Visits;)V"⟩
def RX4 : String := "ApronDesk$Searcher"
def TX4 : u_T := fun k => match k with
  | 0 => ("ApronDesk$Searcher", "apron", "LApronDesk$Ground;", true)
  | 1 => ("ApronDesk$Searcher", "visits", "LApronDesk$Visits;", true)
  | 2 => ("ApronDesk$Searcher", "judge", "LApronDesk$Judge;", true)
  | 3 => ("ApronDesk$Searcher", "line", "LApronDesk$Line;", true)
  | 4 => ("ApronDesk$Searcher", "choices", "[I", true)
  | 5 => ("ApronDesk$Searcher", "bestChoices", "[I", true)
  | 6 => ("ApronDesk$Searcher", "depth", "I", false)
  | 7 => ("ApronDesk$Searcher", "tries", "I", false)
  | _ => ("ApronDesk$Searcher", "bestScore", "I", false)
def tyX4 : Nat → FieldType := fun k => match k with
  | 0 => .object "ApronDesk$Ground"
  | 1 => .object "ApronDesk$Visits"
  | 2 => .object "ApronDesk$Judge"
  | 3 => .object "ApronDesk$Line"
  | 4 => .array .int
  | 5 => .array .int
  | 6 => .int
  | 7 => .int
  | _ => .int
abbrev wsX40 : List Cond := u_ws RX4 TX4 9
theorem nmX4 : ∀ a, a < 9 → ∀ b, b < 9 → a ≠ b → (TX4 a).2.1 ≠ (TX4 b).2.1 := by decide +kernel
theorem tyX4_ok : ∀ k, k < 9 → parseFieldDescriptor (TX4 k).2.2.1 = some (tyX4 k) := by decide +kernel
abbrev cX4_init : ByteArray := prog_6_method_1_code
def yX4_init : MethodName := ⟨RX4, "<init>", "(LApronDesk$Ground;LApronDesk$Visits;LApronDesk$Judge;)V"⟩
abbrev cX4_takeFirst : ByteArray := prog_6_method_2_code
def yX4_takeFirst : MethodName := ⟨RX4, "takeFirst", "()I"⟩
abbrev cX4_takeBest : ByteArray := prog_6_method_3_code
def yX4_takeBest : MethodName := ⟨RX4, "takeBest", "()I"⟩
abbrev cX4_begin : ByteArray := prog_6_method_4_code
def yX4_begin : MethodName := ⟨RX4, "begin", "()V"⟩
abbrev cX4_goToNextWhole : ByteArray := prog_6_method_5_code
def yX4_goToNextWhole : MethodName := ⟨RX4, "goToNextWhole", "()I"⟩
abbrev cX4_keepIfBetter : ByteArray := prog_6_method_6_code
def yX4_keepIfBetter : MethodName := ⟨RX4, "keepIfBetter", "()V"⟩
abbrev cX4_putBest : ByteArray := prog_6_method_7_code
def yX4_putBest : MethodName := ⟨RX4, "putBest", "()V"⟩
abbrev cX4_takeAllOff : ByteArray := prog_6_method_8_code
def yX4_takeAllOff : MethodName := ⟨RX4, "takeAllOff", "()V"⟩
def RX5 : String := "ApronDesk$Visits"
def TX5 : u_T := fun k => match k with
  | 0 => ("ApronDesk$Visits", "rows", "[I", true)
  | 1 => ("ApronDesk$Visits", "lengths", "[I", true)
  | 2 => ("ApronDesk$Visits", "stayCounts", "[I", true)
  | 3 => ("ApronDesk$Visits", "stayStands", "[I", true)
  | 4 => ("ApronDesk$Visits", "stayFroms", "[I", true)
  | 5 => ("ApronDesk$Visits", "stayEnds", "[I", true)
  | 6 => ("ApronDesk$Visits", "size", "I", false)
  | _ => ("ApronDesk$Visits", "now", "I", false)
def tyX5 : Nat → FieldType := fun k => match k with
  | 0 => .array .int
  | 1 => .array .int
  | 2 => .array .int
  | 3 => .array .int
  | 4 => .array .int
  | 5 => .array .int
  | 6 => .int
  | _ => .int
abbrev wsX50 : List Cond := u_ws RX5 TX5 8
theorem nmX5 : ∀ a, a < 8 → ∀ b, b < 8 → a ≠ b → (TX5 a).2.1 ≠ (TX5 b).2.1 := by decide +kernel
theorem tyX5_ok : ∀ k, k < 8 → parseFieldDescriptor (TX5 k).2.2.1 = some (tyX5 k) := by decide +kernel
abbrev cX5_init : ByteArray := prog_7_method_1_code
def yX5_init : MethodName := ⟨RX5, "<init>", "()V"⟩
abbrev cX5_has : ByteArray := prog_7_method_2_code
def yX5_has : MethodName := ⟨RX5, "has", "(I)Z"⟩
abbrev cX5_add : ByteArray := prog_7_method_3_code
def yX5_add : MethodName := ⟨RX5, "add", "(IIIII)I"⟩
abbrev cX5_kindOf : ByteArray := prog_7_method_4_code
def yX5_kindOf : MethodName := ⟨RX5, "kindOf", "(I)I"⟩
abbrev cX5_wingOf : ByteArray := prog_7_method_5_code
def yX5_wingOf : MethodName := ⟨RX5, "wingOf", "(I)I"⟩
abbrev cX5_inOf : ByteArray := prog_7_method_6_code
def yX5_inOf : MethodName := ⟨RX5, "inOf", "(I)I"⟩
abbrev cX5_outOf : ByteArray := prog_7_method_7_code
def yX5_outOf : MethodName := ⟨RX5, "outOf", "(I)I"⟩
abbrev cX5_needOf : ByteArray := prog_7_method_8_code
def yX5_needOf : MethodName := ⟨RX5, "needOf", "(I)I"⟩
abbrev cX5_isUnknown : ByteArray := prog_7_method_9_code
def yX5_isUnknown : MethodName := ⟨RX5, "isUnknown", "(I)Z"⟩
abbrev cX5_hasBegun : ByteArray := prog_7_method_10_code
def yX5_hasBegun : MethodName := ⟨RX5, "hasBegun", "(I)Z"⟩
abbrev cX5_isPut : ByteArray := prog_7_method_11_code
def yX5_isPut : MethodName := ⟨RX5, "isPut", "(I)Z"⟩
abbrev cX5_isToCome : ByteArray := prog_7_method_12_code
def yX5_isToCome : MethodName := ⟨RX5, "isToCome", "(I)Z"⟩
abbrev cX5_isWaiting : ByteArray := prog_7_method_13_code
def yX5_isWaiting : MethodName := ⟨RX5, "isWaiting", "(I)Z"⟩
abbrev cX5_standOf : ByteArray := prog_7_method_14_code
def yX5_standOf : MethodName := ⟨RX5, "standOf", "(II)I"⟩
abbrev cX5_fromOf : ByteArray := prog_7_method_15_code
def yX5_fromOf : MethodName := ⟨RX5, "fromOf", "(II)I"⟩
abbrev cX5_endOf : ByteArray := prog_7_method_16_code
def yX5_endOf : MethodName := ⟨RX5, "endOf", "(II)I"⟩
abbrev cX5_isStayAt : ByteArray := prog_7_method_17_code
def yX5_isStayAt : MethodName := ⟨RX5, "isStayAt", "(IIIII)Z"⟩
abbrev cX5_isThere : ByteArray := prog_7_method_18_code
def yX5_isThere : MethodName := ⟨RX5, "isThere", "(IIII)Z"⟩
abbrev cX5_place : ByteArray := prog_7_method_19_code
def yX5_place : MethodName := ⟨RX5, "place", "(III)Z"⟩
abbrev cX5_addStay : ByteArray := prog_7_method_20_code
def yX5_addStay : MethodName := ⟨RX5, "addStay", "(III)V"⟩
abbrev cX5_endLastStay : ByteArray := prog_7_method_21_code
def yX5_endLastStay : MethodName := ⟨RX5, "endLastStay", "(II)V"⟩
abbrev cX5_moveFirstStay : ByteArray := prog_7_method_22_code
def yX5_moveFirstStay : MethodName := ⟨RX5, "moveFirstStay", "(II)V"⟩
abbrev cX5_takeOff : ByteArray := prog_7_method_23_code
def yX5_takeOff : MethodName := ⟨RX5, "takeOff", "(I)V"⟩
abbrev cX5_makeLate : ByteArray := prog_7_method_24_code
def yX5_makeLate : MethodName := ⟨RX5, "makeLate", "(II)V"⟩
def RX6 : String := "ApronDesk"
def TX6 : u_T := fun k => match k with
  | 0 => ("ApronDesk", "apron", "LApronDesk$Ground;", true)
  | 1 => ("ApronDesk", "visits", "LApronDesk$Visits;", true)
  | 2 => ("ApronDesk", "judge", "LApronDesk$Judge;", true)
  | 3 => ("ApronDesk", "searcher", "LApronDesk$Searcher;", true)
  | 4 => ("ApronDesk", "delay", "LApronDesk$Delay;", true)
  | 5 => ("ApronDesk", "line", "LApronDesk$Line;", true)
  | 6 => ("ApronDesk", "towMinutes", "I", false)
  | 7 => ("ApronDesk", "lastStatus", "I", false)
  | 8 => ("ApronDesk", "lastReason", "I", false)
  | _ => ("ApronDesk", "lastAgainst", "I", false)
def tyX6 : Nat → FieldType := fun k => match k with
  | 0 => .object "ApronDesk$Ground"
  | 1 => .object "ApronDesk$Visits"
  | 2 => .object "ApronDesk$Judge"
  | 3 => .object "ApronDesk$Searcher"
  | 4 => .object "ApronDesk$Delay"
  | 5 => .object "ApronDesk$Line"
  | 6 => .int
  | 7 => .int
  | 8 => .int
  | _ => .int
abbrev wsX60 : List Cond := u_ws RX6 TX6 10
theorem nmX6 : ∀ a, a < 10 → ∀ b, b < 10 → a ≠ b → (TX6 a).2.1 ≠ (TX6 b).2.1 := by decide +kernel
theorem tyX6_ok : ∀ k, k < 10 → parseFieldDescriptor (TX6 k).2.2.1 = some (tyX6 k) := by decide +kernel
abbrev cX6_init : ByteArray := prog_1_method_1_code
def yX6_init : MethodName := ⟨RX6, "<init>", "()V"⟩
abbrev cX6_status : ByteArray := prog_1_method_2_code
def yX6_status : MethodName := ⟨RX6, "status", "()I"⟩
abbrev cX6_reason : ByteArray := prog_1_method_3_code
def yX6_reason : MethodName := ⟨RX6, "reason", "(I)I"⟩
abbrev cX6_stand : ByteArray := prog_1_method_4_code
def yX6_stand : MethodName := ⟨RX6, "stand", "(II)I"⟩
abbrev cX6_ground : ByteArray := prog_1_method_5_code
def yX6_ground : MethodName := ⟨RX6, "ground", "(II)I"⟩
abbrev cX6_near : ByteArray := prog_1_method_6_code
def yX6_near : MethodName := ⟨RX6, "near", "(IIII)I"⟩
abbrev cX6_cone : ByteArray := prog_1_method_7_code
def yX6_cone : MethodName := ⟨RX6, "cone", "(III)I"⟩
abbrev cX6_towtime : ByteArray := prog_1_method_8_code
def yX6_towtime : MethodName := ⟨RX6, "towtime", "(I)Z"⟩
abbrev cX6_visit : ByteArray := prog_1_method_9_code
def yX6_visit : MethodName := ⟨RX6, "visit", "(IIIII)I"⟩
abbrev cX6_tear : ByteArray := prog_1_method_10_code
def yX6_tear : MethodName := ⟨RX6, "tear", "(II)Z"⟩
abbrev cX6_told : ByteArray := prog_1_method_11_code
def yX6_told : MethodName := ⟨RX6, "told", "(II)I"⟩
abbrev cX6_put : ByteArray := prog_1_method_12_code
def yX6_put : MethodName := ⟨RX6, "put", "(II)Z"⟩
abbrev cX6_why : ByteArray := prog_1_method_13_code
def yX6_why : MethodName := ⟨RX6, "why", "(II)I"⟩
abbrev cX6_off : ByteArray := prog_1_method_14_code
def yX6_off : MethodName := ⟨RX6, "off", "(I)Z"⟩
abbrev cX6_tow : ByteArray := prog_1_method_15_code
def yX6_tow : MethodName := ⟨RX6, "tow", "(III)Z"⟩
abbrev cX6_plan : ByteArray := prog_1_method_16_code
def yX6_plan : MethodName := ⟨RX6, "plan", "()I"⟩
abbrev cX6_search : ByteArray := prog_1_method_17_code
def yX6_search : MethodName := ⟨RX6, "search", "()I"⟩
abbrev cX6_most : ByteArray := prog_1_method_18_code
def yX6_most : MethodName := ⟨RX6, "most", "()I"⟩
abbrev cX6_late : ByteArray := prog_1_method_19_code
def yX6_late : MethodName := ⟨RX6, "late", "(II)I"⟩
abbrev cX6_changed : ByteArray := prog_1_method_20_code
def yX6_changed : MethodName := ⟨RX6, "changed", "(I)I"⟩
abbrev cX6_now : ByteArray := prog_1_method_21_code
def yX6_now : MethodName := ⟨RX6, "now", "(I)I"⟩
abbrev cX6_waiting : ByteArray := prog_1_method_22_code
def yX6_waiting : MethodName := ⟨RX6, "waiting", "()I"⟩
abbrev cX6_swap : ByteArray := prog_1_method_23_code
def yX6_swap : MethodName := ⟨RX6, "swap", "(II)Z"⟩
abbrev cX6_stays : ByteArray := prog_1_method_24_code
def yX6_stays : MethodName := ⟨RX6, "stays", "(I)I"⟩
abbrev cX6_stay : ByteArray := prog_1_method_25_code
def yX6_stay : MethodName := ⟨RX6, "stay", "(III)I"⟩
abbrev cX6_at : ByteArray := prog_1_method_26_code
def yX6_at : MethodName := ⟨RX6, "at", "(III)I"⟩
abbrev cX6_crowd : ByteArray := prog_1_method_27_code
def yX6_crowd : MethodName := ⟨RX6, "crowd", "(III)I"⟩
abbrev cX6_faultOfLooking : ByteArray := prog_1_method_28_code
def yX6_faultOfLooking : MethodName := ⟨RX6, "faultOfLooking", "(II)I"⟩
abbrev cX6_faultOfPutting : ByteArray := prog_1_method_29_code
def yX6_faultOfPutting : MethodName := ⟨RX6, "faultOfPutting", "(II)I"⟩
abbrev cX6_faultOfTowing : ByteArray := prog_1_method_30_code
def yX6_faultOfTowing : MethodName := ⟨RX6, "faultOfTowing", "(III)I"⟩
abbrev cX6_faultOfSwapping : ByteArray := prog_1_method_31_code
def yX6_faultOfSwapping : MethodName := ⟨RX6, "faultOfSwapping", "(II)I"⟩
abbrev cX6_serveLine : ByteArray := prog_1_method_32_code
def yX6_serveLine : MethodName := ⟨RX6, "serveLine", "()I"⟩
abbrev cX6_isHindered : ByteArray := prog_1_method_33_code
def yX6_isHindered : MethodName := ⟨RX6, "isHindered", "(IIII)Z"⟩
abbrev cX6_keepReason : ByteArray := prog_1_method_34_code
def yX6_keepReason : MethodName := ⟨RX6, "keepReason", "(I)V"⟩
abbrev cX6_grant : ByteArray := prog_1_method_35_code
def yX6_grant : MethodName := ⟨RX6, "grant", "(I)I"⟩
abbrev cX6_allow : ByteArray := prog_1_method_36_code
def yX6_allow : MethodName := ⟨RX6, "allow", "()Z"⟩
abbrev cX6_refuse : ByteArray := prog_1_method_37_code
def yX6_refuse : MethodName := ⟨RX6, "refuse", "(I)I"⟩
abbrev cX6_deny : ByteArray := prog_1_method_38_code
def yX6_deny : MethodName := ⟨RX6, "deny", "(I)Z"⟩
abbrev cX6_isWithin : ByteArray := prog_1_method_39_code
def yX6_isWithin : MethodName := ⟨RX6, "isWithin", "(III)Z"⟩
abbrev cX6_isSpan : ByteArray := prog_1_method_40_code
def yX6_isSpan : MethodName := ⟨RX6, "isSpan", "(II)Z"⟩
abbrev cX6_haveCommonMinute : ByteArray := prog_1_method_41_code
def yX6_haveCommonMinute : MethodName := ⟨RX6, "haveCommonMinute", "(IIII)Z"⟩
def RX7 : String := "ApronDeskModel"
def TX7 : u_T := fun k => match k with
  | 0 => ("ApronDeskModel", "status", "I", false)
  | 1 => ("ApronDeskModel", "reason", "I", false)
  | 2 => ("ApronDeskModel", "by", "I", false)
  | 3 => ("ApronDeskModel", "standMany", "I", false)
  | 4 => ("ApronDeskModel", "pairMany", "I", false)
  | 5 => ("ApronDeskModel", "coneMany", "I", false)
  | 6 => ("ApronDeskModel", "visitMany", "I", false)
  | 7 => ("ApronDeskModel", "towtime", "I", false)
  | 8 => ("ApronDeskModel", "now", "I", false)
  | 9 => ("ApronDeskModel", "standKind", "[I", true)
  | 10 => ("ApronDeskModel", "standSize", "[I", true)
  | 11 => ("ApronDeskModel", "pairA", "[I", true)
  | 12 => ("ApronDeskModel", "pairB", "[I", true)
  | 13 => ("ApronDeskModel", "limitA", "[I", true)
  | 14 => ("ApronDeskModel", "limitB", "[I", true)
  | 15 => ("ApronDeskModel", "coneStand", "[I", true)
  | 16 => ("ApronDeskModel", "coneFrom", "[I", true)
  | 17 => ("ApronDeskModel", "coneTo", "[I", true)
  | 18 => ("ApronDeskModel", "numbers", "[I", true)
  | 19 => ("ApronDeskModel", "row", "[I", true)
  | 20 => ("ApronDeskModel", "stayMany", "[I", true)
  | 21 => ("ApronDeskModel", "stayStand", "[I", true)
  | 22 => ("ApronDeskModel", "stayFrom", "[I", true)
  | 23 => ("ApronDeskModel", "stayTo", "[I", true)
  | 24 => ("ApronDeskModel", "foundBy", "I", false)
  | 25 => ("ApronDeskModel", "list", "[I", true)
  | 26 => ("ApronDeskModel", "listMany", "I", false)
  | 27 => ("ApronDeskModel", "tried", "[I", true)
  | 28 => ("ApronDeskModel", "best", "[I", true)
  | 29 => ("ApronDeskModel", "tries", "I", false)
  | 30 => ("ApronDeskModel", "bestCount", "I", false)
  | 31 => ("ApronDeskModel", "wasMany", "[I", true)
  | 32 => ("ApronDeskModel", "firstStand", "[I", true)
  | 33 => ("ApronDeskModel", "changes", "[I", true)
  | _ => ("ApronDeskModel", "changeMany", "I", false)
def tyX7 : Nat → FieldType := fun k => match k with
  | 0 => .int
  | 1 => .int
  | 2 => .int
  | 3 => .int
  | 4 => .int
  | 5 => .int
  | 6 => .int
  | 7 => .int
  | 8 => .int
  | 9 => .array .int
  | 10 => .array .int
  | 11 => .array .int
  | 12 => .array .int
  | 13 => .array .int
  | 14 => .array .int
  | 15 => .array .int
  | 16 => .array .int
  | 17 => .array .int
  | 18 => .array .int
  | 19 => .array .int
  | 20 => .array .int
  | 21 => .array .int
  | 22 => .array .int
  | 23 => .array .int
  | 24 => .int
  | 25 => .array .int
  | 26 => .int
  | 27 => .array .int
  | 28 => .array .int
  | 29 => .int
  | 30 => .int
  | 31 => .array .int
  | 32 => .array .int
  | 33 => .array .int
  | _ => .int
abbrev wsX70 : List Cond := u_ws RX7 TX7 35
theorem nmX7 : ∀ a, a < 35 → ∀ b, b < 35 → a ≠ b → (TX7 a).2.1 ≠ (TX7 b).2.1 := by decide +kernel
theorem tyX7_ok : ∀ k, k < 35 → parseFieldDescriptor (TX7 k).2.2.1 = some (tyX7 k) := by decide +kernel
abbrev cX7_init : ByteArray := prog_9_method_1_code
def yX7_init : MethodName := ⟨RX7, "<init>", "()V"⟩
abbrev cX7_status : ByteArray := prog_9_method_2_code
def yX7_status : MethodName := ⟨RX7, "status", "()I"⟩
abbrev cX7_reason : ByteArray := prog_9_method_3_code
def yX7_reason : MethodName := ⟨RX7, "reason", "(I)I"⟩
abbrev cX7_refuse : ByteArray := prog_9_method_4_code
def yX7_refuse : MethodName := ⟨RX7, "refuse", "(I)I"⟩
abbrev cX7_gives : ByteArray := prog_9_method_5_code
def yX7_gives : MethodName := ⟨RX7, "gives", "(I)I"⟩
abbrev cX7_isStand : ByteArray := prog_9_method_6_code
def yX7_isStand : MethodName := ⟨RX7, "isStand", "(I)Z"⟩
abbrev cX7_isVisit : ByteArray := prog_9_method_7_code
def yX7_isVisit : MethodName := ⟨RX7, "isVisit", "(I)Z"⟩
abbrev cX7_stand : ByteArray := prog_9_method_8_code
def yX7_stand : MethodName := ⟨RX7, "stand", "(II)I"⟩
abbrev cX7_ground : ByteArray := prog_9_method_9_code
def yX7_ground : MethodName := ⟨RX7, "ground", "(II)I"⟩
abbrev cX7_near : ByteArray := prog_9_method_10_code
def yX7_near : MethodName := ⟨RX7, "near", "(IIII)I"⟩
abbrev cX7_isSpan : ByteArray := prog_9_method_11_code
def yX7_isSpan : MethodName := ⟨RX7, "isSpan", "(II)Z"⟩
abbrev cX7_cone : ByteArray := prog_9_method_12_code
def yX7_cone : MethodName := ⟨RX7, "cone", "(III)I"⟩
abbrev cX7_towtime : ByteArray := prog_9_method_13_code
def yX7_towtime : MethodName := ⟨RX7, "towtime", "(I)Z"⟩
abbrev cX7_visit : ByteArray := prog_9_method_14_code
def yX7_visit : MethodName := ⟨RX7, "visit", "(IIIII)I"⟩
abbrev cX7_tear : ByteArray := prog_9_method_15_code
def yX7_tear : MethodName := ⟨RX7, "tear", "(II)Z"⟩
abbrev cX7_told : ByteArray := prog_9_method_16_code
def yX7_told : MethodName := ⟨RX7, "told", "(II)I"⟩
abbrev cX7_kindOf : ByteArray := prog_9_method_17_code
def yX7_kindOf : MethodName := ⟨RX7, "kindOf", "(I)I"⟩
abbrev cX7_wingOf : ByteArray := prog_9_method_18_code
def yX7_wingOf : MethodName := ⟨RX7, "wingOf", "(I)I"⟩
abbrev cX7_inOf : ByteArray := prog_9_method_19_code
def yX7_inOf : MethodName := ⟨RX7, "inOf", "(I)I"⟩
abbrev cX7_outOf : ByteArray := prog_9_method_20_code
def yX7_outOf : MethodName := ⟨RX7, "outOf", "(I)I"⟩
abbrev cX7_needOf : ByteArray := prog_9_method_21_code
def yX7_needOf : MethodName := ⟨RX7, "needOf", "(I)I"⟩
abbrev cX7_isUnknown : ByteArray := prog_9_method_22_code
def yX7_isUnknown : MethodName := ⟨RX7, "isUnknown", "(I)Z"⟩
abbrev cX7_isPut : ByteArray := prog_9_method_23_code
def yX7_isPut : MethodName := ⟨RX7, "isPut", "(I)Z"⟩
abbrev cX7_hasBegun : ByteArray := prog_9_method_24_code
def yX7_hasBegun : MethodName := ⟨RX7, "hasBegun", "(I)Z"⟩
abbrev cX7_haveCommon : ByteArray := prog_9_method_25_code
def yX7_haveCommon : MethodName := ⟨RX7, "haveCommon", "(IIII)Z"⟩
abbrev cX7_against : ByteArray := prog_9_method_26_code
def yX7_against : MethodName := ⟨RX7, "against", "(IIIIIII)I"⟩
abbrev cX7_isNeighbour : ByteArray := prog_9_method_27_code
def yX7_isNeighbour : MethodName := ⟨RX7, "isNeighbour", "(IIIII)Z"⟩
abbrev cX7_takes : ByteArray := prog_9_method_28_code
def yX7_takes : MethodName := ⟨RX7, "takes", "(IIIIII)Z"⟩
abbrev cX7_isThird : ByteArray := prog_9_method_29_code
def yX7_isThird : MethodName := ⟨RX7, "isThird", "(IIIII)Z"⟩
abbrev cX7_againstOf : ByteArray := prog_9_method_30_code
def yX7_againstOf : MethodName := ⟨RX7, "againstOf", "(IIII)I"⟩
abbrev cX7_isAgainst : ByteArray := prog_9_method_31_code
def yX7_isAgainst : MethodName := ⟨RX7, "isAgainst", "(I)Z"⟩
abbrev cX7_rank : ByteArray := prog_9_method_32_code
def yX7_rank : MethodName := ⟨RX7, "rank", "(II)I"⟩
abbrev cX7_bestOf : ByteArray := prog_9_method_33_code
def yX7_bestOf : MethodName := ⟨RX7, "bestOf", "(III)I"⟩
abbrev cX7_sets : ByteArray := prog_9_method_34_code
def yX7_sets : MethodName := ⟨RX7, "sets", "(IIII)V"⟩
abbrev cX7_put : ByteArray := prog_9_method_35_code
def yX7_put : MethodName := ⟨RX7, "put", "(II)Z"⟩
abbrev cX7_why : ByteArray := prog_9_method_36_code
def yX7_why : MethodName := ⟨RX7, "why", "(II)I"⟩
abbrev cX7_off : ByteArray := prog_9_method_37_code
def yX7_off : MethodName := ⟨RX7, "off", "(I)Z"⟩
abbrev cX7_tow : ByteArray := prog_9_method_38_code
def yX7_tow : MethodName := ⟨RX7, "tow", "(III)Z"⟩
abbrev cX7_swap : ByteArray := prog_9_method_39_code
def yX7_swap : MethodName := ⟨RX7, "swap", "(II)Z"⟩
abbrev cX7_lines : ByteArray := prog_9_method_40_code
def yX7_lines : MethodName := ⟨RX7, "lines", "(I)V"⟩
abbrev cX7_isPlanned : ByteArray := prog_9_method_41_code
def yX7_isPlanned : MethodName := ⟨RX7, "isPlanned", "(I)Z"⟩
abbrev cX7_plan : ByteArray := prog_9_method_42_code
def yX7_plan : MethodName := ⟨RX7, "plan", "()I"⟩
abbrev cX7_search : ByteArray := prog_9_method_43_code
def yX7_search : MethodName := ⟨RX7, "search", "(Z)Z"⟩
abbrev cX7_whole : ByteArray := prog_9_method_44_code
def yX7_whole : MethodName := ⟨RX7, "whole", "()V"⟩
abbrev cX7_found : ByteArray := prog_9_method_45_code
def yX7_found : MethodName := ⟨RX7, "found", "(Z)I"⟩
abbrev cX7_search_ : ByteArray := prog_9_method_46_code
def yX7_search_ : MethodName := ⟨RX7, "search", "()I"⟩
abbrev cX7_most : ByteArray := prog_9_method_47_code
def yX7_most : MethodName := ⟨RX7, "most", "()I"⟩
abbrev cX7_late : ByteArray := prog_9_method_48_code
def yX7_late : MethodName := ⟨RX7, "late", "(II)I"⟩
abbrev cX7_changed : ByteArray := prog_9_method_49_code
def yX7_changed : MethodName := ⟨RX7, "changed", "(I)I"⟩
abbrev cX7_isWaiting : ByteArray := prog_9_method_50_code
def yX7_isWaiting : MethodName := ⟨RX7, "isWaiting", "(I)Z"⟩
abbrev cX7_now : ByteArray := prog_9_method_51_code
def yX7_now : MethodName := ⟨RX7, "now", "(I)I"⟩
abbrev cX7_waiting : ByteArray := prog_9_method_52_code
def yX7_waiting : MethodName := ⟨RX7, "waiting", "()I"⟩
abbrev cX7_stays : ByteArray := prog_9_method_53_code
def yX7_stays : MethodName := ⟨RX7, "stays", "(I)I"⟩
abbrev cX7_stay : ByteArray := prog_9_method_54_code
def yX7_stay : MethodName := ⟨RX7, "stay", "(III)I"⟩
abbrev cX7_at : ByteArray := prog_9_method_55_code
def yX7_at : MethodName := ⟨RX7, "at", "(III)I"⟩
abbrev cX7_crowd : ByteArray := prog_9_method_56_code
def yX7_crowd : MethodName := ⟨RX7, "crowd", "(III)I"⟩
def RL : String := "ApronDeskLaw"
abbrev cL_law : ByteArray := code
def yL_law : MethodName := ⟨RL, "law", "([I)Z"⟩
abbrev vwCl : List vw_C := [(RX0, TX0, 5), (RX1, TX1, 12), (RX2, TX2, 8), (RX3, TX3, 2), (RX4, TX4, 9), (RX5, TX5, 8), (RX6, TX6, 10), (RX7, TX7, 35)]
end
section
/-! THE JUDGEMENT: a world of fixed cells, by numbers; a store gives each cell's ints. -/
abbrev tSt : Type := Nat → Int32 → Int32
abbrev tSC : Type := (Bool × Nat) ⊕ (Nat × List (Option Nat))
abbrev tSh : Type := List tSC
/-- a method: its name, code, locals, answer, room, world -/
abbrev tMS : Type := MethodName × ByteArray × Nat × Option FieldType × Room × Nat
def cv (ad : Nat → Nat) (v : Value) : Value := match v with
  | .ref k => .ref (ad k)
  | v => v
def tfld (ad : Nat → Nat) (f : Int32 → Int32) (i : Nat) (o : Option Nat) : Value := match o with
  | some j => .ref (ad j)
  | none => .int (f (nI i))
def tent (ad : Nat → Nat) (cA cZ : ClassId) (f : Int32 → Int32) (q : tSC) : va_E := match q with
  | .inl (b, n) => .inl (bif b then cZ else cA, n, .inl (fun j => f (nI j)))
  | .inr (ci, fs) => .inr (ci, fs.mapIdx (tfld ad f))
def tpic (ad : Nat → Nat) (cA cZ : ClassId) (sh : tSh) (σ : tSt) : va_W := sh.mapIdx (fun k q => (ad k, tent ad cA cZ (σ k) q))
theorem tpic_at {ad : Nat → Nat} {cA cZ : ClassId} {sh : tSh} {σ : tSt} {k : Nat} {q : tSC} (h : sh[k]? = some q) : (tpic ad cA cZ sh σ)[k]? = some (ad k, tent ad cA cZ (σ k) q) := by
  simp [tpic, h]
theorem tpic_of {ad : Nat → Nat} {cA cZ : ClassId} {sh : tSh} {σ : tSt} {k : Nat} {x : Nat × va_E} (h : (tpic ad cA cZ sh σ)[k]? = some x) : ∃ q, sh[k]? = some q ∧ x = (ad k, tent ad cA cZ (σ k) q) := by
  simp only [tpic, List.getElem?_mapIdx] at h
  cases hq : sh[k]? with
  | none => rw [hq] at h; cases h
  | some q => rw [hq] at h; exact ⟨q, rfl, (Option.some.inj h).symm⟩
def tInj (ad : Nat → Nat) (n : Nat) : Prop := ∀ i j, i < n → j < n → ad i = ad j → i = j
def tAW (n : Nat) (ad : Nat → Nat) (sz : Nat) : Nat → Prop := fun q => (∃ k, k < n ∧ q = ad k) ∨ sz ≤ q
theorem tpic_D {ad : Nat → Nat} {cA cZ : ClassId} {sh : tSh} {σ : tSt} {sz : Nat} (h : tInj ad sh.length) : va_D (tAW sh.length ad sz) (tpic ad cA cZ sh σ) := by
  refine ⟨fun i j p q hi hj hpq => ?_, fun k q hk => ?_⟩
  · obtain ⟨a, ha, rfl⟩ := tpic_of hi
    obtain ⟨b, hb, rfl⟩ := tpic_of hj
    exact h i j (List.getElem?_eq_some_iff.mp ha).1 (List.getElem?_eq_some_iff.mp hb).1 hpq
  · obtain ⟨a, ha, rfl⟩ := tpic_of hk
    exact Or.inl ⟨k, (List.getElem?_eq_some_iff.mp ha).1, rfl⟩
/-- a store with one int changed -/
def up (σ : tSt) (k : Nat) (i x : Int32) : tSt := fun k' => if k' = k then (fun i' => if i' = i then x else σ k i') else σ k'
theorem up_s {σ : tSt} {k : Nat} {i x : Int32} : up σ k i x k i = x := by simp [up]
theorem up_k {σ : tSt} {k k' : Nat} {i x : Int32} (h : k' ≠ k) : up σ k i x k' = σ k' := by simp [up, h]
theorem up_n {σ : tSt} {k k' : Nat} {i i' x : Int32} (h : i' ≠ i) : up σ k i x k' i' = σ k' i' := by
  simp only [up]
  by_cases hk : k' = k
  · subst hk; simp [h]
  · simp [hk]
theorem up_at (σ : tSt) (k : Nat) (i x i' : Int32) : up σ k i x k i' = if i' = i then x else σ k i' := by simp [up]
theorem vcell_congr {c : ClassId} {n : Nat} {f g : Nat → Int32} (h : ∀ j, j < n → f j = g j) : vp_cell c (n, .inl f) = vp_cell c (n, .inl g) := by
  rw [vp_cell_i, vp_cell_i]
  unfold arrV
  congr 1
  apply congrArg
  funext j
  exact congrArg Value.int (h j.val j.isLt)
theorem nI_inj {a b : Nat} (ha : a < 2 ^ 31) (hb : b < 2 ^ 31) (h : nI a = nI b) : a = b := (nI_eq ha hb).mp h
theorem vp_in_eq {i : Int32} {n : Nat} (h : vp_in i n) (hn : n < 2 ^ 31) : i.toNatClampNeg < n ∧ nI i.toNatClampNeg = i := by
  obtain ⟨j, hj, rfl⟩ := vp_in_of h hn
  rw [nI_clamp (by omega)]
  exact ⟨hj, rfl⟩
theorem tput_arr {D : va_G} {cl : List vw_C} {ad : Nat → Nat} {cA cZ : ClassId} {sh : tSh} {σ : tSt} {k : Nat} {b : Bool} {n : Nat} {i x : Int32} {H : Heap} (hs : sh[k]? = some (.inl (b, n))) (hn : n < 2 ^ 31) (hi : vp_in i n)
    (h : va_P D cl ((tpic ad cA cZ sh σ).set k (ad k, .inl (bif b then cZ else cA, n, .inl (upd (fun j => σ k (nI j)) i.toNatClampNeg x)))) H) : va_P D cl (tpic ad cA cZ sh (up σ k i x)) H := by
  obtain ⟨hlt, he⟩ := vp_in_eq hi hn
  have hk : k < (tpic ad cA cZ sh σ).length := (List.getElem?_eq_some_iff.mp (tpic_at hs)).1
  intro k' q hq
  obtain ⟨q', hq', rfl⟩ := tpic_of hq
  by_cases hkk : k' = k
  · subst hkk
    obtain rfl : q' = .inl (b, n) := Option.some.inj (hq'.symm.trans hs)
    have h1 := h k' _ (List.getElem?_set_self hk)
    show H[ad k']? = some (vp_cell _ _)
    refine Eq.trans h1 (congrArg some (vcell_congr fun j hj => ?_))
    simp only [upd, up]
    by_cases hji : j = i.toNatClampNeg
    · subst hji; simp [he]
    · have : nI j ≠ i := fun q => hji (nI_inj (by omega) (by omega) (q.trans he.symm))
      simp [hji, this]
  · have h1 := h k' (ad k', tent ad cA cZ (σ k') q') (by rw [List.getElem?_set_ne (Ne.symm hkk)]; exact tpic_at hq')
    rw [up_k hkk]
    exact h1
theorem tput_fld {D : va_G} {cl : List vw_C} {ad : Nat → Nat} {cA cZ : ClassId} {sh : tSh} {σ : tSt} {k i : Nat} {ci : Nat} {fs : List (Option Nat)} {x : Int32} {H : Heap} (hs : sh[k]? = some (.inr (ci, fs))) (hi : fs[i]? = some none) (hn : fs.length < 2 ^ 31)
    (h : va_P D cl ((tpic ad cA cZ sh σ).set k (ad k, .inr (ci, (fs.mapIdx (tfld ad (σ k))).set i (.int x)))) H) : va_P D cl (tpic ad cA cZ sh (up σ k (nI i) x)) H := by
  have hk : k < (tpic ad cA cZ sh σ).length := (List.getElem?_eq_some_iff.mp (tpic_at hs)).1
  have hil : i < fs.length := (List.getElem?_eq_some_iff.mp hi).1
  intro k' q hq
  obtain ⟨q', hq', rfl⟩ := tpic_of hq
  by_cases hkk : k' = k
  · subst hkk
    obtain rfl : q' = .inr (ci, fs) := Option.some.inj (hq'.symm.trans hs)
    have h1 := h k' _ (List.getElem?_set_self hk)
    have e : (fs.mapIdx (tfld ad (σ k'))).set i (.int x) = fs.mapIdx (tfld ad (up σ k' (nI i) x k')) := by
      apply List.ext_getElem?
      intro j
      by_cases hj : j = i
      · subst hj
        rw [List.getElem?_set_self (by simpa using hil), List.getElem?_mapIdx, hi]
        simp [tfld, up_s]
      · rw [List.getElem?_set_ne (Ne.symm hj), List.getElem?_mapIdx, List.getElem?_mapIdx]
        cases hf : fs[j]? with
        | none => rfl
        | some o =>
          have hjl : j < fs.length := (List.getElem?_eq_some_iff.mp hf).1
          cases o with
          | some _ => rfl
          | none => simp only [Option.map_some, tfld, up_n (show nI j ≠ nI i from fun q => hj (nI_inj (by omega) (by omega) q))]
    rw [e] at h1
    exact h1
  · have h1 := h k' (ad k', tent ad cA cZ (σ k') q') (by rw [List.getElem?_set_ne (Ne.symm hkk)]; exact tpic_at hq')
    rw [up_k hkk]
    exact h1
/-! the tables' words -/
def gw (w : Cond) : Bool := match w with
  | .fieldLinkNest .. => true
  | .methodLinkNest .. => true
  | .arrayClass _ => false
  | w => w.onTables && w.keeps
def tTB (U : State) : Prop := ∀ w ∈ lw_tbl, gw w = true → va_Nw w U
def tWD (w : Cond) : Prop := w ∈ lw_tbl ∧ gw w = true
theorem gw_on {w : Cond} (h : gw w = true) : w.onTables = true := by
  cases w <;> first | rfl | (simp only [gw, Bool.and_eq_true] at h; exact h.1) | (cases h)
theorem tTB.warm {s U : State} (hW : s.WarmedH U.vm) (h : tTB s) : tTB U := by
  intro w hw hg
  have h1 := h w hw hg
  cases w <;> first | exact va_Nw.warmF hW h1 | exact va_Nw.warmM hW h1 | exact word_at hW (Or.inl hg) h1 | cases hg
theorem tTB.same {s U : State} (hv : s.vm = U.vm) (h : tTB s) : tTB U := fun w hw hg => va_Nw.same (gw_on hg) hv (h w hw hg)
theorem tTB.use {s : State} {args : Array Value} (h : tTB s) {w : Cond} (hw : tWD w) : w.before args s = true := va_Nw.use (gw_on hw.2) (h w hw.1 hw.2)
/-! the two worlds -/
def shX : tSh := [
  .inr (6, [some 17, some 18, some 19, some 20, some 21, some 22, none, none, none, none]),
  .inl (false, 24), .inl (false, 24), .inl (false, 40), .inl (false, 40), .inl (false, 40), .inl (false, 40), .inl (false, 20), .inl (false, 20), .inl (false, 20),
  .inl (false, 200), .inl (false, 40), .inl (false, 40), .inl (false, 320), .inl (false, 320), .inl (false, 320), .inl (false, 40),
  .inr (1, [some 1, some 2, some 3, some 4, some 5, some 6, some 7, some 8, some 9, none, none, none]),
  .inr (5, [some 10, some 11, some 12, some 13, some 14, some 15, none, none]),
  .inr (2, [some 17, some 18, some 26, none, none, none, none, none]),
  .inr (4, [some 17, some 18, some 19, some 23, some 27, some 28, none, none, none]),
  .inr (0, [some 18, some 19, some 24, some 25, some 29]),
  .inr (3, [some 30, none]), .inr (3, [some 31, none]), .inr (3, [some 32, none]), .inr (3, [some 16, none]),
  .inl (true, 40), .inl (false, 40), .inl (false, 40), .inl (false, 40), .inl (false, 40), .inl (false, 40), .inl (false, 40)]
def shM : tSh := [
  .inr (7, [none, none, none, none, none, none, none, none, none, some 1, some 2, some 3, some 4, some 5, some 6, some 7, some 8, some 9, some 11, some 10, some 12, some 13, some 14, some 15, none, some 17, none, some 18, some 19, none, none, some 20, some 21, some 16, none]),
  .inl (false, 24), .inl (false, 24), .inl (false, 40), .inl (false, 40), .inl (false, 40), .inl (false, 40), .inl (false, 20), .inl (false, 20), .inl (false, 20),
  .inl (false, 200), .inl (false, 40), .inl (false, 40), .inl (false, 320), .inl (false, 320), .inl (false, 320), .inl (false, 40),
  .inl (false, 40), .inl (false, 40), .inl (false, 40), .inl (false, 40), .inl (false, 40)]
def shp (w : Nat) : tSh := match w with
  | 0 => shX
  | _ => shM
def frO (i : Int32) : Int32 := if i = nI 0 then nI 4 else if i = nI 1 then nI 1 else nI 5
def coO (i : Int32) : Int32 := if i = nI 0 then nI 2 else if i = nI 1 then nI 3 else if i = nI 2 then nI 1 else if i = nI 3 then nI 4 else nI 5
def tSF (w : Nat) (ad : Nat → Nat) (A : Nat → Prop) (s : State) : Prop := w = 0 →
  (va_Z "ApronDesk" "FREIGHT_ORDER" "[I" (.ref (ad 100)) A s s.heap ∧ va_T .int (ad 100) 3 (fun j => .int (frO (nI j))) A s s.heap) ∧
  (va_Z "ApronDesk" "COMMON_ORDER" "[I" (.ref (ad 101)) A s s.heap ∧ va_T .int (ad 101) 5 (fun j => .int (coO (nI j))) A s s.heap)
abbrev tTy (cA cZ : ClassId) : List (ClassId × FieldType) := [(cA, .int), (cZ, .boolean)]
def tCX (y : tMS) (D : va_G) (ad : Nat → Nat) (cA cZ : ClassId) (p : Program) (s : State) (m : MethodId) (meth : Method) (c : Code) : Prop :=
  p.tables.exec = Jvm.exec ∧ c.code = y.2.1 ∧ c.maxLocals = y.2.2.1 ∧ meth.sig.returnType = y.2.2.2.1 ∧ meth.locks = false ∧ s.vm.findClass y.1.cls = some m.cls ∧ tTB s ∧ va_K D vwCl (tTy cA cZ) s ∧ tInj ad (shp y.2.2.2.2.2).length ∧ tSF y.2.2.2.2.2 ad (tAW (shp y.2.2.2.2.2).length ad s.heap.size) s
def tQR (w : Nat) (D : va_G) (ad : Nat → Nat) (cA cZ : ClassId) (Q : Option Int32 → tSt → Prop) : Array Value → State → Outcome → State → Prop := fun _ st oc t =>
  (∃ (r : Option Int32) (σ : tSt), oc = .returned (r.map Value.int) ∧ Q r σ ∧ va_P D vwCl (tpic ad cA cZ (shp w) σ) t.heap) ∧ va_F (tAW (shp w).length ad st.heap.size) st t
def tLR (ad : Nat → Nat) (ls : Array Slot) (n : Nat) (L : List Value) : Prop := ls.size = n ∧ lv_wf ls ∧ ∀ (k : Nat) (v : Value), L[k]? = some v → v ≠ .null → ls[k]? = some (.val (cv ad v))
/-- THE JUDGEMENT: method y, at pc, with locals L and stack st (cells by their numbers; null: not set) over the store σ, comes to an end with Q -/
def TT (y : tMS) (pc : Nat) (L st : List Value) (σ : tSt) (Q : Option Int32 → tSt → Prop) : Prop :=
  ∀ (l : Launch) (D : va_G) (ad : Nat → Nat) (cA cZ : ClassId) (p : Program) (e : Env) (s : State) (m : MethodId) (args : Array Value) (below : List Frame) (meth : Method) (c : Code) (H : Heap) (locs : List Loc) (ls : Array Slot),
    tCX y D ad cA cZ p s m meth c → va_P D vwCl (tpic ad cA cZ (shp y.2.2.2.2.2) σ) H → va_S (tAW (shp y.2.2.2.2.2).length ad s.heap.size) s.heap H locs → tLR ad ls y.2.2.1 L →
    W p l e y.2.2.2.2.1 s m args below meth c H locs 0 0 (MQ below (tQR y.2.2.2.2.2 D ad cA cZ Q) args s 0 0 (tAW (shp y.2.2.2.2.2).length ad s.heap.size)) (F0 m pc ls (st.map (cv ad)))
def tPX (w : Nat) (D : va_G) (ad : Nat → Nat) (cA cZ : ClassId) (σ : tSt) (sz : Nat) (U : State) : Prop :=
  U.heap.size = sz ∧ tTB U ∧ va_K D vwCl (tTy cA cZ) U ∧ tInj ad (shp w).length ∧ va_P D vwCl (tpic ad cA cZ (shp w) σ) U.heap ∧ tSF w ad (tAW (shp w).length ad sz) U
/-- THE CONTRACT: method z, called with as over σ -/
def CT (z : tMS) (as : List Value) (σ : tSt) (Q : Option Int32 → tSt → Prop) : Prop :=
  ∀ (l : Launch) (D : va_G) (ad : Nat → Nat) (cA cZ : ClassId) (sz : Nat), Met l z.1 [.code z.1 z.2.1 z.2.2.1 z.2.2.2.1] z.2.2.2.2.1 (va_Pc (as.map (cv ad)) (tPX z.2.2.2.2.2 D ad cA cZ σ sz)) (tQR z.2.2.2.2.2 D ad cA cZ Q) 0 0 (tAW (shp z.2.2.2.2.2).length ad sz)
theorem cv_cat (ad : Nat → Nat) (v : Value) : (cv ad v).category = v.category := by cases v <;> rfl
theorem tLR_entry (ad : Nat → Nat) (as : List Value) (n j : Nat) (hc : ∀ v ∈ as, v.category = 1) (hn : as.length + j = n) :
    tLR ad ((lg_sl (as.map (cv ad)) ++ List.replicate (n - (lg_sl (as.map (cv ad))).length) Slot.unset).toArray) n (as ++ List.replicate j .null) := by
  have hsl : ∀ l : List Value, (∀ v ∈ l, v.category = 1) → lg_sl (l.map (cv ad)) = l.map (fun v => Slot.val (cv ad v)) := by
    intro l
    induction l with
    | nil => intro _; rfl
    | cons v t ih =>
      intro h
      have h1 := h v List.mem_cons_self
      simp only [List.map_cons, lg_sl, List.flatMap_cons, cv_cat, h1]
      have := ih (fun w hw => h w (List.mem_cons_of_mem _ hw))
      simp only [lg_sl] at this
      rw [this]
      rfl
  have hlen : (lg_sl (as.map (cv ad))).length ≤ n := by rw [hsl as hc]; simp; omega
  obtain ⟨h1, h2, -⟩ := lv_entry (as.map (cv ad)) hlen
  refine ⟨h1, h2, fun k v hk hv => ?_⟩
  rw [hsl as hc]
  by_cases hkl : k < as.length
  · rw [List.getElem?_append_left hkl] at hk
    simp [List.getElem?_append_left, hkl, hk]
    have := List.getElem?_eq_some_iff.mp hk
    obtain ⟨_, e⟩ := this
    rw [e]
  · rw [List.getElem?_append_right (by omega)] at hk
    have := List.mem_of_getElem? hk
    rw [List.mem_replicate] at this
    exact absurd this.2 hv
theorem CT.of {z : tMS} {as : List Value} {σ : tSt} {Q : Option Int32 → tSt → Prop} (j : Nat) (hy : plainName z.1.cls = true) (hc : ∀ v ∈ as, v.category = 1) (hn : as.length + j = z.2.2.1) (h : TT z 0 (as ++ List.replicate j .null) [] σ Q) : CT z as σ Q := by
  intro l D ad cA cZ sz
  refine Met.ofW (cc := z.2.1) (maxL := z.2.2.1) (ret := z.2.2.2.1) hy rfl ?_
  intro p e s m args below meth c s₁ B hml hv
  obtain ⟨rfl, hsz, hT, hK, hI, hP, hF⟩ := hv
  subst hsz
  rw [lg_entry_eq]
  exact h l D ad cA cZ p e s m _ below meth c s.heap [] _ ⟨B.exec, B.bytes, hml, B.returns, B.notSynchronized, findClass_of_methodNamed B.named, hT, hK, hI, hF⟩ hP va_S.rf (tLR_entry ad as z.2.2.1 j hc hn)
theorem CT.mono {z : tMS} {as : List Value} {σ : tSt} {Q Q' : Option Int32 → tSt → Prop} (h : CT z as σ Q) (hq : ∀ r σ', Q r σ' → Q' r σ') : CT z as σ Q' := by
  intro l D ad cA cZ sz p e h1 h2 h3 s m args below h4 h5 h6 h7
  obtain ⟨k, o, a1, a2, a3, ⟨⟨r, σ', b1, b2, b3⟩, b4⟩, a4⟩ := h l D ad cA cZ sz p e h1 h2 h3 s m args below h4 h5 h6 h7
  exact ⟨k, o, a1, a2, a3, ⟨⟨r, σ', b1, hq r σ' b2, b3⟩, b4⟩, a4⟩
end
section
/-! ROWS OF THE JUDGEMENT, one an instruction -/
def DC (y : tMS) (pc : Nat) (i : Instr) (n pc' : Nat) : Prop := decode y.2.1 pc = .ok (i, n) ∧ pc + n = pc'
def DJ (y : tMS) (pc : Nat) (f : Int → Instr) (tgt pc' : Nat) : Prop := ∃ off : Int, decode y.2.1 pc = .ok (f off, 3) ∧ (pc : Int) + off = (tgt : Int) ∧ pc + 3 = pc'
section TROWS
variable {y : tMS} {pc pc' tgt : Nat} {L st : List Value} {σ : tSt} {Q : Option Int32 → tSt → Prop}
theorem tr_iconst {n : Int} (d : DC y pc (.iconst n) 1 pc') (v : Int32) (hv : Int32.ofInt n = v) (k : TT y pc' L (.int v :: st) σ Q) : TT y pc L (st) σ Q := by
  intro l D ad cA cZ p e s m args below meth c H locs ls hC hP hS hL
  obtain ⟨hd, rfl⟩ := d
  exact lv_iconst hC.1 hC.2.1 hd hv (k l D ad cA cZ p e s m args below meth c H locs ls hC hP hS hL)
theorem tr_bipush {n : Int} (d : DC y pc (.bipush n) 2 pc') (v : Int32) (hv : (Int8.ofInt n).toInt32 = v) (k : TT y pc' L (.int v :: st) σ Q) : TT y pc L (st) σ Q := by
  intro l D ad cA cZ p e s m args below meth c H locs ls hC hP hS hL
  obtain ⟨hd, rfl⟩ := d
  exact lv_bipush hC.1 hC.2.1 hd hv (k l D ad cA cZ p e s m args below meth c H locs ls hC hP hS hL)
theorem tr_sipush {n : Int} (d : DC y pc (.sipush n) 3 pc') (v : Int32) (hv : (Int16.ofInt n).toInt32 = v) (k : TT y pc' L (.int v :: st) σ Q) : TT y pc L (st) σ Q := by
  intro l D ad cA cZ p e s m args below meth c H locs ls hC hP hS hL
  obtain ⟨hd, rfl⟩ := d
  exact lv_sipush hC.1 hC.2.1 hd hv (k l D ad cA cZ p e s m args below meth c H locs ls hC hP hS hL)
theorem tr_iload_n {i : Fin 4} {x : Int32} (d : DC y pc (.iload_n i) 1 pc') (hl : L[(i : Nat)]? = some (.int x)) (k : TT y pc' L (.int x :: st) σ Q) : TT y pc L (st) σ Q := by
  intro l D ad cA cZ p e s m args below meth c H locs ls hC hP hS hL
  obtain ⟨hd, rfl⟩ := d
  exact lv_iload_n hC.1 hC.2.1 hd rfl (hL.2.2 _ _ hl (fun h => by cases h)) (k l D ad cA cZ p e s m args below meth c H locs ls hC hP hS hL)
theorem tr_iload {i : Nat} {x : Int32} (d : DC y pc (.iload i) 2 pc') (hl : L[i]? = some (.int x)) (k : TT y pc' L (.int x :: st) σ Q) : TT y pc L (st) σ Q := by
  intro l D ad cA cZ p e s m args below meth c H locs ls hC hP hS hL
  obtain ⟨hd, rfl⟩ := d
  exact lv_iload hC.1 hC.2.1 hd (hL.2.2 _ _ hl (fun h => by cases h)) (k l D ad cA cZ p e s m args below meth c H locs ls hC hP hS hL)
theorem tr_aload_n {i : Fin 4} {x : Nat} (d : DC y pc (.aload_n i) 1 pc') (hl : L[(i : Nat)]? = some (.ref x)) (k : TT y pc' L (.ref x :: st) σ Q) : TT y pc L (st) σ Q := by
  intro l D ad cA cZ p e s m args below meth c H locs ls hC hP hS hL
  obtain ⟨hd, rfl⟩ := d
  exact lv_aload_n hC.1 hC.2.1 hd rfl (hL.2.2 _ _ hl (fun h => by cases h)) (k l D ad cA cZ p e s m args below meth c H locs ls hC hP hS hL)
theorem tr_aload {i : Nat} {x : Nat} (d : DC y pc (.aload i) 2 pc') (hl : L[i]? = some (.ref x)) (k : TT y pc' L (.ref x :: st) σ Q) : TT y pc L (st) σ Q := by
  intro l D ad cA cZ p e s m args below meth c H locs ls hC hP hS hL
  obtain ⟨hd, rfl⟩ := d
  exact lv_aload hC.1 hC.2.1 hd (hL.2.2 _ _ hl (fun h => by cases h)) (k l D ad cA cZ p e s m args below meth c H locs ls hC hP hS hL)
theorem tr_iadd {a b : Int32} (d : DC y pc .iadd 1 pc') (k : TT y pc' L (.int (a + b) :: st) σ Q) : TT y pc L (.int b :: .int a :: st) σ Q := by
  intro l D ad cA cZ p e s m args below meth c H locs ls hC hP hS hL
  obtain ⟨hd, rfl⟩ := d
  exact lv_iadd hC.1 hC.2.1 hd (k l D ad cA cZ p e s m args below meth c H locs ls hC hP hS hL)
theorem tr_isub {a b : Int32} (d : DC y pc .isub 1 pc') (k : TT y pc' L (.int (a - b) :: st) σ Q) : TT y pc L (.int b :: .int a :: st) σ Q := by
  intro l D ad cA cZ p e s m args below meth c H locs ls hC hP hS hL
  obtain ⟨hd, rfl⟩ := d
  exact lv_isub hC.1 hC.2.1 hd (k l D ad cA cZ p e s m args below meth c H locs ls hC hP hS hL)
theorem tr_imul {a b : Int32} (d : DC y pc .imul 1 pc') (k : TT y pc' L (.int (a * b) :: st) σ Q) : TT y pc L (.int b :: .int a :: st) σ Q := by
  intro l D ad cA cZ p e s m args below meth c H locs ls hC hP hS hL
  obtain ⟨hd, rfl⟩ := d
  exact lv_imul hC.1 hC.2.1 hd (k l D ad cA cZ p e s m args below meth c H locs ls hC hP hS hL)
theorem tr_iand {a b : Int32} (d : DC y pc .iand 1 pc') (k : TT y pc' L (.int (a &&& b) :: st) σ Q) : TT y pc L (.int b :: .int a :: st) σ Q := by
  intro l D ad cA cZ p e s m args below meth c H locs ls hC hP hS hL
  obtain ⟨hd, rfl⟩ := d
  exact lv_iand hC.1 hC.2.1 hd (k l D ad cA cZ p e s m args below meth c H locs ls hC hP hS hL)
theorem tr_idiv {a b : Int32} (d : DC y pc .idiv 1 pc') (hb : ¬ b = 0) (k : TT y pc' L (.int (a / b) :: st) σ Q) : TT y pc L (.int b :: .int a :: st) σ Q := by
  intro l D ad cA cZ p e s m args below meth c H locs ls hC hP hS hL
  obtain ⟨hd, rfl⟩ := d
  exact lv_idiv hC.1 hC.2.1 hd hb (k l D ad cA cZ p e s m args below meth c H locs ls hC hP hS hL)
theorem tr_dup {v : Value} (d : DC y pc .dup 1 pc') (hv : v.category = 1) (k : TT y pc' L (v :: v :: st) σ Q) : TT y pc L (v :: st) σ Q := by
  intro l D ad cA cZ p e s m args below meth c H locs ls hC hP hS hL
  obtain ⟨hd, rfl⟩ := d
  exact lv_dup hC.1 hC.2.1 hd ((cv_cat ad v).trans hv) (k l D ad cA cZ p e s m args below meth c H locs ls hC hP hS hL)
theorem tr_dup2 {v w : Value} (d : DC y pc .dup2 1 pc') (hv : v.category = 1) (hw : w.category = 1) (k : TT y pc' L (v :: w :: v :: w :: st) σ Q) : TT y pc L (v :: w :: st) σ Q := by
  intro l D ad cA cZ p e s m args below meth c H locs ls hC hP hS hL
  obtain ⟨hd, rfl⟩ := d
  exact lv_dup2_11 hC.1 hC.2.1 hd ((cv_cat ad v).trans hv) ((cv_cat ad w).trans hw) (k l D ad cA cZ p e s m args below meth c H locs ls hC hP hS hL)
theorem tr_pop {v : Value} (d : DC y pc .pop 1 pc') (hv : v.category = 1) (k : TT y pc' L (st) σ Q) : TT y pc L (v :: st) σ Q := by
  intro l D ad cA cZ p e s m args below meth c H locs ls hC hP hS hL
  obtain ⟨hd, rfl⟩ := d
  exact lv_pop hC.1 hC.2.1 hd ((cv_cat ad v).trans hv) (k l D ad cA cZ p e s m args below meth c H locs ls hC hP hS hL)
theorem tr_goto (d : DJ y pc .goto tgt pc') (k : TT y tgt L st σ Q) : TT y pc L st σ Q := by
  intro l D ad cA cZ p e s m args below meth c H locs ls hC hP hS hL
  obtain ⟨off, hd, ht, rfl⟩ := d
  exact lv_goto hC.1 hC.2.1 hd ht (k l D ad cA cZ p e s m args below meth c H locs ls hC hP hS hL)
theorem tr_icmp_eq {a b : Int32} (d : DJ y pc (.if_icmp .eq) tgt pc') (k : (a = b) → TT y tgt L st σ Q) (k2 : ¬ (a = b) → TT y pc' L st σ Q) : TT y pc L (.int b :: .int a :: st) σ Q := by
  intro l D ad cA cZ p e s m args below meth c H locs ls hC hP hS hL
  obtain ⟨off, hd, ht, rfl⟩ := d
  exact lv_icmp_eq hC.1 hC.2.1 hd ht (fun h => k h l D ad cA cZ p e s m args below meth c H locs ls hC hP hS hL) (fun h => k2 h l D ad cA cZ p e s m args below meth c H locs ls hC hP hS hL)
theorem tr_icmp_ne {a b : Int32} (d : DJ y pc (.if_icmp .ne) tgt pc') (k : (¬ a = b) → TT y tgt L st σ Q) (k2 : a = b → TT y pc' L st σ Q) : TT y pc L (.int b :: .int a :: st) σ Q := by
  intro l D ad cA cZ p e s m args below meth c H locs ls hC hP hS hL
  obtain ⟨off, hd, ht, rfl⟩ := d
  exact lv_icmp_ne hC.1 hC.2.1 hd ht (fun h => k h l D ad cA cZ p e s m args below meth c H locs ls hC hP hS hL) (fun h => k2 h l D ad cA cZ p e s m args below meth c H locs ls hC hP hS hL)
theorem tr_icmp_lt {a b : Int32} (d : DJ y pc (.if_icmp .lt) tgt pc') (k : (a < b) → TT y tgt L st σ Q) (k2 : ¬ (a < b) → TT y pc' L st σ Q) : TT y pc L (.int b :: .int a :: st) σ Q := by
  intro l D ad cA cZ p e s m args below meth c H locs ls hC hP hS hL
  obtain ⟨off, hd, ht, rfl⟩ := d
  exact lv_icmp_lt hC.1 hC.2.1 hd ht (fun h => k h l D ad cA cZ p e s m args below meth c H locs ls hC hP hS hL) (fun h => k2 h l D ad cA cZ p e s m args below meth c H locs ls hC hP hS hL)
theorem tr_icmp_ge {a b : Int32} (d : DJ y pc (.if_icmp .ge) tgt pc') (k : (b ≤ a) → TT y tgt L st σ Q) (k2 : ¬ (b ≤ a) → TT y pc' L st σ Q) : TT y pc L (.int b :: .int a :: st) σ Q := by
  intro l D ad cA cZ p e s m args below meth c H locs ls hC hP hS hL
  obtain ⟨off, hd, ht, rfl⟩ := d
  exact lv_icmp_ge hC.1 hC.2.1 hd ht (fun h => k h l D ad cA cZ p e s m args below meth c H locs ls hC hP hS hL) (fun h => k2 h l D ad cA cZ p e s m args below meth c H locs ls hC hP hS hL)
theorem tr_icmp_gt {a b : Int32} (d : DJ y pc (.if_icmp .gt) tgt pc') (k : (b < a) → TT y tgt L st σ Q) (k2 : ¬ (b < a) → TT y pc' L st σ Q) : TT y pc L (.int b :: .int a :: st) σ Q := by
  intro l D ad cA cZ p e s m args below meth c H locs ls hC hP hS hL
  obtain ⟨off, hd, ht, rfl⟩ := d
  exact lv_icmp_gt hC.1 hC.2.1 hd ht (fun h => k h l D ad cA cZ p e s m args below meth c H locs ls hC hP hS hL) (fun h => k2 h l D ad cA cZ p e s m args below meth c H locs ls hC hP hS hL)
theorem tr_icmp_le {a b : Int32} (d : DJ y pc (.if_icmp .le) tgt pc') (k : (a ≤ b) → TT y tgt L st σ Q) (k2 : ¬ (a ≤ b) → TT y pc' L st σ Q) : TT y pc L (.int b :: .int a :: st) σ Q := by
  intro l D ad cA cZ p e s m args below meth c H locs ls hC hP hS hL
  obtain ⟨off, hd, ht, rfl⟩ := d
  exact lv_icmp_le hC.1 hC.2.1 hd ht (fun h => k h l D ad cA cZ p e s m args below meth c H locs ls hC hP hS hL) (fun h => k2 h l D ad cA cZ p e s m args below meth c H locs ls hC hP hS hL)
theorem tr_if_eq {a : Int32} (d : DJ y pc (.ifCond .eq) tgt pc') (k : (a = 0) → TT y tgt L st σ Q) (k2 : ¬ (a = 0) → TT y pc' L st σ Q) : TT y pc L (.int a :: st) σ Q := by
  intro l D ad cA cZ p e s m args below meth c H locs ls hC hP hS hL
  obtain ⟨off, hd, ht, rfl⟩ := d
  exact lv_if_eq hC.1 hC.2.1 hd ht (fun h => k h l D ad cA cZ p e s m args below meth c H locs ls hC hP hS hL) (fun h => k2 h l D ad cA cZ p e s m args below meth c H locs ls hC hP hS hL)
theorem tr_if_ne {a : Int32} (d : DJ y pc (.ifCond .ne) tgt pc') (k : (¬ a = 0) → TT y tgt L st σ Q) (k2 : a = 0 → TT y pc' L st σ Q) : TT y pc L (.int a :: st) σ Q := by
  intro l D ad cA cZ p e s m args below meth c H locs ls hC hP hS hL
  obtain ⟨off, hd, ht, rfl⟩ := d
  exact lv_if_ne hC.1 hC.2.1 hd ht (fun h => k h l D ad cA cZ p e s m args below meth c H locs ls hC hP hS hL) (fun h => k2 h l D ad cA cZ p e s m args below meth c H locs ls hC hP hS hL)
theorem tr_if_lt {a : Int32} (d : DJ y pc (.ifCond .lt) tgt pc') (k : (a < 0) → TT y tgt L st σ Q) (k2 : ¬ (a < 0) → TT y pc' L st σ Q) : TT y pc L (.int a :: st) σ Q := by
  intro l D ad cA cZ p e s m args below meth c H locs ls hC hP hS hL
  obtain ⟨off, hd, ht, rfl⟩ := d
  exact lv_if_lt hC.1 hC.2.1 hd ht (fun h => k h l D ad cA cZ p e s m args below meth c H locs ls hC hP hS hL) (fun h => k2 h l D ad cA cZ p e s m args below meth c H locs ls hC hP hS hL)
theorem tr_if_ge {a : Int32} (d : DJ y pc (.ifCond .ge) tgt pc') (k : (0 ≤ a) → TT y tgt L st σ Q) (k2 : ¬ (0 ≤ a) → TT y pc' L st σ Q) : TT y pc L (.int a :: st) σ Q := by
  intro l D ad cA cZ p e s m args below meth c H locs ls hC hP hS hL
  obtain ⟨off, hd, ht, rfl⟩ := d
  exact lv_if_ge hC.1 hC.2.1 hd ht (fun h => k h l D ad cA cZ p e s m args below meth c H locs ls hC hP hS hL) (fun h => k2 h l D ad cA cZ p e s m args below meth c H locs ls hC hP hS hL)
theorem tr_if_gt {a : Int32} (d : DJ y pc (.ifCond .gt) tgt pc') (k : (0 < a) → TT y tgt L st σ Q) (k2 : ¬ (0 < a) → TT y pc' L st σ Q) : TT y pc L (.int a :: st) σ Q := by
  intro l D ad cA cZ p e s m args below meth c H locs ls hC hP hS hL
  obtain ⟨off, hd, ht, rfl⟩ := d
  exact lv_if_gt hC.1 hC.2.1 hd ht (fun h => k h l D ad cA cZ p e s m args below meth c H locs ls hC hP hS hL) (fun h => k2 h l D ad cA cZ p e s m args below meth c H locs ls hC hP hS hL)
theorem tr_if_le {a : Int32} (d : DJ y pc (.ifCond .le) tgt pc') (k : (a ≤ 0) → TT y tgt L st σ Q) (k2 : ¬ (a ≤ 0) → TT y pc' L st σ Q) : TT y pc L (.int a :: st) σ Q := by
  intro l D ad cA cZ p e s m args below meth c H locs ls hC hP hS hL
  obtain ⟨off, hd, ht, rfl⟩ := d
  exact lv_if_le hC.1 hC.2.1 hd ht (fun h => k h l D ad cA cZ p e s m args below meth c H locs ls hC hP hS hL) (fun h => k2 h l D ad cA cZ p e s m args below meth c H locs ls hC hP hS hL)
theorem tLR_set {ad : Nat → Nat} {ls' : Array Slot} {n i : Nat} {v : Value} (h' : lv_has ls' n ((i, cv ad v) :: ((L.zipIdx.filterMap (fun q => if q.1 = .null then none else some (q.2, cv ad q.1))).filter (fun q => !(q.1 == i) && !(q.1 + 1 == i && q.2.category == 2))))) (hc : ∀ w ∈ L, w.category = 1 ∨ w = .null) : tLR ad ls' n (L.set i v) := by
  refine ⟨h'.1, h'.2.1, fun k w hk hw => ?_⟩
  by_cases hki : k = i
  · subst hki
    have hlt : k < L.length := by
      have := (List.getElem?_eq_some_iff.mp hk).1
      simpa using this
    rw [List.getElem?_set_self hlt] at hk
    cases hk
    exact h'.2.2 (k, cv ad v) List.mem_cons_self
  · rw [List.getElem?_set_ne (Ne.symm hki)] at hk
    refine h'.2.2 (k, cv ad w) (List.mem_cons_of_mem _ (List.mem_filter.mpr ⟨List.mem_filterMap.mpr ⟨(w, k), ?_, by simp [hw]⟩, ?_⟩))
    · exact List.mem_zipIdx_iff_getElem?.mpr hk
    · have h1 : (cv ad w).category = 1 := by
        rw [cv_cat]
        rcases hc w (List.mem_of_getElem? hk) with h | h
        · exact h
        · exact absurd h hw
      simp [hki, h1]
theorem tLR_has {ad : Nat → Nat} {ls : Array Slot} {n : Nat} (h : tLR ad ls n L) : lv_has ls n (L.zipIdx.filterMap (fun q => if q.1 = .null then none else some (q.2, cv ad q.1))) := by
  refine ⟨h.1, h.2.1, fun q hq => ?_⟩
  obtain ⟨⟨w, k⟩, h1, h2⟩ := List.mem_filterMap.mp hq
  by_cases hw : w = .null
  · simp [hw] at h2
  · simp [hw] at h2
    subst h2
    exact h.2.2 k w (List.mem_zipIdx_iff_getElem?.mp h1) hw
/-- all locals are ints, cells or unset -/
def tC1 (L : List Value) : Bool := L.all (fun w => match w with
  | .int _ => true
  | .ref _ => true
  | .null => true
  | _ => false)
theorem tC1_all (h : tC1 L = true) : ∀ w ∈ L, w.category = 1 ∨ w = .null := by
  intro w hw
  have := List.all_eq_true.mp h w hw
  cases w <;> simp_all [Value.category]
theorem tr_istore_n {i : Fin 4} {x : Int32} (d : DC y pc (.istore_n i) 1 pc') (hi : (i : Nat) < y.2.2.1) (hc : tC1 L = true) (k : TT y pc' (L.set (i : Nat) (.int x)) st σ Q) : TT y pc L (.int x :: st) σ Q := by
  intro l D ad cA cZ p e s m args below meth c H locs ls hC hP hS hL
  obtain ⟨hd, rfl⟩ := d
  exact lv_istore_n hC.1 hC.2.1 hd rfl (tLR_has hL) hi rfl (fun ls' h' => k l D ad cA cZ p e s m args below meth c H locs ls' hC hP hS (tLR_set (v := .int x) h' (tC1_all hc)))
theorem tr_istore {i : Nat} {x : Int32} (d : DC y pc (.istore i) 2 pc') (hi : (i : Nat) < y.2.2.1) (hc : tC1 L = true) (k : TT y pc' (L.set (i : Nat) (.int x)) st σ Q) : TT y pc L (.int x :: st) σ Q := by
  intro l D ad cA cZ p e s m args below meth c H locs ls hC hP hS hL
  obtain ⟨hd, rfl⟩ := d
  exact lv_istore hC.1 hC.2.1 hd (tLR_has hL) hi rfl (fun ls' h' => k l D ad cA cZ p e s m args below meth c H locs ls' hC hP hS (tLR_set (v := .int x) h' (tC1_all hc)))
theorem tr_astore_n {i : Fin 4} {x : Nat} (d : DC y pc (.astore_n i) 1 pc') (hi : (i : Nat) < y.2.2.1) (hc : tC1 L = true) (k : TT y pc' (L.set (i : Nat) (.ref x)) st σ Q) : TT y pc L (.ref x :: st) σ Q := by
  intro l D ad cA cZ p e s m args below meth c H locs ls hC hP hS hL
  obtain ⟨hd, rfl⟩ := d
  exact lv_astore_n hC.1 hC.2.1 hd rfl (tLR_has hL) hi rfl (fun ls' h' => k l D ad cA cZ p e s m args below meth c H locs ls' hC hP hS (tLR_set (v := .ref x) h' (tC1_all hc)))
theorem tr_astore {i : Nat} {x : Nat} (d : DC y pc (.astore i) 2 pc') (hi : (i : Nat) < y.2.2.1) (hc : tC1 L = true) (k : TT y pc' (L.set (i : Nat) (.ref x)) st σ Q) : TT y pc L (.ref x :: st) σ Q := by
  intro l D ad cA cZ p e s m args below meth c H locs ls hC hP hS hL
  obtain ⟨hd, rfl⟩ := d
  exact lv_astore hC.1 hC.2.1 hd (tLR_has hL) hi rfl (fun ls' h' => k l D ad cA cZ p e s m args below meth c H locs ls' hC hP hS (tLR_set (v := .ref x) h' (tC1_all hc)))
theorem tr_iinc {i : Nat} {n : Int} {x : Int32} (d : DC y pc (.iinc i n) 3 pc') (v : Int32) (hv : x + Int32.ofInt n = v) (hl : L[i]? = some (.int x)) (hi : i < y.2.2.1) (hc : tC1 L = true) (k : TT y pc' (L.set i (.int v)) st σ Q) : TT y pc L st σ Q := by
  intro l D ad cA cZ p e s m args below meth c H locs ls hC hP hS hL
  obtain ⟨hd, rfl⟩ := d
  have hm : (i, Value.int x) ∈ L.zipIdx.filterMap (fun q => if q.1 = .null then none else some (q.2, cv ad q.1)) := List.mem_filterMap.mpr ⟨(.int x, i), List.mem_zipIdx_iff_getElem?.mpr hl, rfl⟩
  obtain ⟨kk, hkk⟩ := List.getElem?_of_mem hm
  exact lv_iinc hC.1 hC.2.1 hd (tLR_has hL) hkk hv hi rfl (fun ls' h' => k l D ad cA cZ p e s m args below meth c H locs ls' hC hP hS (tLR_set (v := .int v) h' (tC1_all hc)))
theorem tr_ret {v : Int32} {ty : FieldType} (d : DC y pc .ireturn 1 pc') (hr : y.2.2.2.1 = some ty) (hn : narrow ty (.int v) = .int v) (hq : Q (some v) σ) : TT y pc L [.int v] σ Q := by
  intro l D ad cA cZ p e s m args below meth c H locs ls hC hP hS hL
  exact W.zret hC.1 hC.2.1 (hC.2.2.2.1.trans hr) hn (fun t ht hW => ⟨⟨some v, σ, rfl, hq, by rw [ht]; exact hP⟩, hS.F ht⟩) hS.2.2 d.1 hC.2.2.2.2.1
theorem tr_vret (d : DC y pc .return_ 1 pc') (hr : y.2.2.2.1 = none) (hq : Q none σ) : TT y pc L [] σ Q := by
  intro l D ad cA cZ p e s m args below meth c H locs ls hC hP hS hL
  exact W.vret hC.1 hC.2.1 (hC.2.2.2.1.trans hr) (fun t ht hW => ⟨⟨none, σ, rfl, hq, by rw [ht]; exact hP⟩, hS.F ht⟩) hS.2.2 d.1 hC.2.2.2.2.1
end TROWS
end
section
/-! ROWS OVER THE WORLD: fields, arrays, statics, calls -/
theorem shp_ok (w : Nat) : (shp w).all (fun q => match q with
  | .inl a => decide (a.2 < 2 ^ 31)
  | .inr o => decide (o.2.length < 2 ^ 31)) = true := by
  unfold shp
  split <;> decide
theorem shp_n {w k : Nat} {b : Bool} {n : Nat} (h : (shp w)[k]? = some (.inl (b, n))) : n < 2 ^ 31 := by
  have := List.all_eq_true.mp (shp_ok w) _ (List.mem_of_getElem? h)
  simpa using this
theorem shp_f {w k : Nat} {ci : Nat} {fs : List (Option Nat)} (h : (shp w)[k]? = some (.inr (ci, fs))) : fs.length < 2 ^ 31 := by
  have := List.all_eq_true.mp (shp_ok w) _ (List.mem_of_getElem? h)
  simpa using this
def tCF (ci : Nat) (C : String) (T : u_T) (N : Nat) (ty : Nat → FieldType) : Prop := vwCl[ci]? = some (C, T, N) ∧ (∀ w ∈ u_ws C T N, tWD w) ∧ (∀ k, k < N → parseFieldDescriptor (T k).2.2.1 = some (ty k)) ∧ (∀ a, a < N → ∀ b, b < N → a ≠ b → (T a).2.1 ≠ (T b).2.1)
def tLF (own : String) (ix : Nat) (C n d : String) : Prop := tWD (.fieldLink own ix C n d) ∨ tWD (.fieldLinkNest own ix C n d "ApronDesk")
def tFK (own : String) (ix ci i : Nat) : Prop := ∃ (C : String) (T : u_T) (N : Nat) (ty : Nat → FieldType), tCF ci C T N ty ∧ i < N ∧ (T i).1 = C ∧ tLF own ix C (T i).2.1 (T i).2.2.1
def tFP (own : String) (ix ci i : Nat) : Prop := ∃ (C : String) (T : u_T) (N : Nat) (ty : Nat → FieldType), tCF ci C T N ty ∧ i < N ∧ (T i).1 = C ∧ tLF own ix C (T i).2.1 (T i).2.2.1 ∧ (T i).2.2.2 = false ∧ ty i = .int
def psh (r : Option Int32) (st : List Value) : List Value := match r with
  | some x => .int x :: st
  | none => st
section THEAP
variable {y : tMS} {pc pc' tgt : Nat} {L st : List Value} {σ : tSt} {Q : Option Int32 → tSt → Prop}
theorem tr_getf {k ci ix i : Nat} {fs : List (Option Nat)} {o : Option Nat} {v : Value} (d : DC y pc (.getfield ix) 3 pc') (hf : tFK y.1.cls ix ci i) (hs : (shp y.2.2.2.2.2)[k]? = some (.inr (ci, fs))) (ho : fs[i]? = some o) (hv : ∀ ad, cv ad v = tfld ad (σ k) i o) (kk : TT y pc' L (v :: st) σ Q) : TT y pc L (.ref k :: st) σ Q := by
  intro l D ad cA cZ p e s m args below meth c H locs ls hC hP hS hL
  obtain ⟨hd, rfl⟩ := d
  obtain ⟨C, T, N, ty, ⟨h1, h2, h3, h4⟩, hi, hT, hl⟩ := hf
  obtain ⟨hx, hb, hml, hr, hlk, hown, hTB, hK, hI, hF⟩ := hC
  have hk := kk l D ad cA cZ p e s m args below meth c H locs ls ⟨hx, hb, hml, hr, hlk, hown, hTB, hK, hI, hF⟩ hP hS hL
  have hvv : (fs.mapIdx (tfld ad (σ k)))[i]? = some (cv ad v) := by rw [List.getElem?_mapIdx, ho, hv]; rfl
  rcases hl with hl | hl
  · exact va_get hx hb (own := y.1.cls) (ref := C) (fun w hw => tTB.use hTB (h2 w hw)) (fun _ h => h) hown hK hP k (tpic_at hs) h1 i hi (tTB.use hTB hl) (fun x h => by rw [hT] at h; exact h) hvv hd hk
  · exact va_getN hx hb (own := y.1.cls) (ref := C) (fun w hw => tTB.use hTB (h2 w hw)) (fun _ h => h) hown hK hP k (tpic_at hs) h1 i hi (tTB.use hTB hl) (fun x h => by rw [hT] at h; exact h) hvv hd hk
theorem tr_getI {k ci ix i : Nat} {fs : List (Option Nat)} (d : DC y pc (.getfield ix) 3 pc') (hf : tFK y.1.cls ix ci i) (hs : (shp y.2.2.2.2.2)[k]? = some (.inr (ci, fs))) (ho : fs[i]? = some none) (kk : TT y pc' L (.int (σ k (nI i)) :: st) σ Q) : TT y pc L (.ref k :: st) σ Q := tr_getf d hf hs ho (fun _ => rfl) kk
theorem tr_getR {k ci ix i j : Nat} {fs : List (Option Nat)} (d : DC y pc (.getfield ix) 3 pc') (hf : tFK y.1.cls ix ci i) (hs : (shp y.2.2.2.2.2)[k]? = some (.inr (ci, fs))) (ho : fs[i]? = some (some j)) (kk : TT y pc' L (.ref j :: st) σ Q) : TT y pc L (.ref k :: st) σ Q := tr_getf d hf hs ho (fun _ => rfl) kk
theorem tr_put {k ci ix i : Nat} {fs : List (Option Nat)} {x : Int32} (d : DC y pc (.putfield ix) 3 pc') (hf : tFP y.1.cls ix ci i) (hs : (shp y.2.2.2.2.2)[k]? = some (.inr (ci, fs))) (ho : fs[i]? = some none) (kk : TT y pc' L st (up σ k (nI i) x) Q) : TT y pc L (.int x :: .ref k :: st) σ Q := by
  intro l D ad cA cZ p e s m args below meth c H locs ls hC hP hS hL
  obtain ⟨hd, rfl⟩ := d
  obtain ⟨C, T, N, ty, ⟨h1, h2, h3, h4⟩, hi, hT, hl, hfin, hty⟩ := hf
  obtain ⟨hx, hb, hml, hr, hlk, hown, hTB, hK, hI, hF⟩ := hC
  have hl2 : i < (fs.mapIdx (tfld ad (σ k))).length := by simpa using (List.getElem?_eq_some_iff.mp ho).1
  rcases hl with hl | hl
  · exact va_put hx hb (own := y.1.cls) (ref := C) (fun w hw => tTB.use hTB (h2 w hw)) (fun _ h => h) ty h3 h4 hown hK hP (tpic_D hI) hS k (tpic_at hs) h1 i hi (tTB.use hTB hl) (fun x h => by rw [hT] at h; exact h) hfin (by rw [h3 i hi, hty]) rfl rfl hl2 hd
      (fun H1 locs1 hP1 _ hS1 => kk l D ad cA cZ p e s m args below meth c H1 locs1 ls ⟨hx, hb, hml, hr, hlk, hown, hTB, hK, hI, hF⟩ (tput_fld hs ho (shp_f hs) hP1) hS1 hL)
  · exact va_putN hx hb (own := y.1.cls) (ref := C) (fun w hw => tTB.use hTB (h2 w hw)) (fun _ h => h) ty h3 h4 hown hK hP (tpic_D hI) hS k (tpic_at hs) h1 i hi (tTB.use hTB hl) (fun x h => by rw [hT] at h; exact h) hfin (by rw [h3 i hi, hty]) rfl rfl hl2 hd
      (fun H1 locs1 hP1 _ hS1 => kk l D ad cA cZ p e s m args below meth c H1 locs1 ls ⟨hx, hb, hml, hr, hlk, hown, hTB, hK, hI, hF⟩ (tput_fld hs ho (shp_f hs) hP1) hS1 hL)
theorem tr_iald {k n : Nat} {i : Int32} (d : DC y pc .iaload 1 pc') (hs : (shp y.2.2.2.2.2)[k]? = some (.inl (false, n))) (hi : vp_in i n) (kk : TT y pc' L (.int (σ k i) :: st) σ Q) : TT y pc L (.int i :: .ref k :: st) σ Q := by
  intro l D ad cA cZ p e s m args below meth c H locs ls hC hP hS hL
  obtain ⟨hd, rfl⟩ := d
  have hk := kk l D ad cA cZ p e s m args below meth c H locs ls hC hP hS hL
  have he := (vp_in_eq hi (shp_n hs)).2
  refine va_iald hC.1 hC.2.1 hC.2.2.2.2.2.2.2.1 hP k 0 (tpic_at hs) rfl hi hd ?_
  rw [he]
  exact hk
theorem tr_zald {k n : Nat} {i : Int32} (d : DC y pc .baload 1 pc') (hs : (shp y.2.2.2.2.2)[k]? = some (.inl (true, n))) (hi : vp_in i n) (kk : TT y pc' L (.int (σ k i) :: st) σ Q) : TT y pc L (.int i :: .ref k :: st) σ Q := by
  intro l D ad cA cZ p e s m args below meth c H locs ls hC hP hS hL
  obtain ⟨hd, rfl⟩ := d
  have hk := kk l D ad cA cZ p e s m args below meth c H locs ls hC hP hS hL
  have he := (vp_in_eq hi (shp_n hs)).2
  refine va_zald hC.1 hC.2.1 hC.2.2.2.2.2.2.2.1 hP k 1 (tpic_at hs) rfl hi hd ?_
  rw [he]
  exact hk
theorem tr_iast {k n : Nat} {i x : Int32} (d : DC y pc .iastore 1 pc') (hs : (shp y.2.2.2.2.2)[k]? = some (.inl (false, n))) (hi : vp_in i n) (kk : TT y pc' L st (up σ k i x) Q) : TT y pc L (.int x :: .int i :: .ref k :: st) σ Q := by
  intro l D ad cA cZ p e s m args below meth c H locs ls hC hP hS hL
  obtain ⟨hd, rfl⟩ := d
  exact va_iast hC.1 hC.2.1 hC.2.2.2.2.2.2.2.1 hP (tpic_D hC.2.2.2.2.2.2.2.2.1) hS k 0 (tpic_at hs) rfl hi hd (fun H1 locs1 hP1 _ hS1 => kk l D ad cA cZ p e s m args below meth c H1 locs1 ls hC (tput_arr hs (shp_n hs) hi hP1) hS1 hL)
theorem tr_zast {k n : Nat} {i x : Int32} (d : DC y pc .bastore 1 pc') (hs : (shp y.2.2.2.2.2)[k]? = some (.inl (true, n))) (hi : vp_in i n) (hx : vp_nar .boolean x = x) (kk : TT y pc' L st (up σ k i x) Q) : TT y pc L (.int x :: .int i :: .ref k :: st) σ Q := by
  intro l D ad cA cZ p e s m args below meth c H locs ls hC hP hS hL
  obtain ⟨hd, rfl⟩ := d
  refine va_zast hC.1 hC.2.1 hC.2.2.2.2.2.2.2.1 hP (tpic_D hC.2.2.2.2.2.2.2.2.1) hS k 1 (tpic_at hs) rfl hi hd (fun H1 locs1 hP1 _ hS1 => ?_)
  rw [hx] at hP1
  exact kk l D ad cA cZ p e s m args below meth c H1 locs1 ls hC (tput_arr hs (shp_n hs) hi hP1) hS1 hL
/-- the two static rows of the class: cells 100 and 101 -/
def tTab (k : Nat) (i : Int32) : Int32 := if k = 100 then frO i else coO i
def tTl (k : Nat) : Nat := if k = 100 then 3 else 5
theorem tr_tald {k : Nat} {i : Int32} (d : DC y pc .iaload 1 pc') (hw : y.2.2.2.2.2 = 0) (hk : k = 100 ∨ k = 101) (hi : vp_in i (tTl k)) (kk : TT y pc' L (.int (tTab k i) :: st) σ Q) : TT y pc L (.int i :: .ref k :: st) σ Q := by
  intro l D ad cA cZ p e s m args below meth c H locs ls hC hP hS hL
  obtain ⟨hd, rfl⟩ := d
  have hkk := kk l D ad cA cZ p e s m args below meth c H locs ls hC hP hS hL
  obtain ⟨⟨h1, h2⟩, h3, h4⟩ := hC.2.2.2.2.2.2.2.2.2 hw
  rcases hk with rfl | rfl
  · have he := (vp_in_eq hi (by decide)).2
    exact va_ti hC.1 hC.2.1 h2 hS hi (v := .int (frO i)) (by rw [he]) hd hkk
  · have he := (vp_in_eq hi (by decide)).2
    exact va_ti hC.1 hC.2.1 h4 hS hi (v := .int (coO i)) (by rw [he]) hd hkk
theorem tr_tlen {k : Nat} (d : DC y pc .arraylength 1 pc') (hw : y.2.2.2.2.2 = 0) (hk : k = 100 ∨ k = 101) (kk : TT y pc' L (.int (nI (tTl k)) :: st) σ Q) : TT y pc L (.ref k :: st) σ Q := by
  intro l D ad cA cZ p e s m args below meth c H locs ls hC hP hS hL
  obtain ⟨hd, rfl⟩ := d
  have hkk := kk l D ad cA cZ p e s m args below meth c H locs ls hC hP hS hL
  obtain ⟨⟨h1, h2⟩, h3, h4⟩ := hC.2.2.2.2.2.2.2.2.2 hw
  rcases hk with rfl | rfl
  · exact va_tlen hC.1 hC.2.1 h2 hS rfl hd hkk
  · exact va_tlen hC.1 hC.2.1 h4 hS rfl hd hkk
theorem tr_gets {k ix : Nat} {n : String} (d : DC y pc (.getstatic ix) 3 pc') (hw : y.2.2.2.2.2 = 0) (hk : (k = 100 ∧ n = "FREIGHT_ORDER") ∨ (k = 101 ∧ n = "COMMON_ORDER")) (hl : tLF y.1.cls ix "ApronDesk" n "[I") (kk : TT y pc' L (.ref k :: st) σ Q) : TT y pc L st σ Q := by
  intro l D ad cA cZ p e s m args below meth c H locs ls hC hP hS hL
  obtain ⟨hd, rfl⟩ := d
  have hkk := kk l D ad cA cZ p e s m args below meth c H locs ls hC hP hS hL
  obtain ⟨⟨h1, h2⟩, h3, h4⟩ := hC.2.2.2.2.2.2.2.2.2 hw
  have hTB := hC.2.2.2.2.2.2.1
  rcases hk with ⟨rfl, rfl⟩ | ⟨rfl, rfl⟩ <;> rcases hl with hl | hl
  · exact va_gets hC.1 hC.2.1 h1 hS hC.2.2.2.2.2.1 (tTB.use hTB hl) (fun _ h => h) hd hkk
  · exact va_getsN hC.1 hC.2.1 h1 hS hC.2.2.2.2.2.1 (tTB.use hTB hl) (fun _ h => h) hd hkk
  · exact va_gets hC.1 hC.2.1 h3 hS hC.2.2.2.2.2.1 (tTB.use hTB hl) (fun _ h => h) hd hkk
  · exact va_getsN hC.1 hC.2.1 h3 hS hC.2.2.2.2.2.1 (tTB.use hTB hl) (fun _ h => h) hd hkk
theorem tr_tabIn {dflt lo hi : Int} {offs : Array Int} {len : Nat} {x : Int32} {off : Int} (d : decode y.2.1 pc = .ok (.tableswitch dflt lo hi offs, len)) (h1 : ¬ x.toInt < lo) (h2 : ¬ hi < x.toInt) (ho : offs[(x.toInt - lo).toNat]? = some off) (ht : (pc : Int) + off = (tgt : Int)) (k : TT y tgt L st σ Q) : TT y pc L (.int x :: st) σ Q := by
  intro l D ad cA cZ p e s m args below meth c H locs ls hC hP hS hL
  exact lv_tableIn hC.1 hC.2.1 d h1 h2 ho ht (k l D ad cA cZ p e s m args below meth c H locs ls hC hP hS hL)
theorem tr_tabOut {dflt lo hi : Int} {offs : Array Int} {len : Nat} {x : Int32} (d : decode y.2.1 pc = .ok (.tableswitch dflt lo hi offs, len)) (h : x.toInt < lo ∨ hi < x.toInt) (ht : (pc : Int) + dflt = (tgt : Int)) (k : TT y tgt L st σ Q) : TT y pc L (.int x :: st) σ Q := by
  intro l D ad cA cZ p e s m args below meth c H locs ls hC hP hS hL
  exact lv_tableOut hC.1 hC.2.1 d h ht (k l D ad cA cZ p e s m args below meth c H locs ls hC hP hS hL)
theorem cv_sum (ad : Nat → Nat) (st : List Value) : ((st.map (cv ad)).map fun v => v.category).sum = (st.map fun v => v.category).sum := by
  rw [List.map_map]
  exact congrArg List.sum (List.map_congr_left fun v _ => cv_cat ad v)
theorem tr_max {a b : Int32} {ix : Nat} (d : DC y pc (.invokestatic ix) 3 pc') (hl : tWD (.methodLink y.1.cls ix Lib.Math.max.name)) (h1 : tWD (.static Lib.Math.max.name)) (h2 : tWD (.initialized "java/lang/Math")) (h3 : tWD (.code Lib.Math.max.name Lib.Math.max.code 2 (some .int))) (hR : 1 ≤ y.2.2.2.2.1.frames) (hR2 : (st.map fun v => v.category).sum + 13 ≤ y.2.2.2.2.1.locals) (kk : TT y pc' L (.int (if a < b then b else a) :: st) σ Q) : TT y pc L (.int b :: .int a :: st) σ Q := by
  intro l D ad cA cZ p e s m args below meth c H locs ls hC hP hS hL
  obtain ⟨hd, rfl⟩ := d
  have hTB := hC.2.2.2.2.2.2.1
  exact va_mmax hC.1 hC.2.1 (hC.2.2.1.trans hL.1.symm) hC.2.2.2.2.2.1 (tTB.use hTB hl) (tTB.use hTB h1) (tTB.use hTB h2) (tTB.use hTB h3) hR (by rw [cv_sum]; exact hR2) (Nat.zero_le _) (Nat.zero_le _) hd (kk l D ad cA cZ p e s m args below meth c H locs ls hC hP hS hL)
theorem tr_min {a b : Int32} {ix : Nat} (d : DC y pc (.invokestatic ix) 3 pc') (hl : tWD (.methodLink y.1.cls ix Lib.Math.min.name)) (h1 : tWD (.static Lib.Math.min.name)) (h2 : tWD (.initialized "java/lang/Math")) (h3 : tWD (.code Lib.Math.min.name Lib.Math.min.code 2 (some .int))) (hR : 1 ≤ y.2.2.2.2.1.frames) (hR2 : (st.map fun v => v.category).sum + 13 ≤ y.2.2.2.2.1.locals) (kk : TT y pc' L (.int (if b < a then b else a) :: st) σ Q) : TT y pc L (.int b :: .int a :: st) σ Q := by
  intro l D ad cA cZ p e s m args below meth c H locs ls hC hP hS hL
  obtain ⟨hd, rfl⟩ := d
  have hTB := hC.2.2.2.2.2.2.1
  exact va_mmin hC.1 hC.2.1 (hC.2.2.1.trans hL.1.symm) hC.2.2.2.2.2.1 (tTB.use hTB hl) (tTB.use hTB h1) (tTB.use hTB h2) (tTB.use hTB h3) hR (by rw [cv_sum]; exact hR2) (Nat.zero_le _) (Nat.zero_le _) hd (kk l D ad cA cZ p e s m args below meth c H locs ls hC hP hS hL)
end THEAP
end
section
/-! CALLS -/
theorem tPX.as {w : Nat} {D : va_G} {ad : Nat → Nat} {cA cZ : ClassId} {σ : tSt} {sz : Nat} {U V : State} (hv : U.vm = V.vm) (hh : U.heap = V.heap) (h : tPX w D ad cA cZ σ sz U) : tPX w D ad cA cZ σ sz V := by
  obtain ⟨h1, h2, h3, h4, h5, h6⟩ := h
  have ha : U.vm.Alike V.vm := by rw [hv]; exact Vm.Alike.refl _
  refine ⟨by rw [← hh]; exact h1, h2.same hv, va_K.moved ha h3, h4, by rw [← hh]; exact h5, fun hw => ?_⟩
  obtain ⟨⟨a1, a2⟩, a3, a4⟩ := h6 hw
  rw [← hh]
  exact ⟨⟨va_Z.moved ha a1, va_T.moved ha a2⟩, va_Z.moved ha a3, va_T.moved ha a4⟩
theorem tAW_in {n : Nat} {ad : Nat → Nat} {a b q : Nat} (h : tAW n ad b q) (hab : a ≤ b) : tAW n ad a q := h.elim Or.inl (fun z => Or.inr (Nat.le_trans hab z))
theorem tPX.call {y : tMS} {D : va_G} {ad : Nat → Nat} {cA cZ : ClassId} {p : Program} {s : State} {m : MethodId} {meth : Method} {c : Code} {σ : tSt} {H : Heap} {locs : List Loc} (hC : tCX y D ad cA cZ p s m meth c) (hP : va_P D vwCl (tpic ad cA cZ (shp y.2.2.2.2.2) σ) H) (hS : va_S (tAW (shp y.2.2.2.2.2).length ad s.heap.size) s.heap H locs) {U : State} (hU : U.heap = H) (hW : s.WarmedH U.vm) : tPX y.2.2.2.2.2 D ad cA cZ σ H.size U := by
  obtain ⟨-, -, -, -, -, -, hTB, hK, hI, hF⟩ := hC
  have ha : s.vm.Alike U.vm := hW.alike
  refine ⟨by rw [hU], hTB.warm hW, va_K.moved ha hK, hI, by rw [hU]; exact hP, fun hw => ?_⟩
  obtain ⟨⟨a1, a2⟩, a3, a4⟩ := hF hw
  rw [hU]
  exact ⟨⟨((a1.kept hS.2.1).moved ha).narrow (fun q h => tAW_in h hS.1), ((a2.kept hS.2.1).moved ha).narrow (fun q h => tAW_in h hS.1)⟩, ((a3.kept hS.2.1).moved ha).narrow (fun q h => tAW_in h hS.1), ((a4.kept hS.2.1).moved ha).narrow (fun q h => tAW_in h hS.1)⟩
def tZV (z : tMS) (n : Nat) : Prop := tWD (.code z.1 z.2.1 z.2.2.1 z.2.2.2.1) ∧ tWD (.initialized z.1.cls) ∧ (z.1.cls ≠ "java/lang/invoke/MethodHandle" ∧ z.1.cls ≠ "java/lang/invoke/VarHandle") ∧ (parseMethodDescriptor z.1.desc).map (fun d => d.parameters.length) = some n ∧ z.2.2.2.2.1.cells = 0 ∧ z.2.2.2.2.1.slots = 0
def tZI (z : tMS) : Prop := tWD (.instanceMethod z.1) ∧ tWD (.selects z.1.cls z.1 z.1)
def tLK (own : String) (ix : Nat) (z : tMS) : Prop := tWD (.methodLink own ix z.1) ∨ tWD (.methodLinkNest own ix z.1 "ApronDesk")
def tRM (y z : tMS) : Prop := y.2.2.2.2.2 = z.2.2.2.2.2 ∧ z.2.2.2.2.1.frames + 1 ≤ y.2.2.2.2.1.frames ∧ 8 + (z.2.2.1 + 11) + z.2.2.2.2.1.locals ≤ y.2.2.2.2.1.locals
section TCALL
variable {y z : tMS} {pc pc' tgt : Nat} {L st : List Value} {σ : tSt} {Q Q' : Option Int32 → tSt → Prop}
theorem tTail {p : Program} {l : Launch} {e : Env} {s : State} {m : MethodId} {args : Array Value} {below : List Frame} {meth : Method} {c : Code} {H : Heap} {locs : List Loc} {ls : Array Slot} {D : va_G} {ad : Nat → Nat} {cA cZ : ClassId} {st0 : List Value} {a : Array Value}
    (hC : tCX y D ad cA cZ p s m meth c) (hS : va_S (tAW (shp y.2.2.2.2.2).length ad s.heap.size) s.heap H locs) (hL : tLR ad ls y.2.2.1 L)
    (hr : va_Run p l e y.2.2.2.2.1 s m args below meth c H locs 0 0 0 0 (F0 m pc ls st0) (st.map (cv ad)) (tQR y.2.2.2.2.2 D ad cA cZ Q' a) (tAW (shp y.2.2.2.2.2).length ad H.size))
    (kk : ∀ r σ', Q' r σ' → TT y (pc + 3) L (psh r st) σ' Q) :
    W p l e y.2.2.2.2.1 s m args below meth c H locs 0 0 (MQ below (tQR y.2.2.2.2.2 D ad cA cZ Q) args s 0 0 (tAW (shp y.2.2.2.2.2).length ad s.heap.size)) (F0 m pc ls st0) := by
  intro T hT X
  obtain ⟨v, st₀, t, T', Lc, h0, X', hLc, e1, e2, ⟨⟨r, σ', hv, hq, hP'⟩, hz, hk⟩, stp⟩ := hr T hT X
  rw [h0] at hz hk
  have hv' : v = r.map Value.int := Outcome.returned.inj hv
  subst hv'
  have hS' : va_S (tAW (shp y.2.2.2.2.2).length ad s.heap.size) s.heap T'.heap (locs ++ Lc) := by
    refine ⟨Nat.le_trans hS.1 (by rw [e1]; exact hz), fun q h1 h2 => ?_, fun q hq => ?_⟩
    · rw [e1, hk q (Nat.lt_of_lt_of_le h1 hS.1) (fun z => h2 (tAW_in z hS.1))]
      exact hS.2.1 q h1 h2
    · rcases List.mem_append.mp hq with h | h
      · exact hS.2.2 q h
      · exact tAW_in (hLc q h) hS.1
  obtain ⟨t2, a1, b1⟩ := kk r σ' hq l D ad cA cZ p e s m args below meth c T'.heap (locs ++ Lc) ls hC (by rw [e1]; exact hP') hS' hL T' rfl X'
  refine ⟨t2, stp t2 ?_, b1⟩
  cases r <;> exact a1
theorem tr_callA {as : List Value} {k ix n ci : Nat} {fs : List (Option Nat)} {T : u_T} {N : Nat} (d : DC y pc (.invokevirtual ix) 3 pc') (hz : tZV z n) (hzi : tZI z) (hl : tLK y.1.cls ix z) (hR : tRM y z) (hs : (shp z.2.2.2.2.2)[k]? = some (.inr (ci, fs))) (hcl : vwCl[ci]? = some (z.1.cls, T, N)) (hn : as.length = n) (hst : Nat.ble (st.map fun v => v.category).sum 8 = true)
    (hc : CT z (.ref k :: as) σ Q') (kk : ∀ r σ', Q' r σ' → TT y pc' L (psh r st) σ' Q) : TT y pc L (as.reverse ++ .ref k :: st) σ Q := by
  obtain ⟨hd, rfl⟩ := d
  intro l D ad cA cZ p e s m args below meth c H locs ls hC hP hS hL
  have hM := hc l D ad cA cZ H.size
  obtain ⟨hw, hR1, hR2⟩ := hR
  obtain ⟨z1, z2, z3, z4, z5, z6⟩ := hz
  have hTB := hC.2.2.2.2.2.2.1
  rw [← hw] at hM hs
  have hblind : FrameBlind (va_Pc ((Value.ref k :: as).map (cv ad)) (tPX y.2.2.2.2.2 D ad cA cZ σ H.size)) := fun a U g mk q => ⟨q.1, tPX.as (U := U) rfl rfl q.2⟩
  have hrecv := va_recv hC.2.2.2.2.2.2.2.1 hP hcl (tpic_at hs)
  have hpre : PreV s H z.1.cls (ad k) (va_Pc ((Value.ref k :: as).map (cv ad)) (tPX y.2.2.2.2.2 D ad cA cZ σ H.size)) (as.map (cv ad)) := ⟨hblind, hrecv, fun U hU hW => ⟨rfl, tPX.call hC hP hS hU hW⟩⟩
  have hlen : ∀ sig, parseMethodDescriptor z.1.desc = some sig → n = sig.parameters.length := fun sig h => by
    rw [h] at z4; exact (Option.some.inj z4).symm
  have hwarm : ∀ w ∈ [Cond.code z.1 z.2.1 z.2.2.1 z.2.2.2.1], ∀ (a' : Array Value) (U : State), s.WarmedH U.vm → w.before a' U = true := fun w hw a' U hW => by
    rw [List.mem_singleton] at hw; subst hw; exact tTB.use (hTB.warm hW) z1
  have hstk : (F0 m pc ls ((as.reverse ++ .ref k :: st).map (cv ad))).stack = (as.map (cv ad)).reverse ++ .ref (ad k) :: st.map (cv ad) := by
    simp [cv]
  have hW8 : 2 * (F0 m pc ls ((as.reverse ++ .ref k :: st).map (cv ad))).monitorRoom + ((st.map (cv ad)).map fun v => v.category).sum ≤ 8 := by
    rw [cv_sum]
    exact Nat.le_trans (by simp) (Nat.le_of_ble_eq_true hst)
  have hfix : CallFix p m c y.2.1 y.2.2.1 s args [] y.1.cls := ⟨hC.1, hC.2.1, hC.2.2.1, hC.2.2.2.2.2.1, fun w h => by cases h⟩
  refine tTail (a := (Value.ref (ad k) :: as.map (cv ad)).toArray) hC hS hL ?_ kk
  rcases hl with hl | hl
  · exact va_runV hfix hM ⟨⟨z5, z6, hR1, hR2, hwarm, List.mem_singleton_self _, tTB.use hTB z1, tTB.use hTB z2, z3, hlen, tTB.use hTB hl⟩, tTB.use hTB hzi.1, tTB.use hTB hzi.2⟩ hpre rfl (by simpa using hn) hL.1 hstk hW8 hd ⟨Nat.zero_le _, Nat.zero_le _⟩
  · exact va_runVN hfix hM ⟨⟨⟨z5, z6, hR1, hR2, hwarm, List.mem_singleton_self _⟩, tTB.use hTB z1, tTB.use hTB z2, z3, hlen, tTB.use hTB hl⟩, tTB.use hTB hzi.1, tTB.use hTB hzi.2⟩ hpre rfl (by simpa using hn) hL.1 hstk hW8 hd ⟨Nat.zero_le _, Nat.zero_le _⟩
theorem tr_callS {as : List Value} {ix n : Nat} (d : DC y pc (.invokestatic ix) 3 pc') (hz : tZV z n) (hzi : tWD (.static z.1)) (hl : tLK y.1.cls ix z) (hR : tRM y z) (hn : as.length = n) (hst : Nat.ble (st.map fun v => v.category).sum 8 = true)
    (hc : CT z as σ Q') (kk : ∀ r σ', Q' r σ' → TT y pc' L (psh r st) σ' Q) : TT y pc L (as.reverse ++ st) σ Q := by
  obtain ⟨hd, rfl⟩ := d
  intro l D ad cA cZ p e s m args below meth c H locs ls hC hP hS hL
  have hM := hc l D ad cA cZ H.size
  obtain ⟨hw, hR1, hR2⟩ := hR
  obtain ⟨z1, z2, z3, z4, z5, z6⟩ := hz
  have hTB := hC.2.2.2.2.2.2.1
  rw [← hw] at hM
  have hblind : FrameBlind (va_Pc (as.map (cv ad)) (tPX y.2.2.2.2.2 D ad cA cZ σ H.size)) := fun a U g mk q => ⟨q.1, tPX.as (U := U) rfl rfl q.2⟩
  have hpre : PreS s H (va_Pc (as.map (cv ad)) (tPX y.2.2.2.2.2 D ad cA cZ σ H.size)) (as.map (cv ad)) := ⟨hblind, fun U hU hW => ⟨rfl, tPX.call hC hP hS hU hW⟩⟩
  have hlen : ∀ sig, parseMethodDescriptor z.1.desc = some sig → n = sig.parameters.length := fun sig h => by
    rw [h] at z4; exact (Option.some.inj z4).symm
  have hwarm : ∀ w ∈ [Cond.code z.1 z.2.1 z.2.2.1 z.2.2.2.1], ∀ (a' : Array Value) (U : State), s.WarmedH U.vm → w.before a' U = true := fun w hw a' U hW => by
    rw [List.mem_singleton] at hw; subst hw; exact tTB.use (hTB.warm hW) z1
  have hstk : (F0 m pc ls ((as.reverse ++ st).map (cv ad))).stack = (as.map (cv ad)).reverse ++ st.map (cv ad) := by
    simp
  have hW8 : 2 * (F0 m pc ls ((as.reverse ++ st).map (cv ad))).monitorRoom + ((st.map (cv ad)).map fun v => v.category).sum ≤ 8 := by
    rw [cv_sum]
    exact Nat.le_trans (by simp) (Nat.le_of_ble_eq_true hst)
  have hfix : CallFix p m c y.2.1 y.2.2.1 s args [] y.1.cls := ⟨hC.1, hC.2.1, hC.2.2.1, hC.2.2.2.2.2.1, fun w h => by cases h⟩
  refine tTail (a := (as.map (cv ad)).toArray) hC hS hL ?_ kk
  rcases hl with hl | hl
  · exact va_runS hfix hM ⟨⟨z5, z6, hR1, hR2, hwarm, List.mem_singleton_self _, tTB.use hTB z1, tTB.use hTB z2, z3, hlen, tTB.use hTB hl⟩, tTB.use hTB hzi⟩ hpre rfl (by simpa using hn) hL.1 hstk hW8 hd ⟨Nat.zero_le _, Nat.zero_le _⟩
  · exact va_runSN hfix hM ⟨⟨⟨z5, z6, hR1, hR2, hwarm, List.mem_singleton_self _⟩, tTB.use hTB z1, tTB.use hTB z2, z3, hlen, tTB.use hTB hl⟩, tTB.use hTB hzi, trivial⟩ hpre rfl (by simpa using hn) hL.1 hstk hW8 hd ⟨Nat.zero_le _, Nat.zero_le _⟩
/-- the answer and the store, told -/
def PE (r : Option Int32) (σ : tSt) : Option Int32 → tSt → Prop := fun r' σ' => r' = r ∧ σ' = σ
theorem tr_cv0 {k ix ci : Nat} {fs : List (Option Nat)} {T : u_T} {N : Nat} {r0 : Option Int32} {σ1 : tSt} (dd : DC y pc (.invokevirtual ix) 3 pc') (hz : tZV z 0) (hzi : tZI z) (hl : tLK y.1.cls ix z) (hR : tRM y z) (hs : (shp z.2.2.2.2.2)[k]? = some (.inr (ci, fs))) (hcl : vwCl[ci]? = some (z.1.cls, T, N)) (hst : Nat.ble (st.map fun v => v.category).sum 8 = true) (hc : CT z [.ref k] σ Q') (kk : ∀ r σ', Q' r σ' → TT y pc' L (psh r st) σ' Q) : TT y pc L (.ref k :: st) σ Q := tr_callA (as := []) dd hz hzi hl hR hs hcl rfl hst hc kk
theorem tr_ce0 {k ix ci : Nat} {fs : List (Option Nat)} {T : u_T} {N : Nat} {r0 : Option Int32} {σ1 : tSt} (dd : DC y pc (.invokevirtual ix) 3 pc') (hz : tZV z 0) (hzi : tZI z) (hl : tLK y.1.cls ix z) (hR : tRM y z) (hs : (shp z.2.2.2.2.2)[k]? = some (.inr (ci, fs))) (hcl : vwCl[ci]? = some (z.1.cls, T, N)) (hst : Nat.ble (st.map fun v => v.category).sum 8 = true) (hc : CT z [.ref k] σ (PE r0 σ1)) (kk : TT y pc' L (psh r0 st) σ1 Q) : TT y pc L (.ref k :: st) σ Q := tr_callA (as := []) dd hz hzi hl hR hs hcl rfl hst hc (fun r σ' h => by obtain ⟨rfl, rfl⟩ := h; exact kk)
theorem tr_cv1 {a : Value} {k ix ci : Nat} {fs : List (Option Nat)} {T : u_T} {N : Nat} {r0 : Option Int32} {σ1 : tSt} (dd : DC y pc (.invokevirtual ix) 3 pc') (hz : tZV z 1) (hzi : tZI z) (hl : tLK y.1.cls ix z) (hR : tRM y z) (hs : (shp z.2.2.2.2.2)[k]? = some (.inr (ci, fs))) (hcl : vwCl[ci]? = some (z.1.cls, T, N)) (hst : Nat.ble (st.map fun v => v.category).sum 8 = true) (hc : CT z [.ref k, a] σ Q') (kk : ∀ r σ', Q' r σ' → TT y pc' L (psh r st) σ' Q) : TT y pc L (a :: .ref k :: st) σ Q := tr_callA (as := [a]) dd hz hzi hl hR hs hcl rfl hst hc kk
theorem tr_ce1 {a : Value} {k ix ci : Nat} {fs : List (Option Nat)} {T : u_T} {N : Nat} {r0 : Option Int32} {σ1 : tSt} (dd : DC y pc (.invokevirtual ix) 3 pc') (hz : tZV z 1) (hzi : tZI z) (hl : tLK y.1.cls ix z) (hR : tRM y z) (hs : (shp z.2.2.2.2.2)[k]? = some (.inr (ci, fs))) (hcl : vwCl[ci]? = some (z.1.cls, T, N)) (hst : Nat.ble (st.map fun v => v.category).sum 8 = true) (hc : CT z [.ref k, a] σ (PE r0 σ1)) (kk : TT y pc' L (psh r0 st) σ1 Q) : TT y pc L (a :: .ref k :: st) σ Q := tr_callA (as := [a]) dd hz hzi hl hR hs hcl rfl hst hc (fun r σ' h => by obtain ⟨rfl, rfl⟩ := h; exact kk)
theorem tr_se1 {a : Value} {ix : Nat} {r0 : Option Int32} {σ1 : tSt} (dd : DC y pc (.invokestatic ix) 3 pc') (hz : tZV z 1) (hzi : tWD (.static z.1)) (hl : tLK y.1.cls ix z) (hR : tRM y z) (hst : Nat.ble (st.map fun v => v.category).sum 8 = true) (hc : CT z [a] σ (PE r0 σ1)) (kk : TT y pc' L (psh r0 st) σ1 Q) : TT y pc L (a :: st) σ Q := tr_callS (as := [a]) dd hz hzi hl hR rfl hst hc (fun r σ' h => by obtain ⟨rfl, rfl⟩ := h; exact kk)
theorem tr_cv2 {a b : Value} {k ix ci : Nat} {fs : List (Option Nat)} {T : u_T} {N : Nat} {r0 : Option Int32} {σ1 : tSt} (dd : DC y pc (.invokevirtual ix) 3 pc') (hz : tZV z 2) (hzi : tZI z) (hl : tLK y.1.cls ix z) (hR : tRM y z) (hs : (shp z.2.2.2.2.2)[k]? = some (.inr (ci, fs))) (hcl : vwCl[ci]? = some (z.1.cls, T, N)) (hst : Nat.ble (st.map fun v => v.category).sum 8 = true) (hc : CT z [.ref k, a, b] σ Q') (kk : ∀ r σ', Q' r σ' → TT y pc' L (psh r st) σ' Q) : TT y pc L (b :: a :: .ref k :: st) σ Q := tr_callA (as := [a, b]) dd hz hzi hl hR hs hcl rfl hst hc kk
theorem tr_ce2 {a b : Value} {k ix ci : Nat} {fs : List (Option Nat)} {T : u_T} {N : Nat} {r0 : Option Int32} {σ1 : tSt} (dd : DC y pc (.invokevirtual ix) 3 pc') (hz : tZV z 2) (hzi : tZI z) (hl : tLK y.1.cls ix z) (hR : tRM y z) (hs : (shp z.2.2.2.2.2)[k]? = some (.inr (ci, fs))) (hcl : vwCl[ci]? = some (z.1.cls, T, N)) (hst : Nat.ble (st.map fun v => v.category).sum 8 = true) (hc : CT z [.ref k, a, b] σ (PE r0 σ1)) (kk : TT y pc' L (psh r0 st) σ1 Q) : TT y pc L (b :: a :: .ref k :: st) σ Q := tr_callA (as := [a, b]) dd hz hzi hl hR hs hcl rfl hst hc (fun r σ' h => by obtain ⟨rfl, rfl⟩ := h; exact kk)
theorem tr_se2 {a b : Value} {ix : Nat} {r0 : Option Int32} {σ1 : tSt} (dd : DC y pc (.invokestatic ix) 3 pc') (hz : tZV z 2) (hzi : tWD (.static z.1)) (hl : tLK y.1.cls ix z) (hR : tRM y z) (hst : Nat.ble (st.map fun v => v.category).sum 8 = true) (hc : CT z [a, b] σ (PE r0 σ1)) (kk : TT y pc' L (psh r0 st) σ1 Q) : TT y pc L (b :: a :: st) σ Q := tr_callS (as := [a, b]) dd hz hzi hl hR rfl hst hc (fun r σ' h => by obtain ⟨rfl, rfl⟩ := h; exact kk)
theorem tr_cv3 {a b c : Value} {k ix ci : Nat} {fs : List (Option Nat)} {T : u_T} {N : Nat} {r0 : Option Int32} {σ1 : tSt} (dd : DC y pc (.invokevirtual ix) 3 pc') (hz : tZV z 3) (hzi : tZI z) (hl : tLK y.1.cls ix z) (hR : tRM y z) (hs : (shp z.2.2.2.2.2)[k]? = some (.inr (ci, fs))) (hcl : vwCl[ci]? = some (z.1.cls, T, N)) (hst : Nat.ble (st.map fun v => v.category).sum 8 = true) (hc : CT z [.ref k, a, b, c] σ Q') (kk : ∀ r σ', Q' r σ' → TT y pc' L (psh r st) σ' Q) : TT y pc L (c :: b :: a :: .ref k :: st) σ Q := tr_callA (as := [a, b, c]) dd hz hzi hl hR hs hcl rfl hst hc kk
theorem tr_ce3 {a b c : Value} {k ix ci : Nat} {fs : List (Option Nat)} {T : u_T} {N : Nat} {r0 : Option Int32} {σ1 : tSt} (dd : DC y pc (.invokevirtual ix) 3 pc') (hz : tZV z 3) (hzi : tZI z) (hl : tLK y.1.cls ix z) (hR : tRM y z) (hs : (shp z.2.2.2.2.2)[k]? = some (.inr (ci, fs))) (hcl : vwCl[ci]? = some (z.1.cls, T, N)) (hst : Nat.ble (st.map fun v => v.category).sum 8 = true) (hc : CT z [.ref k, a, b, c] σ (PE r0 σ1)) (kk : TT y pc' L (psh r0 st) σ1 Q) : TT y pc L (c :: b :: a :: .ref k :: st) σ Q := tr_callA (as := [a, b, c]) dd hz hzi hl hR hs hcl rfl hst hc (fun r σ' h => by obtain ⟨rfl, rfl⟩ := h; exact kk)
theorem tr_se3 {a b c : Value} {ix : Nat} {r0 : Option Int32} {σ1 : tSt} (dd : DC y pc (.invokestatic ix) 3 pc') (hz : tZV z 3) (hzi : tWD (.static z.1)) (hl : tLK y.1.cls ix z) (hR : tRM y z) (hst : Nat.ble (st.map fun v => v.category).sum 8 = true) (hc : CT z [a, b, c] σ (PE r0 σ1)) (kk : TT y pc' L (psh r0 st) σ1 Q) : TT y pc L (c :: b :: a :: st) σ Q := tr_callS (as := [a, b, c]) dd hz hzi hl hR rfl hst hc (fun r σ' h => by obtain ⟨rfl, rfl⟩ := h; exact kk)
theorem tr_cv4 {a b c d : Value} {k ix ci : Nat} {fs : List (Option Nat)} {T : u_T} {N : Nat} {r0 : Option Int32} {σ1 : tSt} (dd : DC y pc (.invokevirtual ix) 3 pc') (hz : tZV z 4) (hzi : tZI z) (hl : tLK y.1.cls ix z) (hR : tRM y z) (hs : (shp z.2.2.2.2.2)[k]? = some (.inr (ci, fs))) (hcl : vwCl[ci]? = some (z.1.cls, T, N)) (hst : Nat.ble (st.map fun v => v.category).sum 8 = true) (hc : CT z [.ref k, a, b, c, d] σ Q') (kk : ∀ r σ', Q' r σ' → TT y pc' L (psh r st) σ' Q) : TT y pc L (d :: c :: b :: a :: .ref k :: st) σ Q := tr_callA (as := [a, b, c, d]) dd hz hzi hl hR hs hcl rfl hst hc kk
theorem tr_ce4 {a b c d : Value} {k ix ci : Nat} {fs : List (Option Nat)} {T : u_T} {N : Nat} {r0 : Option Int32} {σ1 : tSt} (dd : DC y pc (.invokevirtual ix) 3 pc') (hz : tZV z 4) (hzi : tZI z) (hl : tLK y.1.cls ix z) (hR : tRM y z) (hs : (shp z.2.2.2.2.2)[k]? = some (.inr (ci, fs))) (hcl : vwCl[ci]? = some (z.1.cls, T, N)) (hst : Nat.ble (st.map fun v => v.category).sum 8 = true) (hc : CT z [.ref k, a, b, c, d] σ (PE r0 σ1)) (kk : TT y pc' L (psh r0 st) σ1 Q) : TT y pc L (d :: c :: b :: a :: .ref k :: st) σ Q := tr_callA (as := [a, b, c, d]) dd hz hzi hl hR hs hcl rfl hst hc (fun r σ' h => by obtain ⟨rfl, rfl⟩ := h; exact kk)
theorem tr_se4 {a b c d : Value} {ix : Nat} {r0 : Option Int32} {σ1 : tSt} (dd : DC y pc (.invokestatic ix) 3 pc') (hz : tZV z 4) (hzi : tWD (.static z.1)) (hl : tLK y.1.cls ix z) (hR : tRM y z) (hst : Nat.ble (st.map fun v => v.category).sum 8 = true) (hc : CT z [a, b, c, d] σ (PE r0 σ1)) (kk : TT y pc' L (psh r0 st) σ1 Q) : TT y pc L (d :: c :: b :: a :: st) σ Q := tr_callS (as := [a, b, c, d]) dd hz hzi hl hR rfl hst hc (fun r σ' h => by obtain ⟨rfl, rfl⟩ := h; exact kk)
theorem tr_cv5 {a b c d e : Value} {k ix ci : Nat} {fs : List (Option Nat)} {T : u_T} {N : Nat} {r0 : Option Int32} {σ1 : tSt} (dd : DC y pc (.invokevirtual ix) 3 pc') (hz : tZV z 5) (hzi : tZI z) (hl : tLK y.1.cls ix z) (hR : tRM y z) (hs : (shp z.2.2.2.2.2)[k]? = some (.inr (ci, fs))) (hcl : vwCl[ci]? = some (z.1.cls, T, N)) (hst : Nat.ble (st.map fun v => v.category).sum 8 = true) (hc : CT z [.ref k, a, b, c, d, e] σ Q') (kk : ∀ r σ', Q' r σ' → TT y pc' L (psh r st) σ' Q) : TT y pc L (e :: d :: c :: b :: a :: .ref k :: st) σ Q := tr_callA (as := [a, b, c, d, e]) dd hz hzi hl hR hs hcl rfl hst hc kk
theorem tr_ce5 {a b c d e : Value} {k ix ci : Nat} {fs : List (Option Nat)} {T : u_T} {N : Nat} {r0 : Option Int32} {σ1 : tSt} (dd : DC y pc (.invokevirtual ix) 3 pc') (hz : tZV z 5) (hzi : tZI z) (hl : tLK y.1.cls ix z) (hR : tRM y z) (hs : (shp z.2.2.2.2.2)[k]? = some (.inr (ci, fs))) (hcl : vwCl[ci]? = some (z.1.cls, T, N)) (hst : Nat.ble (st.map fun v => v.category).sum 8 = true) (hc : CT z [.ref k, a, b, c, d, e] σ (PE r0 σ1)) (kk : TT y pc' L (psh r0 st) σ1 Q) : TT y pc L (e :: d :: c :: b :: a :: .ref k :: st) σ Q := tr_callA (as := [a, b, c, d, e]) dd hz hzi hl hR hs hcl rfl hst hc (fun r σ' h => by obtain ⟨rfl, rfl⟩ := h; exact kk)
theorem tr_cv6 {a b c d e f : Value} {k ix ci : Nat} {fs : List (Option Nat)} {T : u_T} {N : Nat} {r0 : Option Int32} {σ1 : tSt} (dd : DC y pc (.invokevirtual ix) 3 pc') (hz : tZV z 6) (hzi : tZI z) (hl : tLK y.1.cls ix z) (hR : tRM y z) (hs : (shp z.2.2.2.2.2)[k]? = some (.inr (ci, fs))) (hcl : vwCl[ci]? = some (z.1.cls, T, N)) (hst : Nat.ble (st.map fun v => v.category).sum 8 = true) (hc : CT z [.ref k, a, b, c, d, e, f] σ Q') (kk : ∀ r σ', Q' r σ' → TT y pc' L (psh r st) σ' Q) : TT y pc L (f :: e :: d :: c :: b :: a :: .ref k :: st) σ Q := tr_callA (as := [a, b, c, d, e, f]) dd hz hzi hl hR hs hcl rfl hst hc kk
theorem tr_ce6 {a b c d e f : Value} {k ix ci : Nat} {fs : List (Option Nat)} {T : u_T} {N : Nat} {r0 : Option Int32} {σ1 : tSt} (dd : DC y pc (.invokevirtual ix) 3 pc') (hz : tZV z 6) (hzi : tZI z) (hl : tLK y.1.cls ix z) (hR : tRM y z) (hs : (shp z.2.2.2.2.2)[k]? = some (.inr (ci, fs))) (hcl : vwCl[ci]? = some (z.1.cls, T, N)) (hst : Nat.ble (st.map fun v => v.category).sum 8 = true) (hc : CT z [.ref k, a, b, c, d, e, f] σ (PE r0 σ1)) (kk : TT y pc' L (psh r0 st) σ1 Q) : TT y pc L (f :: e :: d :: c :: b :: a :: .ref k :: st) σ Q := tr_callA (as := [a, b, c, d, e, f]) dd hz hzi hl hR hs hcl rfl hst hc (fun r σ' h => by obtain ⟨rfl, rfl⟩ := h; exact kk)
theorem tr_cv7 {a b c d e f g : Value} {k ix ci : Nat} {fs : List (Option Nat)} {T : u_T} {N : Nat} {r0 : Option Int32} {σ1 : tSt} (dd : DC y pc (.invokevirtual ix) 3 pc') (hz : tZV z 7) (hzi : tZI z) (hl : tLK y.1.cls ix z) (hR : tRM y z) (hs : (shp z.2.2.2.2.2)[k]? = some (.inr (ci, fs))) (hcl : vwCl[ci]? = some (z.1.cls, T, N)) (hst : Nat.ble (st.map fun v => v.category).sum 8 = true) (hc : CT z [.ref k, a, b, c, d, e, f, g] σ Q') (kk : ∀ r σ', Q' r σ' → TT y pc' L (psh r st) σ' Q) : TT y pc L (g :: f :: e :: d :: c :: b :: a :: .ref k :: st) σ Q := tr_callA (as := [a, b, c, d, e, f, g]) dd hz hzi hl hR hs hcl rfl hst hc kk
theorem tr_ce7 {a b c d e f g : Value} {k ix ci : Nat} {fs : List (Option Nat)} {T : u_T} {N : Nat} {r0 : Option Int32} {σ1 : tSt} (dd : DC y pc (.invokevirtual ix) 3 pc') (hz : tZV z 7) (hzi : tZI z) (hl : tLK y.1.cls ix z) (hR : tRM y z) (hs : (shp z.2.2.2.2.2)[k]? = some (.inr (ci, fs))) (hcl : vwCl[ci]? = some (z.1.cls, T, N)) (hst : Nat.ble (st.map fun v => v.category).sum 8 = true) (hc : CT z [.ref k, a, b, c, d, e, f, g] σ (PE r0 σ1)) (kk : TT y pc' L (psh r0 st) σ1 Q) : TT y pc L (g :: f :: e :: d :: c :: b :: a :: .ref k :: st) σ Q := tr_callA (as := [a, b, c, d, e, f, g]) dd hz hzi hl hR hs hcl rfl hst hc (fun r σ' h => by obtain ⟨rfl, rfl⟩ := h; exact kk)
end TCALL
end
section
/-! printed: methods, words, decode rows -/
theorem tWD_i {w : Cond} (i : Nat) (h : lw_tbl[i]? = some w) (g : gw w = true) : tWD w := ⟨List.mem_of_getElem? h, g⟩
theorem tcf0_w : ∀ w ∈ u_ws RX0 TX0 5, tWD w := by
  show ∀ w ∈ [u_lay RX0 TX0 0, u_lay RX0 TX0 1, u_lay RX0 TX0 2, u_lay RX0 TX0 3, u_lay RX0 TX0 4], tWD w
  exact List.forall_mem_cons.mpr ⟨tWD_i 314 (by decide +kernel) (by decide +kernel), List.forall_mem_cons.mpr ⟨tWD_i 316 (by decide +kernel) (by decide +kernel), List.forall_mem_cons.mpr ⟨tWD_i 318 (by decide +kernel) (by decide +kernel), List.forall_mem_cons.mpr ⟨tWD_i 320 (by decide +kernel) (by decide +kernel), List.forall_mem_cons.mpr ⟨tWD_i 322 (by decide +kernel) (by decide +kernel), List.forall_mem_nil _⟩⟩⟩⟩⟩
theorem tcf0 : tCF 0 RX0 TX0 5 tyX0 := ⟨rfl, tcf0_w, tyX0_ok, nmX0⟩
theorem tcf1_w : ∀ w ∈ u_ws RX1 TX1 12, tWD w := by
  show ∀ w ∈ [u_lay RX1 TX1 0, u_lay RX1 TX1 1, u_lay RX1 TX1 2, u_lay RX1 TX1 3, u_lay RX1 TX1 4, u_lay RX1 TX1 5, u_lay RX1 TX1 6, u_lay RX1 TX1 7, u_lay RX1 TX1 8, u_lay RX1 TX1 9, u_lay RX1 TX1 10, u_lay RX1 TX1 11], tWD w
  exact List.forall_mem_cons.mpr ⟨tWD_i 143 (by decide +kernel) (by decide +kernel), List.forall_mem_cons.mpr ⟨tWD_i 145 (by decide +kernel) (by decide +kernel), List.forall_mem_cons.mpr ⟨tWD_i 147 (by decide +kernel) (by decide +kernel), List.forall_mem_cons.mpr ⟨tWD_i 149 (by decide +kernel) (by decide +kernel), List.forall_mem_cons.mpr ⟨tWD_i 151 (by decide +kernel) (by decide +kernel), List.forall_mem_cons.mpr ⟨tWD_i 153 (by decide +kernel) (by decide +kernel), List.forall_mem_cons.mpr ⟨tWD_i 155 (by decide +kernel) (by decide +kernel), List.forall_mem_cons.mpr ⟨tWD_i 157 (by decide +kernel) (by decide +kernel), List.forall_mem_cons.mpr ⟨tWD_i 159 (by decide +kernel) (by decide +kernel), List.forall_mem_cons.mpr ⟨tWD_i 161 (by decide +kernel) (by decide +kernel), List.forall_mem_cons.mpr ⟨tWD_i 163 (by decide +kernel) (by decide +kernel), List.forall_mem_cons.mpr ⟨tWD_i 165 (by decide +kernel) (by decide +kernel), List.forall_mem_nil _⟩⟩⟩⟩⟩⟩⟩⟩⟩⟩⟩⟩
theorem tcf1 : tCF 1 RX1 TX1 12 tyX1 := ⟨rfl, tcf1_w, tyX1_ok, nmX1⟩
theorem tcf2_w : ∀ w ∈ u_ws RX2 TX2 8, tWD w := by
  show ∀ w ∈ [u_lay RX2 TX2 0, u_lay RX2 TX2 1, u_lay RX2 TX2 2, u_lay RX2 TX2 3, u_lay RX2 TX2 4, u_lay RX2 TX2 5, u_lay RX2 TX2 6, u_lay RX2 TX2 7], tWD w
  exact List.forall_mem_cons.mpr ⟨tWD_i 227 (by decide +kernel) (by decide +kernel), List.forall_mem_cons.mpr ⟨tWD_i 229 (by decide +kernel) (by decide +kernel), List.forall_mem_cons.mpr ⟨tWD_i 231 (by decide +kernel) (by decide +kernel), List.forall_mem_cons.mpr ⟨tWD_i 233 (by decide +kernel) (by decide +kernel), List.forall_mem_cons.mpr ⟨tWD_i 235 (by decide +kernel) (by decide +kernel), List.forall_mem_cons.mpr ⟨tWD_i 237 (by decide +kernel) (by decide +kernel), List.forall_mem_cons.mpr ⟨tWD_i 239 (by decide +kernel) (by decide +kernel), List.forall_mem_cons.mpr ⟨tWD_i 241 (by decide +kernel) (by decide +kernel), List.forall_mem_nil _⟩⟩⟩⟩⟩⟩⟩⟩
theorem tcf2 : tCF 2 RX2 TX2 8 tyX2 := ⟨rfl, tcf2_w, tyX2_ok, nmX2⟩
theorem tcf3_w : ∀ w ∈ u_ws RX3 TX3 2, tWD w := by
  show ∀ w ∈ [u_lay RX3 TX3 0, u_lay RX3 TX3 1], tWD w
  exact List.forall_mem_cons.mpr ⟨tWD_i 265 (by decide +kernel) (by decide +kernel), List.forall_mem_cons.mpr ⟨tWD_i 267 (by decide +kernel) (by decide +kernel), List.forall_mem_nil _⟩⟩
theorem tcf3 : tCF 3 RX3 TX3 2 tyX3 := ⟨rfl, tcf3_w, tyX3_ok, nmX3⟩
theorem tcf4_w : ∀ w ∈ u_ws RX4 TX4 9, tWD w := by
  show ∀ w ∈ [u_lay RX4 TX4 0, u_lay RX4 TX4 1, u_lay RX4 TX4 2, u_lay RX4 TX4 3, u_lay RX4 TX4 4, u_lay RX4 TX4 5, u_lay RX4 TX4 6, u_lay RX4 TX4 7, u_lay RX4 TX4 8], tWD w
  exact List.forall_mem_cons.mpr ⟨tWD_i 281 (by decide +kernel) (by decide +kernel), List.forall_mem_cons.mpr ⟨tWD_i 283 (by decide +kernel) (by decide +kernel), List.forall_mem_cons.mpr ⟨tWD_i 285 (by decide +kernel) (by decide +kernel), List.forall_mem_cons.mpr ⟨tWD_i 287 (by decide +kernel) (by decide +kernel), List.forall_mem_cons.mpr ⟨tWD_i 289 (by decide +kernel) (by decide +kernel), List.forall_mem_cons.mpr ⟨tWD_i 291 (by decide +kernel) (by decide +kernel), List.forall_mem_cons.mpr ⟨tWD_i 293 (by decide +kernel) (by decide +kernel), List.forall_mem_cons.mpr ⟨tWD_i 295 (by decide +kernel) (by decide +kernel), List.forall_mem_cons.mpr ⟨tWD_i 297 (by decide +kernel) (by decide +kernel), List.forall_mem_nil _⟩⟩⟩⟩⟩⟩⟩⟩⟩
theorem tcf4 : tCF 4 RX4 TX4 9 tyX4 := ⟨rfl, tcf4_w, tyX4_ok, nmX4⟩
theorem tcf5_w : ∀ w ∈ u_ws RX5 TX5 8, tWD w := by
  show ∀ w ∈ [u_lay RX5 TX5 0, u_lay RX5 TX5 1, u_lay RX5 TX5 2, u_lay RX5 TX5 3, u_lay RX5 TX5 4, u_lay RX5 TX5 5, u_lay RX5 TX5 6, u_lay RX5 TX5 7], tWD w
  exact List.forall_mem_cons.mpr ⟨tWD_i 193 (by decide +kernel) (by decide +kernel), List.forall_mem_cons.mpr ⟨tWD_i 195 (by decide +kernel) (by decide +kernel), List.forall_mem_cons.mpr ⟨tWD_i 197 (by decide +kernel) (by decide +kernel), List.forall_mem_cons.mpr ⟨tWD_i 199 (by decide +kernel) (by decide +kernel), List.forall_mem_cons.mpr ⟨tWD_i 201 (by decide +kernel) (by decide +kernel), List.forall_mem_cons.mpr ⟨tWD_i 203 (by decide +kernel) (by decide +kernel), List.forall_mem_cons.mpr ⟨tWD_i 205 (by decide +kernel) (by decide +kernel), List.forall_mem_cons.mpr ⟨tWD_i 207 (by decide +kernel) (by decide +kernel), List.forall_mem_nil _⟩⟩⟩⟩⟩⟩⟩⟩
theorem tcf5 : tCF 5 RX5 TX5 8 tyX5 := ⟨rfl, tcf5_w, tyX5_ok, nmX5⟩
theorem tcf6_w : ∀ w ∈ u_ws RX6 TX6 10, tWD w := by
  show ∀ w ∈ [u_lay RX6 TX6 0, u_lay RX6 TX6 1, u_lay RX6 TX6 2, u_lay RX6 TX6 3, u_lay RX6 TX6 4, u_lay RX6 TX6 5, u_lay RX6 TX6 6, u_lay RX6 TX6 7, u_lay RX6 TX6 8, u_lay RX6 TX6 9], tWD w
  exact List.forall_mem_cons.mpr ⟨tWD_i 337 (by decide +kernel) (by decide +kernel), List.forall_mem_cons.mpr ⟨tWD_i 339 (by decide +kernel) (by decide +kernel), List.forall_mem_cons.mpr ⟨tWD_i 341 (by decide +kernel) (by decide +kernel), List.forall_mem_cons.mpr ⟨tWD_i 343 (by decide +kernel) (by decide +kernel), List.forall_mem_cons.mpr ⟨tWD_i 345 (by decide +kernel) (by decide +kernel), List.forall_mem_cons.mpr ⟨tWD_i 347 (by decide +kernel) (by decide +kernel), List.forall_mem_cons.mpr ⟨tWD_i 349 (by decide +kernel) (by decide +kernel), List.forall_mem_cons.mpr ⟨tWD_i 351 (by decide +kernel) (by decide +kernel), List.forall_mem_cons.mpr ⟨tWD_i 353 (by decide +kernel) (by decide +kernel), List.forall_mem_cons.mpr ⟨tWD_i 355 (by decide +kernel) (by decide +kernel), List.forall_mem_nil _⟩⟩⟩⟩⟩⟩⟩⟩⟩⟩
theorem tcf6 : tCF 6 RX6 TX6 10 tyX6 := ⟨rfl, tcf6_w, tyX6_ok, nmX6⟩
theorem tcf7_w : ∀ w ∈ u_ws RX7 TX7 35, tWD w := by
  show ∀ w ∈ [u_lay RX7 TX7 0, u_lay RX7 TX7 1, u_lay RX7 TX7 2, u_lay RX7 TX7 3, u_lay RX7 TX7 4, u_lay RX7 TX7 5, u_lay RX7 TX7 6, u_lay RX7 TX7 7, u_lay RX7 TX7 8, u_lay RX7 TX7 9, u_lay RX7 TX7 10, u_lay RX7 TX7 11, u_lay RX7 TX7 12, u_lay RX7 TX7 13, u_lay RX7 TX7 14, u_lay RX7 TX7 15, u_lay RX7 TX7 16, u_lay RX7 TX7 17, u_lay RX7 TX7 18, u_lay RX7 TX7 19, u_lay RX7 TX7 20, u_lay RX7 TX7 21, u_lay RX7 TX7 22, u_lay RX7 TX7 23, u_lay RX7 TX7 24, u_lay RX7 TX7 25, u_lay RX7 TX7 26, u_lay RX7 TX7 27, u_lay RX7 TX7 28, u_lay RX7 TX7 29, u_lay RX7 TX7 30, u_lay RX7 TX7 31, u_lay RX7 TX7 32, u_lay RX7 TX7 33, u_lay RX7 TX7 34], tWD w
  exact List.forall_mem_cons.mpr ⟨tWD_i 847 (by decide +kernel) (by decide +kernel), List.forall_mem_cons.mpr ⟨tWD_i 849 (by decide +kernel) (by decide +kernel), List.forall_mem_cons.mpr ⟨tWD_i 851 (by decide +kernel) (by decide +kernel), List.forall_mem_cons.mpr ⟨tWD_i 853 (by decide +kernel) (by decide +kernel), List.forall_mem_cons.mpr ⟨tWD_i 855 (by decide +kernel) (by decide +kernel), List.forall_mem_cons.mpr ⟨tWD_i 857 (by decide +kernel) (by decide +kernel), List.forall_mem_cons.mpr ⟨tWD_i 859 (by decide +kernel) (by decide +kernel), List.forall_mem_cons.mpr ⟨tWD_i 861 (by decide +kernel) (by decide +kernel), List.forall_mem_cons.mpr ⟨tWD_i 863 (by decide +kernel) (by decide +kernel), List.forall_mem_cons.mpr ⟨tWD_i 865 (by decide +kernel) (by decide +kernel), List.forall_mem_cons.mpr ⟨tWD_i 867 (by decide +kernel) (by decide +kernel), List.forall_mem_cons.mpr ⟨tWD_i 869 (by decide +kernel) (by decide +kernel), List.forall_mem_cons.mpr ⟨tWD_i 871 (by decide +kernel) (by decide +kernel), List.forall_mem_cons.mpr ⟨tWD_i 873 (by decide +kernel) (by decide +kernel), List.forall_mem_cons.mpr ⟨tWD_i 875 (by decide +kernel) (by decide +kernel), List.forall_mem_cons.mpr ⟨tWD_i 877 (by decide +kernel) (by decide +kernel), List.forall_mem_cons.mpr ⟨tWD_i 879 (by decide +kernel) (by decide +kernel), List.forall_mem_cons.mpr ⟨tWD_i 881 (by decide +kernel) (by decide +kernel), List.forall_mem_cons.mpr ⟨tWD_i 883 (by decide +kernel) (by decide +kernel), List.forall_mem_cons.mpr ⟨tWD_i 885 (by decide +kernel) (by decide +kernel), List.forall_mem_cons.mpr ⟨tWD_i 887 (by decide +kernel) (by decide +kernel), List.forall_mem_cons.mpr ⟨tWD_i 889 (by decide +kernel) (by decide +kernel), List.forall_mem_cons.mpr ⟨tWD_i 891 (by decide +kernel) (by decide +kernel), List.forall_mem_cons.mpr ⟨tWD_i 893 (by decide +kernel) (by decide +kernel), List.forall_mem_cons.mpr ⟨tWD_i 895 (by decide +kernel) (by decide +kernel), List.forall_mem_cons.mpr ⟨tWD_i 897 (by decide +kernel) (by decide +kernel), List.forall_mem_cons.mpr ⟨tWD_i 899 (by decide +kernel) (by decide +kernel), List.forall_mem_cons.mpr ⟨tWD_i 901 (by decide +kernel) (by decide +kernel), List.forall_mem_cons.mpr ⟨tWD_i 903 (by decide +kernel) (by decide +kernel), List.forall_mem_cons.mpr ⟨tWD_i 905 (by decide +kernel) (by decide +kernel), List.forall_mem_cons.mpr ⟨tWD_i 907 (by decide +kernel) (by decide +kernel), List.forall_mem_cons.mpr ⟨tWD_i 909 (by decide +kernel) (by decide +kernel), List.forall_mem_cons.mpr ⟨tWD_i 911 (by decide +kernel) (by decide +kernel), List.forall_mem_cons.mpr ⟨tWD_i 913 (by decide +kernel) (by decide +kernel), List.forall_mem_cons.mpr ⟨tWD_i 915 (by decide +kernel) (by decide +kernel), List.forall_mem_nil _⟩⟩⟩⟩⟩⟩⟩⟩⟩⟩⟩⟩⟩⟩⟩⟩⟩⟩⟩⟩⟩⟩⟩⟩⟩⟩⟩⟩⟩⟩⟩⟩⟩⟩⟩
theorem tcf7 : tCF 7 RX7 TX7 35 tyX7 := ⟨rfl, tcf7_w, tyX7_ok, nmX7⟩
theorem fk_X6_10 : tFK RX6 10 6 0 := ⟨RX6, TX6, 10, tyX6, tcf6, by decide, rfl, Or.inl (tWD_i 327 (by decide +kernel) (by decide +kernel))⟩
theorem fk_X6_19 : tFK RX6 19 6 1 := ⟨RX6, TX6, 10, tyX6, tcf6, by decide, rfl, Or.inl (tWD_i 328 (by decide +kernel) (by decide +kernel))⟩
theorem fk_X6_28 : tFK RX6 28 6 2 := ⟨RX6, TX6, 10, tyX6, tcf6, by decide, rfl, Or.inl (tWD_i 329 (by decide +kernel) (by decide +kernel))⟩
theorem fk_X6_37 : tFK RX6 37 6 3 := ⟨RX6, TX6, 10, tyX6, tcf6, by decide, rfl, Or.inl (tWD_i 330 (by decide +kernel) (by decide +kernel))⟩
theorem fk_X6_46 : tFK RX6 46 6 4 := ⟨RX6, TX6, 10, tyX6, tcf6, by decide, rfl, Or.inl (tWD_i 331 (by decide +kernel) (by decide +kernel))⟩
theorem fk_X6_53 : tFK RX6 53 6 5 := ⟨RX6, TX6, 10, tyX6, tcf6, by decide, rfl, Or.inl (tWD_i 332 (by decide +kernel) (by decide +kernel))⟩
theorem fk_X6_57 : tFK RX6 57 6 6 := ⟨RX6, TX6, 10, tyX6, tcf6, by decide, rfl, Or.inl (tWD_i 333 (by decide +kernel) (by decide +kernel))⟩
theorem fp_X6_57 : tFP RX6 57 6 6 := ⟨RX6, TX6, 10, tyX6, tcf6, by decide, rfl, Or.inl (tWD_i 333 (by decide +kernel) (by decide +kernel)), rfl, rfl⟩
theorem fk_X6_61 : tFK RX6 61 6 7 := ⟨RX6, TX6, 10, tyX6, tcf6, by decide, rfl, Or.inl (tWD_i 334 (by decide +kernel) (by decide +kernel))⟩
theorem fp_X6_61 : tFP RX6 61 6 7 := ⟨RX6, TX6, 10, tyX6, tcf6, by decide, rfl, Or.inl (tWD_i 334 (by decide +kernel) (by decide +kernel)), rfl, rfl⟩
theorem fk_X6_64 : tFK RX6 64 6 8 := ⟨RX6, TX6, 10, tyX6, tcf6, by decide, rfl, Or.inl (tWD_i 335 (by decide +kernel) (by decide +kernel))⟩
theorem fp_X6_64 : tFP RX6 64 6 8 := ⟨RX6, TX6, 10, tyX6, tcf6, by decide, rfl, Or.inl (tWD_i 335 (by decide +kernel) (by decide +kernel)), rfl, rfl⟩
theorem fk_X6_67 : tFK RX6 67 6 9 := ⟨RX6, TX6, 10, tyX6, tcf6, by decide, rfl, Or.inl (tWD_i 336 (by decide +kernel) (by decide +kernel))⟩
theorem fp_X6_67 : tFP RX6 67 6 9 := ⟨RX6, TX6, 10, tyX6, tcf6, by decide, rfl, Or.inl (tWD_i 336 (by decide +kernel) (by decide +kernel)), rfl, rfl⟩
theorem fk_X6_78 : tFK RX6 78 1 9 := ⟨RX1, TX1, 12, tyX1, tcf1, by decide, rfl, Or.inr (tWD_i 136 (by decide +kernel) (by decide +kernel))⟩
theorem fp_X6_78 : tFP RX6 78 1 9 := ⟨RX1, TX1, 12, tyX1, tcf1, by decide, rfl, Or.inr (tWD_i 136 (by decide +kernel) (by decide +kernel)), rfl, rfl⟩
theorem fk_X6_92 : tFK RX6 92 1 0 := ⟨RX1, TX1, 12, tyX1, tcf1, by decide, rfl, Or.inr (tWD_i 123 (by decide +kernel) (by decide +kernel))⟩
theorem fk_X6_96 : tFK RX6 96 1 1 := ⟨RX1, TX1, 12, tyX1, tcf1, by decide, rfl, Or.inr (tWD_i 126 (by decide +kernel) (by decide +kernel))⟩
theorem fk_X6_99 : tFK RX6 99 1 10 := ⟨RX1, TX1, 12, tyX1, tcf1, by decide, rfl, Or.inr (tWD_i 140 (by decide +kernel) (by decide +kernel))⟩
theorem fp_X6_99 : tFP RX6 99 1 10 := ⟨RX1, TX1, 12, tyX1, tcf1, by decide, rfl, Or.inr (tWD_i 140 (by decide +kernel) (by decide +kernel)), rfl, rfl⟩
theorem fk_X6_110 : tFK RX6 110 1 11 := ⟨RX1, TX1, 12, tyX1, tcf1, by decide, rfl, Or.inr (tWD_i 142 (by decide +kernel) (by decide +kernel))⟩
theorem fp_X6_110 : tFP RX6 110 1 11 := ⟨RX1, TX1, 12, tyX1, tcf1, by decide, rfl, Or.inr (tWD_i 142 (by decide +kernel) (by decide +kernel)), rfl, rfl⟩
theorem fk_X6_124 : tFK RX6 124 5 6 := ⟨RX5, TX5, 8, tyX5, tcf5, by decide, rfl, Or.inr (tWD_i 190 (by decide +kernel) (by decide +kernel))⟩
theorem fp_X6_124 : tFP RX6 124 5 6 := ⟨RX5, TX5, 8, tyX5, tcf5, by decide, rfl, Or.inr (tWD_i 190 (by decide +kernel) (by decide +kernel)), rfl, rfl⟩
theorem fk_X6_134 : tFK RX6 134 5 1 := ⟨RX5, TX5, 8, tyX5, tcf5, by decide, rfl, Or.inr (tWD_i 178 (by decide +kernel) (by decide +kernel))⟩
theorem fk_X6_140 : tFK RX6 140 5 0 := ⟨RX5, TX5, 8, tyX5, tcf5, by decide, rfl, Or.inr (tWD_i 176 (by decide +kernel) (by decide +kernel))⟩
theorem fk_X6_190 : tFK RX6 190 3 1 := ⟨RX3, TX3, 2, tyX3, tcf3, by decide, rfl, Or.inr (tWD_i 264 (by decide +kernel) (by decide +kernel))⟩
theorem fp_X6_190 : tFP RX6 190 3 1 := ⟨RX3, TX3, 2, tyX3, tcf3, by decide, rfl, Or.inr (tWD_i 264 (by decide +kernel) (by decide +kernel)), rfl, rfl⟩
theorem fk_X6_200 : tFK RX6 200 4 7 := ⟨RX4, TX4, 9, tyX4, tcf4, by decide, rfl, Or.inr (tWD_i 278 (by decide +kernel) (by decide +kernel))⟩
theorem fp_X6_200 : tFP RX6 200 4 7 := ⟨RX4, TX4, 9, tyX4, tcf4, by decide, rfl, Or.inr (tWD_i 278 (by decide +kernel) (by decide +kernel)), rfl, rfl⟩
theorem fk_X6_206 : tFK RX6 206 4 8 := ⟨RX4, TX4, 9, tyX4, tcf4, by decide, rfl, Or.inr (tWD_i 280 (by decide +kernel) (by decide +kernel))⟩
theorem fp_X6_206 : tFP RX6 206 4 8 := ⟨RX4, TX4, 9, tyX4, tcf4, by decide, rfl, Or.inr (tWD_i 280 (by decide +kernel) (by decide +kernel)), rfl, rfl⟩
theorem fk_X6_218 : tFK RX6 218 0 3 := ⟨RX0, TX0, 5, tyX0, tcf0, by decide, rfl, Or.inr (tWD_i 312 (by decide +kernel) (by decide +kernel))⟩
theorem fk_X6_224 : tFK RX6 224 5 7 := ⟨RX5, TX5, 8, tyX5, tcf5, by decide, rfl, Or.inr (tWD_i 192 (by decide +kernel) (by decide +kernel))⟩
theorem fp_X6_224 : tFP RX6 224 5 7 := ⟨RX5, TX5, 8, tyX5, tcf5, by decide, rfl, Or.inr (tWD_i 192 (by decide +kernel) (by decide +kernel)), rfl, rfl⟩
theorem fk_X6_251 : tFK RX6 251 5 2 := ⟨RX5, TX5, 8, tyX5, tcf5, by decide, rfl, Or.inr (tWD_i 182 (by decide +kernel) (by decide +kernel))⟩
theorem fk_X6_269 : tFK RX6 269 3 0 := ⟨RX3, TX3, 2, tyX3, tcf3, by decide, rfl, Or.inr (tWD_i 260 (by decide +kernel) (by decide +kernel))⟩
theorem fk_X6_283 : tFK RX6 283 2 7 := ⟨RX2, TX2, 8, tyX2, tcf2, by decide, rfl, Or.inr (tWD_i 226 (by decide +kernel) (by decide +kernel))⟩
theorem fp_X6_283 : tFP RX6 283 2 7 := ⟨RX2, TX2, 8, tyX2, tcf2, by decide, rfl, Or.inr (tWD_i 226 (by decide +kernel) (by decide +kernel)), rfl, rfl⟩
theorem fk_X0_12 : tFK RX0 12 0 2 := ⟨RX0, TX0, 5, tyX0, tcf0, by decide, rfl, Or.inl (tWD_i 310 (by decide +kernel) (by decide +kernel))⟩
theorem fk_X0_18 : tFK RX0 18 0 3 := ⟨RX0, TX0, 5, tyX0, tcf0, by decide, rfl, Or.inl (tWD_i 311 (by decide +kernel) (by decide +kernel))⟩
theorem fk_X0_21 : tFK RX0 21 0 4 := ⟨RX0, TX0, 5, tyX0, tcf0, by decide, rfl, Or.inl (tWD_i 313 (by decide +kernel) (by decide +kernel))⟩
theorem fk_X0_25 : tFK RX0 25 0 0 := ⟨RX0, TX0, 5, tyX0, tcf0, by decide, rfl, Or.inl (tWD_i 308 (by decide +kernel) (by decide +kernel))⟩
theorem fk_X0_29 : tFK RX0 29 0 1 := ⟨RX0, TX0, 5, tyX0, tcf0, by decide, rfl, Or.inl (tWD_i 309 (by decide +kernel) (by decide +kernel))⟩
theorem fk_X0_33 : tFK RX0 33 5 2 := ⟨RX5, TX5, 8, tyX5, tcf5, by decide, rfl, Or.inr (tWD_i 180 (by decide +kernel) (by decide +kernel))⟩
theorem fk_X0_59 : tFK RX0 59 2 7 := ⟨RX2, TX2, 8, tyX2, tcf2, by decide, rfl, Or.inr (tWD_i 225 (by decide +kernel) (by decide +kernel))⟩
theorem fp_X0_59 : tFP RX0 59 2 7 := ⟨RX2, TX2, 8, tyX2, tcf2, by decide, rfl, Or.inr (tWD_i 225 (by decide +kernel) (by decide +kernel)), rfl, rfl⟩
theorem fk_X0_82 : tFK RX0 82 3 1 := ⟨RX3, TX3, 2, tyX3, tcf3, by decide, rfl, Or.inr (tWD_i 263 (by decide +kernel) (by decide +kernel))⟩
theorem fp_X0_82 : tFP RX0 82 3 1 := ⟨RX3, TX3, 2, tyX3, tcf3, by decide, rfl, Or.inr (tWD_i 263 (by decide +kernel) (by decide +kernel)), rfl, rfl⟩
theorem fk_X0_85 : tFK RX0 85 3 0 := ⟨RX3, TX3, 2, tyX3, tcf3, by decide, rfl, Or.inr (tWD_i 258 (by decide +kernel) (by decide +kernel))⟩
theorem fk_X0_102 : tFK RX0 102 5 6 := ⟨RX5, TX5, 8, tyX5, tcf5, by decide, rfl, Or.inr (tWD_i 188 (by decide +kernel) (by decide +kernel))⟩
theorem fp_X0_102 : tFP RX0 102 5 6 := ⟨RX5, TX5, 8, tyX5, tcf5, by decide, rfl, Or.inr (tWD_i 188 (by decide +kernel) (by decide +kernel)), rfl, rfl⟩
theorem fk_X0_105 : tFK RX0 105 2 2 := ⟨RX2, TX2, 8, tyX2, tcf2, by decide, rfl, Or.inr (tWD_i 219 (by decide +kernel) (by decide +kernel))⟩
theorem fk_X1_9 : tFK RX1 9 1 0 := ⟨RX1, TX1, 12, tyX1, tcf1, by decide, rfl, Or.inl (tWD_i 122 (by decide +kernel) (by decide +kernel))⟩
theorem fk_X1_15 : tFK RX1 15 1 1 := ⟨RX1, TX1, 12, tyX1, tcf1, by decide, rfl, Or.inl (tWD_i 125 (by decide +kernel) (by decide +kernel))⟩
theorem fk_X1_18 : tFK RX1 18 1 2 := ⟨RX1, TX1, 12, tyX1, tcf1, by decide, rfl, Or.inl (tWD_i 128 (by decide +kernel) (by decide +kernel))⟩
theorem fk_X1_21 : tFK RX1 21 1 3 := ⟨RX1, TX1, 12, tyX1, tcf1, by decide, rfl, Or.inl (tWD_i 129 (by decide +kernel) (by decide +kernel))⟩
theorem fk_X1_24 : tFK RX1 24 1 4 := ⟨RX1, TX1, 12, tyX1, tcf1, by decide, rfl, Or.inl (tWD_i 130 (by decide +kernel) (by decide +kernel))⟩
theorem fk_X1_27 : tFK RX1 27 1 5 := ⟨RX1, TX1, 12, tyX1, tcf1, by decide, rfl, Or.inl (tWD_i 131 (by decide +kernel) (by decide +kernel))⟩
theorem fk_X1_30 : tFK RX1 30 1 6 := ⟨RX1, TX1, 12, tyX1, tcf1, by decide, rfl, Or.inl (tWD_i 132 (by decide +kernel) (by decide +kernel))⟩
theorem fk_X1_33 : tFK RX1 33 1 7 := ⟨RX1, TX1, 12, tyX1, tcf1, by decide, rfl, Or.inl (tWD_i 133 (by decide +kernel) (by decide +kernel))⟩
theorem fk_X1_36 : tFK RX1 36 1 8 := ⟨RX1, TX1, 12, tyX1, tcf1, by decide, rfl, Or.inl (tWD_i 134 (by decide +kernel) (by decide +kernel))⟩
theorem fk_X1_39 : tFK RX1 39 1 9 := ⟨RX1, TX1, 12, tyX1, tcf1, by decide, rfl, Or.inl (tWD_i 135 (by decide +kernel) (by decide +kernel))⟩
theorem fp_X1_39 : tFP RX1 39 1 9 := ⟨RX1, TX1, 12, tyX1, tcf1, by decide, rfl, Or.inl (tWD_i 135 (by decide +kernel) (by decide +kernel)), rfl, rfl⟩
theorem fk_X1_43 : tFK RX1 43 1 10 := ⟨RX1, TX1, 12, tyX1, tcf1, by decide, rfl, Or.inl (tWD_i 139 (by decide +kernel) (by decide +kernel))⟩
theorem fp_X1_43 : tFP RX1 43 1 10 := ⟨RX1, TX1, 12, tyX1, tcf1, by decide, rfl, Or.inl (tWD_i 139 (by decide +kernel) (by decide +kernel)), rfl, rfl⟩
theorem fk_X1_46 : tFK RX1 46 1 11 := ⟨RX1, TX1, 12, tyX1, tcf1, by decide, rfl, Or.inl (tWD_i 141 (by decide +kernel) (by decide +kernel))⟩
theorem fp_X1_46 : tFP RX1 46 1 11 := ⟨RX1, TX1, 12, tyX1, tcf1, by decide, rfl, Or.inl (tWD_i 141 (by decide +kernel) (by decide +kernel)), rfl, rfl⟩
theorem fk_X2_9 : tFK RX2 9 2 2 := ⟨RX2, TX2, 8, tyX2, tcf2, by decide, rfl, Or.inl (tWD_i 218 (by decide +kernel) (by decide +kernel))⟩
theorem fk_X2_15 : tFK RX2 15 2 0 := ⟨RX2, TX2, 8, tyX2, tcf2, by decide, rfl, Or.inl (tWD_i 216 (by decide +kernel) (by decide +kernel))⟩
theorem fk_X2_19 : tFK RX2 19 2 1 := ⟨RX2, TX2, 8, tyX2, tcf2, by decide, rfl, Or.inl (tWD_i 217 (by decide +kernel) (by decide +kernel))⟩
theorem fk_X2_23 : tFK RX2 23 2 7 := ⟨RX2, TX2, 8, tyX2, tcf2, by decide, rfl, Or.inl (tWD_i 224 (by decide +kernel) (by decide +kernel))⟩
theorem fp_X2_23 : tFP RX2 23 2 7 := ⟨RX2, TX2, 8, tyX2, tcf2, by decide, rfl, Or.inl (tWD_i 224 (by decide +kernel) (by decide +kernel)), rfl, rfl⟩
theorem fk_X2_33 : tFK RX2 33 2 3 := ⟨RX2, TX2, 8, tyX2, tcf2, by decide, rfl, Or.inl (tWD_i 220 (by decide +kernel) (by decide +kernel))⟩
theorem fp_X2_33 : tFP RX2 33 2 3 := ⟨RX2, TX2, 8, tyX2, tcf2, by decide, rfl, Or.inl (tWD_i 220 (by decide +kernel) (by decide +kernel)), rfl, rfl⟩
theorem fk_X2_40 : tFK RX2 40 2 4 := ⟨RX2, TX2, 8, tyX2, tcf2, by decide, rfl, Or.inl (tWD_i 221 (by decide +kernel) (by decide +kernel))⟩
theorem fp_X2_40 : tFP RX2 40 2 4 := ⟨RX2, TX2, 8, tyX2, tcf2, by decide, rfl, Or.inl (tWD_i 221 (by decide +kernel) (by decide +kernel)), rfl, rfl⟩
theorem fk_X2_46 : tFK RX2 46 2 5 := ⟨RX2, TX2, 8, tyX2, tcf2, by decide, rfl, Or.inl (tWD_i 222 (by decide +kernel) (by decide +kernel))⟩
theorem fp_X2_46 : tFP RX2 46 2 5 := ⟨RX2, TX2, 8, tyX2, tcf2, by decide, rfl, Or.inl (tWD_i 222 (by decide +kernel) (by decide +kernel)), rfl, rfl⟩
theorem fk_X2_52 : tFK RX2 52 2 6 := ⟨RX2, TX2, 8, tyX2, tcf2, by decide, rfl, Or.inl (tWD_i 223 (by decide +kernel) (by decide +kernel))⟩
theorem fp_X2_52 : tFP RX2 52 2 6 := ⟨RX2, TX2, 8, tyX2, tcf2, by decide, rfl, Or.inl (tWD_i 223 (by decide +kernel) (by decide +kernel)), rfl, rfl⟩
theorem fs_X2_62 : tLF RX2 62 "ApronDesk" "FREIGHT_ORDER" "[I" := Or.inr (tWD_i 642 (by decide +kernel) (by decide +kernel))
theorem fs_X2_66 : tLF RX2 66 "ApronDesk" "COMMON_ORDER" "[I" := Or.inr (tWD_i 644 (by decide +kernel) (by decide +kernel))
theorem fk_X2_69 : tFK RX2 69 1 9 := ⟨RX1, TX1, 12, tyX1, tcf1, by decide, rfl, Or.inr (tWD_i 138 (by decide +kernel) (by decide +kernel))⟩
theorem fp_X2_69 : tFP RX2 69 1 9 := ⟨RX1, TX1, 12, tyX1, tcf1, by decide, rfl, Or.inr (tWD_i 138 (by decide +kernel) (by decide +kernel)), rfl, rfl⟩
theorem fk_X2_74 : tFK RX2 74 1 1 := ⟨RX1, TX1, 12, tyX1, tcf1, by decide, rfl, Or.inr (tWD_i 127 (by decide +kernel) (by decide +kernel))⟩
theorem fk_X2_77 : tFK RX2 77 1 0 := ⟨RX1, TX1, 12, tyX1, tcf1, by decide, rfl, Or.inr (tWD_i 124 (by decide +kernel) (by decide +kernel))⟩
theorem fk_X2_104 : tFK RX2 104 5 6 := ⟨RX5, TX5, 8, tyX5, tcf5, by decide, rfl, Or.inr (tWD_i 189 (by decide +kernel) (by decide +kernel))⟩
theorem fp_X2_104 : tFP RX2 104 5 6 := ⟨RX5, TX5, 8, tyX5, tcf5, by decide, rfl, Or.inr (tWD_i 189 (by decide +kernel) (by decide +kernel)), rfl, rfl⟩
theorem fk_X2_113 : tFK RX2 113 5 2 := ⟨RX5, TX5, 8, tyX5, tcf5, by decide, rfl, Or.inr (tWD_i 181 (by decide +kernel) (by decide +kernel))⟩
theorem fk_X3_9 : tFK RX3 9 3 0 := ⟨RX3, TX3, 2, tyX3, tcf3, by decide, rfl, Or.inl (tWD_i 257 (by decide +kernel) (by decide +kernel))⟩
theorem fk_X3_15 : tFK RX3 15 3 1 := ⟨RX3, TX3, 2, tyX3, tcf3, by decide, rfl, Or.inl (tWD_i 261 (by decide +kernel) (by decide +kernel))⟩
theorem fp_X3_15 : tFP RX3 15 3 1 := ⟨RX3, TX3, 2, tyX3, tcf3, by decide, rfl, Or.inl (tWD_i 261 (by decide +kernel) (by decide +kernel)), rfl, rfl⟩
theorem fk_X4_12 : tFK RX4 12 4 3 := ⟨RX4, TX4, 9, tyX4, tcf4, by decide, rfl, Or.inl (tWD_i 273 (by decide +kernel) (by decide +kernel))⟩
theorem fk_X4_18 : tFK RX4 18 4 4 := ⟨RX4, TX4, 9, tyX4, tcf4, by decide, rfl, Or.inl (tWD_i 274 (by decide +kernel) (by decide +kernel))⟩
theorem fk_X4_22 : tFK RX4 22 4 5 := ⟨RX4, TX4, 9, tyX4, tcf4, by decide, rfl, Or.inl (tWD_i 275 (by decide +kernel) (by decide +kernel))⟩
theorem fk_X4_25 : tFK RX4 25 4 0 := ⟨RX4, TX4, 9, tyX4, tcf4, by decide, rfl, Or.inl (tWD_i 270 (by decide +kernel) (by decide +kernel))⟩
theorem fk_X4_29 : tFK RX4 29 4 1 := ⟨RX4, TX4, 9, tyX4, tcf4, by decide, rfl, Or.inl (tWD_i 271 (by decide +kernel) (by decide +kernel))⟩
theorem fk_X4_33 : tFK RX4 33 4 2 := ⟨RX4, TX4, 9, tyX4, tcf4, by decide, rfl, Or.inl (tWD_i 272 (by decide +kernel) (by decide +kernel))⟩
theorem fk_X4_40 : tFK RX4 40 3 1 := ⟨RX3, TX3, 2, tyX3, tcf3, by decide, rfl, Or.inr (tWD_i 262 (by decide +kernel) (by decide +kernel))⟩
theorem fp_X4_40 : tFP RX4 40 3 1 := ⟨RX3, TX3, 2, tyX3, tcf3, by decide, rfl, Or.inr (tWD_i 262 (by decide +kernel) (by decide +kernel)), rfl, rfl⟩
theorem fk_X4_51 : tFK RX4 51 4 8 := ⟨RX4, TX4, 9, tyX4, tcf4, by decide, rfl, Or.inl (tWD_i 279 (by decide +kernel) (by decide +kernel))⟩
theorem fp_X4_51 : tFP RX4 51 4 8 := ⟨RX4, TX4, 9, tyX4, tcf4, by decide, rfl, Or.inl (tWD_i 279 (by decide +kernel) (by decide +kernel)), rfl, rfl⟩
theorem fk_X4_63 : tFK RX4 63 5 6 := ⟨RX5, TX5, 8, tyX5, tcf5, by decide, rfl, Or.inr (tWD_i 187 (by decide +kernel) (by decide +kernel))⟩
theorem fp_X4_63 : tFP RX4 63 5 6 := ⟨RX5, TX5, 8, tyX5, tcf5, by decide, rfl, Or.inr (tWD_i 187 (by decide +kernel) (by decide +kernel)), rfl, rfl⟩
theorem fk_X4_76 : tFK RX4 76 4 7 := ⟨RX4, TX4, 9, tyX4, tcf4, by decide, rfl, Or.inl (tWD_i 277 (by decide +kernel) (by decide +kernel))⟩
theorem fp_X4_76 : tFP RX4 76 4 7 := ⟨RX4, TX4, 9, tyX4, tcf4, by decide, rfl, Or.inl (tWD_i 277 (by decide +kernel) (by decide +kernel)), rfl, rfl⟩
theorem fk_X4_79 : tFK RX4 79 4 6 := ⟨RX4, TX4, 9, tyX4, tcf4, by decide, rfl, Or.inl (tWD_i 276 (by decide +kernel) (by decide +kernel))⟩
theorem fp_X4_79 : tFP RX4 79 4 6 := ⟨RX4, TX4, 9, tyX4, tcf4, by decide, rfl, Or.inl (tWD_i 276 (by decide +kernel) (by decide +kernel)), rfl, rfl⟩
theorem fk_X4_82 : tFK RX4 82 3 0 := ⟨RX3, TX3, 2, tyX3, tcf3, by decide, rfl, Or.inr (tWD_i 259 (by decide +kernel) (by decide +kernel))⟩
theorem fk_X4_88 : tFK RX4 88 1 9 := ⟨RX1, TX1, 12, tyX1, tcf1, by decide, rfl, Or.inr (tWD_i 137 (by decide +kernel) (by decide +kernel))⟩
theorem fp_X4_88 : tFP RX4 88 1 9 := ⟨RX1, TX1, 12, tyX1, tcf1, by decide, rfl, Or.inr (tWD_i 137 (by decide +kernel) (by decide +kernel)), rfl, rfl⟩
theorem fk_X5_9 : tFK RX5 9 5 0 := ⟨RX5, TX5, 8, tyX5, tcf5, by decide, rfl, Or.inl (tWD_i 175 (by decide +kernel) (by decide +kernel))⟩
theorem fk_X5_15 : tFK RX5 15 5 1 := ⟨RX5, TX5, 8, tyX5, tcf5, by decide, rfl, Or.inl (tWD_i 177 (by decide +kernel) (by decide +kernel))⟩
theorem fk_X5_18 : tFK RX5 18 5 2 := ⟨RX5, TX5, 8, tyX5, tcf5, by decide, rfl, Or.inl (tWD_i 179 (by decide +kernel) (by decide +kernel))⟩
theorem fk_X5_21 : tFK RX5 21 5 3 := ⟨RX5, TX5, 8, tyX5, tcf5, by decide, rfl, Or.inl (tWD_i 183 (by decide +kernel) (by decide +kernel))⟩
theorem fk_X5_24 : tFK RX5 24 5 4 := ⟨RX5, TX5, 8, tyX5, tcf5, by decide, rfl, Or.inl (tWD_i 184 (by decide +kernel) (by decide +kernel))⟩
theorem fk_X5_27 : tFK RX5 27 5 5 := ⟨RX5, TX5, 8, tyX5, tcf5, by decide, rfl, Or.inl (tWD_i 185 (by decide +kernel) (by decide +kernel))⟩
theorem fk_X5_30 : tFK RX5 30 5 6 := ⟨RX5, TX5, 8, tyX5, tcf5, by decide, rfl, Or.inl (tWD_i 186 (by decide +kernel) (by decide +kernel))⟩
theorem fp_X5_30 : tFP RX5 30 5 6 := ⟨RX5, TX5, 8, tyX5, tcf5, by decide, rfl, Or.inl (tWD_i 186 (by decide +kernel) (by decide +kernel)), rfl, rfl⟩
theorem fk_X5_42 : tFK RX5 42 5 7 := ⟨RX5, TX5, 8, tyX5, tcf5, by decide, rfl, Or.inl (tWD_i 191 (by decide +kernel) (by decide +kernel))⟩
theorem fp_X5_42 : tFP RX5 42 5 7 := ⟨RX5, TX5, 8, tyX5, tcf5, by decide, rfl, Or.inl (tWD_i 191 (by decide +kernel) (by decide +kernel)), rfl, rfl⟩
theorem fk_X7_9 : tFK RX7 9 7 2 := ⟨RX7, TX7, 35, tyX7, tcf7, by decide, rfl, Or.inl (tWD_i 814 (by decide +kernel) (by decide +kernel))⟩
theorem fp_X7_9 : tFP RX7 9 7 2 := ⟨RX7, TX7, 35, tyX7, tcf7, by decide, rfl, Or.inl (tWD_i 814 (by decide +kernel) (by decide +kernel)), rfl, rfl⟩
theorem fk_X7_13 : tFK RX7 13 7 7 := ⟨RX7, TX7, 35, tyX7, tcf7, by decide, rfl, Or.inl (tWD_i 819 (by decide +kernel) (by decide +kernel))⟩
theorem fp_X7_13 : tFP RX7 13 7 7 := ⟨RX7, TX7, 35, tyX7, tcf7, by decide, rfl, Or.inl (tWD_i 819 (by decide +kernel) (by decide +kernel)), rfl, rfl⟩
theorem fk_X7_16 : tFK RX7 16 7 9 := ⟨RX7, TX7, 35, tyX7, tcf7, by decide, rfl, Or.inl (tWD_i 821 (by decide +kernel) (by decide +kernel))⟩
theorem fk_X7_20 : tFK RX7 20 7 10 := ⟨RX7, TX7, 35, tyX7, tcf7, by decide, rfl, Or.inl (tWD_i 822 (by decide +kernel) (by decide +kernel))⟩
theorem fk_X7_23 : tFK RX7 23 7 11 := ⟨RX7, TX7, 35, tyX7, tcf7, by decide, rfl, Or.inl (tWD_i 823 (by decide +kernel) (by decide +kernel))⟩
theorem fk_X7_26 : tFK RX7 26 7 12 := ⟨RX7, TX7, 35, tyX7, tcf7, by decide, rfl, Or.inl (tWD_i 824 (by decide +kernel) (by decide +kernel))⟩
theorem fk_X7_29 : tFK RX7 29 7 13 := ⟨RX7, TX7, 35, tyX7, tcf7, by decide, rfl, Or.inl (tWD_i 825 (by decide +kernel) (by decide +kernel))⟩
theorem fk_X7_32 : tFK RX7 32 7 14 := ⟨RX7, TX7, 35, tyX7, tcf7, by decide, rfl, Or.inl (tWD_i 826 (by decide +kernel) (by decide +kernel))⟩
theorem fk_X7_35 : tFK RX7 35 7 15 := ⟨RX7, TX7, 35, tyX7, tcf7, by decide, rfl, Or.inl (tWD_i 827 (by decide +kernel) (by decide +kernel))⟩
theorem fk_X7_38 : tFK RX7 38 7 16 := ⟨RX7, TX7, 35, tyX7, tcf7, by decide, rfl, Or.inl (tWD_i 828 (by decide +kernel) (by decide +kernel))⟩
theorem fk_X7_41 : tFK RX7 41 7 17 := ⟨RX7, TX7, 35, tyX7, tcf7, by decide, rfl, Or.inl (tWD_i 829 (by decide +kernel) (by decide +kernel))⟩
theorem fk_X7_44 : tFK RX7 44 7 18 := ⟨RX7, TX7, 35, tyX7, tcf7, by decide, rfl, Or.inl (tWD_i 830 (by decide +kernel) (by decide +kernel))⟩
theorem fk_X7_47 : tFK RX7 47 7 19 := ⟨RX7, TX7, 35, tyX7, tcf7, by decide, rfl, Or.inl (tWD_i 831 (by decide +kernel) (by decide +kernel))⟩
theorem fk_X7_50 : tFK RX7 50 7 20 := ⟨RX7, TX7, 35, tyX7, tcf7, by decide, rfl, Or.inl (tWD_i 832 (by decide +kernel) (by decide +kernel))⟩
theorem fk_X7_53 : tFK RX7 53 7 21 := ⟨RX7, TX7, 35, tyX7, tcf7, by decide, rfl, Or.inl (tWD_i 833 (by decide +kernel) (by decide +kernel))⟩
theorem fk_X7_56 : tFK RX7 56 7 22 := ⟨RX7, TX7, 35, tyX7, tcf7, by decide, rfl, Or.inl (tWD_i 834 (by decide +kernel) (by decide +kernel))⟩
theorem fk_X7_59 : tFK RX7 59 7 23 := ⟨RX7, TX7, 35, tyX7, tcf7, by decide, rfl, Or.inl (tWD_i 835 (by decide +kernel) (by decide +kernel))⟩
theorem fk_X7_62 : tFK RX7 62 7 25 := ⟨RX7, TX7, 35, tyX7, tcf7, by decide, rfl, Or.inl (tWD_i 837 (by decide +kernel) (by decide +kernel))⟩
theorem fk_X7_65 : tFK RX7 65 7 27 := ⟨RX7, TX7, 35, tyX7, tcf7, by decide, rfl, Or.inl (tWD_i 839 (by decide +kernel) (by decide +kernel))⟩
theorem fk_X7_68 : tFK RX7 68 7 28 := ⟨RX7, TX7, 35, tyX7, tcf7, by decide, rfl, Or.inl (tWD_i 840 (by decide +kernel) (by decide +kernel))⟩
theorem fk_X7_71 : tFK RX7 71 7 31 := ⟨RX7, TX7, 35, tyX7, tcf7, by decide, rfl, Or.inl (tWD_i 843 (by decide +kernel) (by decide +kernel))⟩
theorem fk_X7_74 : tFK RX7 74 7 32 := ⟨RX7, TX7, 35, tyX7, tcf7, by decide, rfl, Or.inl (tWD_i 844 (by decide +kernel) (by decide +kernel))⟩
theorem fk_X7_77 : tFK RX7 77 7 33 := ⟨RX7, TX7, 35, tyX7, tcf7, by decide, rfl, Or.inl (tWD_i 845 (by decide +kernel) (by decide +kernel))⟩
theorem fk_X7_80 : tFK RX7 80 7 0 := ⟨RX7, TX7, 35, tyX7, tcf7, by decide, rfl, Or.inl (tWD_i 812 (by decide +kernel) (by decide +kernel))⟩
theorem fp_X7_80 : tFP RX7 80 7 0 := ⟨RX7, TX7, 35, tyX7, tcf7, by decide, rfl, Or.inl (tWD_i 812 (by decide +kernel) (by decide +kernel)), rfl, rfl⟩
theorem fk_X7_83 : tFK RX7 83 7 1 := ⟨RX7, TX7, 35, tyX7, tcf7, by decide, rfl, Or.inl (tWD_i 813 (by decide +kernel) (by decide +kernel))⟩
theorem fp_X7_83 : tFP RX7 83 7 1 := ⟨RX7, TX7, 35, tyX7, tcf7, by decide, rfl, Or.inl (tWD_i 813 (by decide +kernel) (by decide +kernel)), rfl, rfl⟩
theorem fk_X7_86 : tFK RX7 86 7 3 := ⟨RX7, TX7, 35, tyX7, tcf7, by decide, rfl, Or.inl (tWD_i 815 (by decide +kernel) (by decide +kernel))⟩
theorem fp_X7_86 : tFP RX7 86 7 3 := ⟨RX7, TX7, 35, tyX7, tcf7, by decide, rfl, Or.inl (tWD_i 815 (by decide +kernel) (by decide +kernel)), rfl, rfl⟩
theorem fk_X7_89 : tFK RX7 89 7 6 := ⟨RX7, TX7, 35, tyX7, tcf7, by decide, rfl, Or.inl (tWD_i 818 (by decide +kernel) (by decide +kernel))⟩
theorem fp_X7_89 : tFP RX7 89 7 6 := ⟨RX7, TX7, 35, tyX7, tcf7, by decide, rfl, Or.inl (tWD_i 818 (by decide +kernel) (by decide +kernel)), rfl, rfl⟩
theorem fk_X7_103 : tFK RX7 103 7 4 := ⟨RX7, TX7, 35, tyX7, tcf7, by decide, rfl, Or.inl (tWD_i 816 (by decide +kernel) (by decide +kernel))⟩
theorem fp_X7_103 : tFP RX7 103 7 4 := ⟨RX7, TX7, 35, tyX7, tcf7, by decide, rfl, Or.inl (tWD_i 816 (by decide +kernel) (by decide +kernel)), rfl, rfl⟩
theorem fk_X7_110 : tFK RX7 110 7 5 := ⟨RX7, TX7, 35, tyX7, tcf7, by decide, rfl, Or.inl (tWD_i 817 (by decide +kernel) (by decide +kernel))⟩
theorem fp_X7_110 : tFP RX7 110 7 5 := ⟨RX7, TX7, 35, tyX7, tcf7, by decide, rfl, Or.inl (tWD_i 817 (by decide +kernel) (by decide +kernel)), rfl, rfl⟩
theorem fk_X7_122 : tFK RX7 122 7 8 := ⟨RX7, TX7, 35, tyX7, tcf7, by decide, rfl, Or.inl (tWD_i 820 (by decide +kernel) (by decide +kernel))⟩
theorem fp_X7_122 : tFP RX7 122 7 8 := ⟨RX7, TX7, 35, tyX7, tcf7, by decide, rfl, Or.inl (tWD_i 820 (by decide +kernel) (by decide +kernel)), rfl, rfl⟩
theorem fk_X7_134 : tFK RX7 134 7 24 := ⟨RX7, TX7, 35, tyX7, tcf7, by decide, rfl, Or.inl (tWD_i 836 (by decide +kernel) (by decide +kernel))⟩
theorem fp_X7_134 : tFP RX7 134 7 24 := ⟨RX7, TX7, 35, tyX7, tcf7, by decide, rfl, Or.inl (tWD_i 836 (by decide +kernel) (by decide +kernel)), rfl, rfl⟩
theorem fk_X7_188 : tFK RX7 188 7 26 := ⟨RX7, TX7, 35, tyX7, tcf7, by decide, rfl, Or.inl (tWD_i 838 (by decide +kernel) (by decide +kernel))⟩
theorem fp_X7_188 : tFP RX7 188 7 26 := ⟨RX7, TX7, 35, tyX7, tcf7, by decide, rfl, Or.inl (tWD_i 838 (by decide +kernel) (by decide +kernel)), rfl, rfl⟩
theorem fk_X7_202 : tFK RX7 202 7 29 := ⟨RX7, TX7, 35, tyX7, tcf7, by decide, rfl, Or.inl (tWD_i 841 (by decide +kernel) (by decide +kernel))⟩
theorem fp_X7_202 : tFP RX7 202 7 29 := ⟨RX7, TX7, 35, tyX7, tcf7, by decide, rfl, Or.inl (tWD_i 841 (by decide +kernel) (by decide +kernel)), rfl, rfl⟩
theorem fk_X7_205 : tFK RX7 205 7 30 := ⟨RX7, TX7, 35, tyX7, tcf7, by decide, rfl, Or.inl (tWD_i 842 (by decide +kernel) (by decide +kernel))⟩
theorem fp_X7_205 : tFP RX7 205 7 30 := ⟨RX7, TX7, 35, tyX7, tcf7, by decide, rfl, Or.inl (tWD_i 842 (by decide +kernel) (by decide +kernel)), rfl, rfl⟩
theorem fk_X7_219 : tFK RX7 219 7 34 := ⟨RX7, TX7, 35, tyX7, tcf7, by decide, rfl, Or.inl (tWD_i 846 (by decide +kernel) (by decide +kernel))⟩
theorem fp_X7_219 : tFP RX7 219 7 34 := ⟨RX7, TX7, 35, tyX7, tcf7, by decide, rfl, Or.inl (tWD_i 846 (by decide +kernel) (by decide +kernel)), rfl, rfl⟩
def mX0_bend : tMS := (yX0_bend, cX0_bend, 7, (some .int), { frames := 5, cells := 0, slots := 0, locals := 131 }, 0)
theorem zv_X0_bend : tZV mX0_bend 2 := ⟨tWD_i 728 (by decide +kernel) (by decide +kernel), tWD_i 104 (by decide +kernel) (by decide +kernel), (by decide +kernel), (by decide +kernel), rfl, rfl⟩
theorem zi_X0_bend : tZI mX0_bend := ⟨tWD_i 727 (by decide +kernel) (by decide +kernel), tWD_i 61 (by decide +kernel) (by decide +kernel)⟩
def mX0_canGo : tMS := (yX0_canGo, cX0_canGo, 3, (some .boolean), { frames := 2, cells := 0, slots := 0, locals := 42 }, 0)
theorem zv_X0_canGo : tZV mX0_canGo 1 := ⟨tWD_i 714 (by decide +kernel) (by decide +kernel), tWD_i 104 (by decide +kernel) (by decide +kernel), (by decide +kernel), (by decide +kernel), rfl, rfl⟩
theorem zi_X0_canGo : tZI mX0_canGo := ⟨tWD_i 713 (by decide +kernel) (by decide +kernel), tWD_i 58 (by decide +kernel) (by decide +kernel)⟩
def mX0_makeRoom : tMS := (yX0_makeRoom, cX0_makeRoom, 8, (some .int), { frames := 4, cells := 0, slots := 0, locals := 103 }, 0)
theorem zv_X0_makeRoom : tZV mX0_makeRoom 2 := ⟨tWD_i 706 (by decide +kernel) (by decide +kernel), tWD_i 104 (by decide +kernel) (by decide +kernel), (by decide +kernel), (by decide +kernel), rfl, rfl⟩
theorem zi_X0_makeRoom : tZI mX0_makeRoom := ⟨tWD_i 705 (by decide +kernel) (by decide +kernel), tWD_i 57 (by decide +kernel) (by decide +kernel)⟩
def mX0_takeMoversOff : tMS := (yX0_takeMoversOff, cX0_takeMoversOff, 2, none, { frames := 2, cells := 0, slots := 0, locals := 44 }, 0)
theorem zv_X0_takeMoversOff : tZV mX0_takeMoversOff 0 := ⟨tWD_i 737 (by decide +kernel) (by decide +kernel), tWD_i 104 (by decide +kernel) (by decide +kernel), (by decide +kernel), (by decide +kernel), rfl, rfl⟩
theorem zi_X0_takeMoversOff : tZI mX0_takeMoversOff := ⟨tWD_i 736 (by decide +kernel) (by decide +kernel), tWD_i 63 (by decide +kernel) (by decide +kernel)⟩
def mX1_addCone : tMS := (yX1_addCone, cX1_addCone, 4, (some .int), { frames := 0, cells := 0, slots := 0, locals := 0 }, 0)
theorem zv_X1_addCone : tZV mX1_addCone 3 := ⟨tWD_i 411 (by decide +kernel) (by decide +kernel), tWD_i 99 (by decide +kernel) (by decide +kernel), (by decide +kernel), (by decide +kernel), rfl, rfl⟩
theorem zi_X1_addCone : tZI mX1_addCone := ⟨tWD_i 410 (by decide +kernel) (by decide +kernel), tWD_i 5 (by decide +kernel) (by decide +kernel)⟩
def mX1_addPair : tMS := (yX1_addPair, cX1_addPair, 5, (some .int), { frames := 0, cells := 0, slots := 0, locals := 0 }, 0)
theorem zv_X1_addPair : tZV mX1_addPair 4 := ⟨tWD_i 400 (by decide +kernel) (by decide +kernel), tWD_i 99 (by decide +kernel) (by decide +kernel), (by decide +kernel), (by decide +kernel), rfl, rfl⟩
theorem zi_X1_addPair : tZI mX1_addPair := ⟨tWD_i 399 (by decide +kernel) (by decide +kernel), tWD_i 4 (by decide +kernel) (by decide +kernel)⟩
def mX1_addStand : tMS := (yX1_addStand, cX1_addStand, 3, (some .int), { frames := 0, cells := 0, slots := 0, locals := 0 }, 0)
theorem zv_X1_addStand : tZV mX1_addStand 2 := ⟨tWD_i 380 (by decide +kernel) (by decide +kernel), tWD_i 99 (by decide +kernel) (by decide +kernel), (by decide +kernel), (by decide +kernel), rfl, rfl⟩
theorem zi_X1_addStand : tZI mX1_addStand := ⟨tWD_i 379 (by decide +kernel) (by decide +kernel), tWD_i 1 (by decide +kernel) (by decide +kernel)⟩
def mX1_areTooNear : tMS := (yX1_areTooNear, cX1_areTooNear, 8, (some .boolean), { frames := 0, cells := 0, slots := 0, locals := 0 }, 0)
theorem zv_X1_areTooNear : tZV mX1_areTooNear 4 := ⟨tWD_i 540 (by decide +kernel) (by decide +kernel), tWD_i 99 (by decide +kernel) (by decide +kernel), (by decide +kernel), (by decide +kernel), rfl, rfl⟩
theorem zi_X1_areTooNear : tZI mX1_areTooNear := ⟨tWD_i 539 (by decide +kernel) (by decide +kernel), tWD_i 31 (by decide +kernel) (by decide +kernel)⟩
def mX1_firstCone : tMS := (yX1_firstCone, cX1_firstCone, 5, (some .int), { frames := 1, cells := 0, slots := 0, locals := 23 }, 0)
theorem zv_X1_firstCone : tZV mX1_firstCone 3 := ⟨tWD_i 544 (by decide +kernel) (by decide +kernel), tWD_i 99 (by decide +kernel) (by decide +kernel), (by decide +kernel), (by decide +kernel), rfl, rfl⟩
theorem zi_X1_firstCone : tZI mX1_firstCone := ⟨tWD_i 543 (by decide +kernel) (by decide +kernel), tWD_i 32 (by decide +kernel) (by decide +kernel)⟩
def mX1_halfOf : tMS := (yX1_halfOf, cX1_halfOf, 2, (some .int), { frames := 0, cells := 0, slots := 0, locals := 0 }, 0)
theorem zv_X1_halfOf : tZV mX1_halfOf 1 := ⟨tWD_i 561 (by decide +kernel) (by decide +kernel), tWD_i 99 (by decide +kernel) (by decide +kernel), (by decide +kernel), (by decide +kernel), rfl, rfl⟩
theorem zi_X1_halfOf : tZI mX1_halfOf := ⟨tWD_i 560 (by decide +kernel) (by decide +kernel), tWD_i 36 (by decide +kernel) (by decide +kernel)⟩
def mX1_hasGate : tMS := (yX1_hasGate, cX1_hasGate, 2, (some .boolean), { frames := 0, cells := 0, slots := 0, locals := 0 }, 0)
theorem zv_X1_hasGate : tZV mX1_hasGate 1 := ⟨tWD_i 509 (by decide +kernel) (by decide +kernel), tWD_i 99 (by decide +kernel) (by decide +kernel), (by decide +kernel), (by decide +kernel), rfl, rfl⟩
theorem zi_X1_hasGate : tZI mX1_hasGate := ⟨tWD_i 508 (by decide +kernel) (by decide +kernel), tWD_i 24 (by decide +kernel) (by decide +kernel)⟩
def mX1_hasStand : tMS := (yX1_hasStand, cX1_hasStand, 2, (some .boolean), { frames := 0, cells := 0, slots := 0, locals := 0 }, 0)
theorem zv_X1_hasStand : tZV mX1_hasStand 1 := ⟨tWD_i 392 (by decide +kernel) (by decide +kernel), tWD_i 99 (by decide +kernel) (by decide +kernel), (by decide +kernel), (by decide +kernel), rfl, rfl⟩
theorem zi_X1_hasStand : tZI mX1_hasStand := ⟨tWD_i 391 (by decide +kernel) (by decide +kernel), tWD_i 3 (by decide +kernel) (by decide +kernel)⟩
def mX2_against : tMS := (yX2_against, cX2_against, 4, (some .int), { frames := 3, cells := 0, slots := 0, locals := 80 }, 0)
theorem zv_X2_against : tZV mX2_against 3 := ⟨tWD_i 501 (by decide +kernel) (by decide +kernel), tWD_i 101 (by decide +kernel) (by decide +kernel), (by decide +kernel), (by decide +kernel), rfl, rfl⟩
theorem zi_X2_against : tZI mX2_against := ⟨tWD_i 500 (by decide +kernel) (by decide +kernel), tWD_i 22 (by decide +kernel) (by decide +kernel)⟩
def mX2_bestStand : tMS := (yX2_bestStand, cX2_bestStand, 9, (some .int), { frames := 4, cells := 0, slots := 0, locals := 103 }, 0)
theorem zv_X2_bestStand : tZV mX2_bestStand 2 := ⟨tWD_i 639 (by decide +kernel) (by decide +kernel), tWD_i 101 (by decide +kernel) (by decide +kernel), (by decide +kernel), (by decide +kernel), rfl, rfl⟩
theorem zi_X2_bestStand : tZI mX2_bestStand := ⟨tWD_i 638 (by decide +kernel) (by decide +kernel), tWD_i 48 (by decide +kernel) (by decide +kernel)⟩
def mX2_callAllBack : tMS := (yX2_callAllBack, cX2_callAllBack, 2, none, { frames := 0, cells := 0, slots := 0, locals := 0 }, 0)
theorem zv_X2_callAllBack : tZV mX2_callAllBack 0 := ⟨tWD_i 724 (by decide +kernel) (by decide +kernel), tWD_i 101 (by decide +kernel) (by decide +kernel), (by decide +kernel), (by decide +kernel), rfl, rfl⟩
theorem zi_X2_callAllBack : tZI mX2_callAllBack := ⟨tWD_i 723 (by decide +kernel) (by decide +kernel), tWD_i 60 (by decide +kernel) (by decide +kernel)⟩
def mX2_firstNeighbour : tMS := (yX2_firstNeighbour, cX2_firstNeighbour, 5, (some .int), { frames := 2, cells := 0, slots := 0, locals := 52 }, 0)
theorem zv_X2_firstNeighbour : tZV mX2_firstNeighbour 3 := ⟨tWD_i 516 (by decide +kernel) (by decide +kernel), tWD_i 101 (by decide +kernel) (by decide +kernel), (by decide +kernel), (by decide +kernel), rfl, rfl⟩
theorem zi_X2_firstNeighbour : tZI mX2_firstNeighbour := ⟨tWD_i 515 (by decide +kernel) (by decide +kernel), tWD_i 25 (by decide +kernel) (by decide +kernel)⟩
def mX2_firstTaker : tMS := (yX2_firstTaker, cX2_firstTaker, 6, (some .int), { frames := 2, cells := 0, slots := 0, locals := 55 }, 0)
theorem zv_X2_firstTaker : tZV mX2_firstTaker 3 := ⟨tWD_i 549 (by decide +kernel) (by decide +kernel), tWD_i 101 (by decide +kernel) (by decide +kernel), (by decide +kernel), (by decide +kernel), rfl, rfl⟩
theorem zi_X2_firstTaker : tZI mX2_firstTaker := ⟨tWD_i 548 (by decide +kernel) (by decide +kernel), tWD_i 33 (by decide +kernel) (by decide +kernel)⟩
def mX2_isNeighbour : tMS := (yX2_isNeighbour, cX2_isNeighbour, 6, (some .boolean), { frames := 1, cells := 0, slots := 0, locals := 27 }, 0)
theorem zv_X2_isNeighbour : tZV mX2_isNeighbour 4 := ⟨tWD_i 524 (by decide +kernel) (by decide +kernel), tWD_i 101 (by decide +kernel) (by decide +kernel), (by decide +kernel), (by decide +kernel), rfl, rfl⟩
theorem zi_X2_isNeighbour : tZI mX2_isNeighbour := ⟨tWD_i 523 (by decide +kernel) (by decide +kernel), tWD_i 27 (by decide +kernel) (by decide +kernel)⟩
def mX2_isOther : tMS := (yX2_isOther, cX2_isOther, 2, (some .boolean), { frames := 0, cells := 0, slots := 0, locals := 0 }, 0)
theorem zv_X2_isOther : tZV mX2_isOther 1 := ⟨tWD_i 520 (by decide +kernel) (by decide +kernel), tWD_i 101 (by decide +kernel) (by decide +kernel), (by decide +kernel), (by decide +kernel), rfl, rfl⟩
theorem zi_X2_isOther : tZI mX2_isOther := ⟨tWD_i 519 (by decide +kernel) (by decide +kernel), tWD_i 26 (by decide +kernel) (by decide +kernel)⟩
def mX2_isThirdThere : tMS := (yX2_isThirdThere, cX2_isThirdThere, 10, (some .boolean), { frames := 1, cells := 0, slots := 0, locals := 26 }, 0)
theorem zv_X2_isThirdThere : tZV mX2_isThirdThere 4 := ⟨tWD_i 565 (by decide +kernel) (by decide +kernel), tWD_i 101 (by decide +kernel) (by decide +kernel), (by decide +kernel), (by decide +kernel), rfl, rfl⟩
theorem zi_X2_isThirdThere : tZI mX2_isThirdThere := ⟨tWD_i 564 (by decide +kernel) (by decide +kernel), tWD_i 37 (by decide +kernel) (by decide +kernel)⟩
def mX2_isUnfit : tMS := (yX2_isUnfit, cX2_isUnfit, 6, (some .boolean), { frames := 1, cells := 0, slots := 0, locals := 23 }, 0)
theorem zv_X2_isUnfit : tZV mX2_isUnfit 3 := ⟨tWD_i 505 (by decide +kernel) (by decide +kernel), tWD_i 101 (by decide +kernel) (by decide +kernel), (by decide +kernel), (by decide +kernel), rfl, rfl⟩
theorem zi_X2_isUnfit : tZI mX2_isUnfit := ⟨tWD_i 504 (by decide +kernel) (by decide +kernel), tWD_i 23 (by decide +kernel) (by decide +kernel)⟩
def mX2_mayShare : tMS := (yX2_mayShare, cX2_mayShare, 4, (some .boolean), { frames := 1, cells := 0, slots := 0, locals := 21 }, 0)
theorem zv_X2_mayShare : tZV mX2_mayShare 2 := ⟨tWD_i 557 (by decide +kernel) (by decide +kernel), tWD_i 101 (by decide +kernel) (by decide +kernel), (by decide +kernel), (by decide +kernel), rfl, rfl⟩
theorem zi_X2_mayShare : tZI mX2_mayShare := ⟨tWD_i 556 (by decide +kernel) (by decide +kernel), tWD_i 35 (by decide +kernel) (by decide +kernel)⟩
def mX2_regard : tMS := (yX2_regard, cX2_regard, 2, none, { frames := 1, cells := 0, slots := 0, locals := 21 }, 0)
theorem zv_X2_regard : tZV mX2_regard 1 := ⟨tWD_i 485 (by decide +kernel) (by decide +kernel), tWD_i 101 (by decide +kernel) (by decide +kernel), (by decide +kernel), (by decide +kernel), rfl, rfl⟩
theorem zi_X2_regard : tZI mX2_regard := ⟨tWD_i 484 (by decide +kernel) (by decide +kernel), tWD_i 18 (by decide +kernel) (by decide +kernel)⟩
def mX2_regardPlane : tMS := (yX2_regardPlane, cX2_regardPlane, 2, none, { frames := 0, cells := 0, slots := 0, locals := 0 }, 0)
theorem zv_X2_regardPlane : tZV mX2_regardPlane 1 := ⟨tWD_i 805 (by decide +kernel) (by decide +kernel), tWD_i 101 (by decide +kernel) (by decide +kernel), (by decide +kernel), (by decide +kernel), rfl, rfl⟩
theorem zi_X2_regardPlane : tZI mX2_regardPlane := ⟨tWD_i 804 (by decide +kernel) (by decide +kernel), tWD_i 69 (by decide +kernel) (by decide +kernel)⟩
def mX2_sendAway : tMS := (yX2_sendAway, cX2_sendAway, 2, none, { frames := 1, cells := 0, slots := 0, locals := 21 }, 0)
theorem zv_X2_sendAway : tZV mX2_sendAway 1 := ⟨tWD_i 719 (by decide +kernel) (by decide +kernel), tWD_i 101 (by decide +kernel) (by decide +kernel), (by decide +kernel), (by decide +kernel), rfl, rfl⟩
theorem zi_X2_sendAway : tZI mX2_sendAway := ⟨tWD_i 718 (by decide +kernel) (by decide +kernel), tWD_i 59 (by decide +kernel) (by decide +kernel)⟩
def mX3_empty : tMS := (yX3_empty, cX3_empty, 1, none, { frames := 0, cells := 0, slots := 0, locals := 0 }, 0)
theorem zv_X3_empty : tZV mX3_empty 0 := ⟨tWD_i 619 (by decide +kernel) (by decide +kernel), tWD_i 103 (by decide +kernel) (by decide +kernel), (by decide +kernel), (by decide +kernel), rfl, rfl⟩
theorem zi_X3_empty : tZI mX3_empty := ⟨tWD_i 618 (by decide +kernel) (by decide +kernel), tWD_i 44 (by decide +kernel) (by decide +kernel)⟩
def mX3_join : tMS := (yX3_join, cX3_join, 2, none, { frames := 0, cells := 0, slots := 0, locals := 0 }, 0)
theorem zv_X3_join : tZV mX3_join 1 := ⟨tWD_i 664 (by decide +kernel) (by decide +kernel), tWD_i 103 (by decide +kernel) (by decide +kernel), (by decide +kernel), (by decide +kernel), rfl, rfl⟩
theorem zi_X3_join : tZI mX3_join := ⟨tWD_i 663 (by decide +kernel) (by decide +kernel), tWD_i 51 (by decide +kernel) (by decide +kernel)⟩
def mX3_joinByIn : tMS := (yX3_joinByIn, cX3_joinByIn, 4, none, { frames := 1, cells := 0, slots := 0, locals := 21 }, 0)
theorem zv_X3_joinByIn : tZV mX3_joinByIn 2 := ⟨tWD_i 629 (by decide +kernel) (by decide +kernel), tWD_i 103 (by decide +kernel) (by decide +kernel), (by decide +kernel), (by decide +kernel), rfl, rfl⟩
theorem zi_X3_joinByIn : tZI mX3_joinByIn := ⟨tWD_i 628 (by decide +kernel) (by decide +kernel), tWD_i 46 (by decide +kernel) (by decide +kernel)⟩
def mX3_memberAt : tMS := (yX3_memberAt, cX3_memberAt, 2, (some .int), { frames := 0, cells := 0, slots := 0, locals := 0 }, 0)
theorem zv_X3_memberAt : tZV mX3_memberAt 1 := ⟨tWD_i 752 (by decide +kernel) (by decide +kernel), tWD_i 103 (by decide +kernel) (by decide +kernel), (by decide +kernel), (by decide +kernel), rfl, rfl⟩
theorem zi_X3_memberAt : tZI mX3_memberAt := ⟨tWD_i 751 (by decide +kernel) (by decide +kernel), tWD_i 64 (by decide +kernel) (by decide +kernel)⟩
def mX4_begin : tMS := (yX4_begin, cX4_begin, 2, none, { frames := 3, cells := 0, slots := 0, locals := 63 }, 0)
theorem zv_X4_begin : tZV mX4_begin 0 := ⟨tWD_i 658 (by decide +kernel) (by decide +kernel), tWD_i 102 (by decide +kernel) (by decide +kernel), (by decide +kernel), (by decide +kernel), rfl, rfl⟩
theorem zi_X4_begin : tZI mX4_begin := ⟨tWD_i 657 (by decide +kernel) (by decide +kernel), tWD_i 50 (by decide +kernel) (by decide +kernel)⟩
def mX4_goToNextWhole : tMS := (yX4_goToNextWhole, cX4_goToNextWhole, 4, (some .int), { frames := 4, cells := 0, slots := 0, locals := 103 }, 0)
theorem zv_X4_goToNextWhole : tZV mX4_goToNextWhole 0 := ⟨tWD_i 668 (by decide +kernel) (by decide +kernel), tWD_i 102 (by decide +kernel) (by decide +kernel), (by decide +kernel), (by decide +kernel), rfl, rfl⟩
theorem zi_X4_goToNextWhole : tZI mX4_goToNextWhole := ⟨tWD_i 667 (by decide +kernel) (by decide +kernel), tWD_i 52 (by decide +kernel) (by decide +kernel)⟩
def mX4_keepIfBetter : tMS := (yX4_keepIfBetter, cX4_keepIfBetter, 3, none, { frames := 1, cells := 0, slots := 0, locals := 24 }, 0)
theorem zv_X4_keepIfBetter : tZV mX4_keepIfBetter 0 := ⟨tWD_i 690 (by decide +kernel) (by decide +kernel), tWD_i 102 (by decide +kernel) (by decide +kernel), (by decide +kernel), (by decide +kernel), rfl, rfl⟩
theorem zi_X4_keepIfBetter : tZI mX4_keepIfBetter := ⟨tWD_i 689 (by decide +kernel) (by decide +kernel), tWD_i 55 (by decide +kernel) (by decide +kernel)⟩
def mX4_putBest : tMS := (yX4_putBest, cX4_putBest, 3, none, { frames := 3, cells := 0, slots := 0, locals := 68 }, 0)
theorem zv_X4_putBest : tZV mX4_putBest 0 := ⟨tWD_i 698 (by decide +kernel) (by decide +kernel), tWD_i 102 (by decide +kernel) (by decide +kernel), (by decide +kernel), (by decide +kernel), rfl, rfl⟩
theorem zi_X4_putBest : tZI mX4_putBest := ⟨tWD_i 697 (by decide +kernel) (by decide +kernel), tWD_i 56 (by decide +kernel) (by decide +kernel)⟩
def mX4_takeAllOff : tMS := (yX4_takeAllOff, cX4_takeAllOff, 2, none, { frames := 1, cells := 0, slots := 0, locals := 21 }, 0)
theorem zv_X4_takeAllOff : tZV mX4_takeAllOff 0 := ⟨tWD_i 678 (by decide +kernel) (by decide +kernel), tWD_i 102 (by decide +kernel) (by decide +kernel), (by decide +kernel), (by decide +kernel), rfl, rfl⟩
theorem zi_X4_takeAllOff : tZI mX4_takeAllOff := ⟨tWD_i 677 (by decide +kernel) (by decide +kernel), tWD_i 53 (by decide +kernel) (by decide +kernel)⟩
def mX4_takeBest : tMS := (yX4_takeBest, cX4_takeBest, 3, (some .int), { frames := 5, cells := 0, slots := 0, locals := 126 }, 0)
theorem zv_X4_takeBest : tZV mX4_takeBest 0 := ⟨tWD_i 686 (by decide +kernel) (by decide +kernel), tWD_i 102 (by decide +kernel) (by decide +kernel), (by decide +kernel), (by decide +kernel), rfl, rfl⟩
theorem zi_X4_takeBest : tZI mX4_takeBest := ⟨tWD_i 685 (by decide +kernel) (by decide +kernel), tWD_i 54 (by decide +kernel) (by decide +kernel)⟩
def mX4_takeFirst : tMS := (yX4_takeFirst, cX4_takeFirst, 2, (some .int), { frames := 5, cells := 0, slots := 0, locals := 126 }, 0)
theorem zv_X4_takeFirst : tZV mX4_takeFirst 0 := ⟨tWD_i 654 (by decide +kernel) (by decide +kernel), tWD_i 102 (by decide +kernel) (by decide +kernel), (by decide +kernel), (by decide +kernel), rfl, rfl⟩
theorem zi_X4_takeFirst : tZI mX4_takeFirst := ⟨tWD_i 653 (by decide +kernel) (by decide +kernel), tWD_i 49 (by decide +kernel) (by decide +kernel)⟩
def mX5_add : tMS := (yX5_add, cX5_add, 7, (some .int), { frames := 0, cells := 0, slots := 0, locals := 0 }, 0)
theorem zv_X5_add : tZV mX5_add 5 := ⟨tWD_i 431 (by decide +kernel) (by decide +kernel), tWD_i 100 (by decide +kernel) (by decide +kernel), (by decide +kernel), (by decide +kernel), rfl, rfl⟩
theorem zi_X5_add : tZI mX5_add := ⟨tWD_i 430 (by decide +kernel) (by decide +kernel), tWD_i 8 (by decide +kernel) (by decide +kernel)⟩
def mX5_addStay : tMS := (yX5_addStay, cX5_addStay, 5, none, { frames := 1, cells := 0, slots := 0, locals := 21 }, 0)
theorem zv_X5_addStay : tZV mX5_addStay 3 := ⟨tWD_i 583 (by decide +kernel) (by decide +kernel), tWD_i 100 (by decide +kernel) (by decide +kernel), (by decide +kernel), (by decide +kernel), rfl, rfl⟩
theorem zi_X5_addStay : tZI mX5_addStay := ⟨tWD_i 582 (by decide +kernel) (by decide +kernel), tWD_i 40 (by decide +kernel) (by decide +kernel)⟩
def mX5_endLastStay : tMS := (yX5_endLastStay, cX5_endLastStay, 3, none, { frames := 0, cells := 0, slots := 0, locals := 0 }, 0)
theorem zv_X5_endLastStay : tZV mX5_endLastStay 2 := ⟨tWD_i 610 (by decide +kernel) (by decide +kernel), tWD_i 100 (by decide +kernel) (by decide +kernel), (by decide +kernel), (by decide +kernel), rfl, rfl⟩
theorem zi_X5_endLastStay : tZI mX5_endLastStay := ⟨tWD_i 609 (by decide +kernel) (by decide +kernel), tWD_i 43 (by decide +kernel) (by decide +kernel)⟩
def mX5_endOf : tMS := (yX5_endOf, cX5_endOf, 3, (some .int), { frames := 0, cells := 0, slots := 0, locals := 0 }, 0)
theorem zv_X5_endOf : tZV mX5_endOf 2 := ⟨tWD_i 532 (by decide +kernel) (by decide +kernel), tWD_i 100 (by decide +kernel) (by decide +kernel), (by decide +kernel), (by decide +kernel), rfl, rfl⟩
theorem zi_X5_endOf : tZI mX5_endOf := ⟨tWD_i 531 (by decide +kernel) (by decide +kernel), tWD_i 29 (by decide +kernel) (by decide +kernel)⟩
def mX5_fromOf : tMS := (yX5_fromOf, cX5_fromOf, 3, (some .int), { frames := 0, cells := 0, slots := 0, locals := 0 }, 0)
theorem zv_X5_fromOf : tZV mX5_fromOf 2 := ⟨tWD_i 528 (by decide +kernel) (by decide +kernel), tWD_i 100 (by decide +kernel) (by decide +kernel), (by decide +kernel), (by decide +kernel), rfl, rfl⟩
theorem zi_X5_fromOf : tZI mX5_fromOf := ⟨tWD_i 527 (by decide +kernel) (by decide +kernel), tWD_i 28 (by decide +kernel) (by decide +kernel)⟩
def mX5_has : tMS := (yX5_has, cX5_has, 2, (some .boolean), { frames := 0, cells := 0, slots := 0, locals := 0 }, 0)
theorem zv_X5_has : tZV mX5_has 1 := ⟨tWD_i 439 (by decide +kernel) (by decide +kernel), tWD_i 100 (by decide +kernel) (by decide +kernel), (by decide +kernel), (by decide +kernel), rfl, rfl⟩
theorem zi_X5_has : tZI mX5_has := ⟨tWD_i 438 (by decide +kernel) (by decide +kernel), tWD_i 9 (by decide +kernel) (by decide +kernel)⟩
def mX5_hasBegun : tMS := (yX5_hasBegun, cX5_hasBegun, 2, (some .boolean), { frames := 1, cells := 0, slots := 0, locals := 21 }, 0)
theorem zv_X5_hasBegun : tZV mX5_hasBegun 1 := ⟨tWD_i 467 (by decide +kernel) (by decide +kernel), tWD_i 100 (by decide +kernel) (by decide +kernel), (by decide +kernel), (by decide +kernel), rfl, rfl⟩
theorem zi_X5_hasBegun : tZI mX5_hasBegun := ⟨tWD_i 466 (by decide +kernel) (by decide +kernel), tWD_i 14 (by decide +kernel) (by decide +kernel)⟩
def mX5_inOf : tMS := (yX5_inOf, cX5_inOf, 2, (some .int), { frames := 0, cells := 0, slots := 0, locals := 0 }, 0)
theorem zv_X5_inOf : tZV mX5_inOf 1 := ⟨tWD_i 472 (by decide +kernel) (by decide +kernel), tWD_i 100 (by decide +kernel) (by decide +kernel), (by decide +kernel), (by decide +kernel), rfl, rfl⟩
theorem zi_X5_inOf : tZI mX5_inOf := ⟨tWD_i 471 (by decide +kernel) (by decide +kernel), tWD_i 15 (by decide +kernel) (by decide +kernel)⟩
def mX5_isPut : tMS := (yX5_isPut, cX5_isPut, 2, (some .boolean), { frames := 0, cells := 0, slots := 0, locals := 0 }, 0)
theorem zv_X5_isPut : tZV mX5_isPut 1 := ⟨tWD_i 443 (by decide +kernel) (by decide +kernel), tWD_i 100 (by decide +kernel) (by decide +kernel), (by decide +kernel), (by decide +kernel), rfl, rfl⟩
theorem zi_X5_isPut : tZI mX5_isPut := ⟨tWD_i 442 (by decide +kernel) (by decide +kernel), tWD_i 10 (by decide +kernel) (by decide +kernel)⟩
def mX5_isStayAt : tMS := (yX5_isStayAt, cX5_isStayAt, 7, (some .boolean), { frames := 0, cells := 0, slots := 0, locals := 0 }, 0)
theorem zv_X5_isStayAt : tZV mX5_isStayAt 5 := ⟨tWD_i 553 (by decide +kernel) (by decide +kernel), tWD_i 100 (by decide +kernel) (by decide +kernel), (by decide +kernel), (by decide +kernel), rfl, rfl⟩
theorem zi_X5_isStayAt : tZI mX5_isStayAt := ⟨tWD_i 552 (by decide +kernel) (by decide +kernel), tWD_i 34 (by decide +kernel) (by decide +kernel)⟩
def mX5_isThere : tMS := (yX5_isThere, cX5_isThere, 6, (some .boolean), { frames := 1, cells := 0, slots := 0, locals := 26 }, 0)
theorem zv_X5_isThere : tZV mX5_isThere 4 := ⟨tWD_i 795 (by decide +kernel) (by decide +kernel), tWD_i 100 (by decide +kernel) (by decide +kernel), (by decide +kernel), (by decide +kernel), rfl, rfl⟩
theorem zi_X5_isThere : tZI mX5_isThere := ⟨tWD_i 794 (by decide +kernel) (by decide +kernel), tWD_i 68 (by decide +kernel) (by decide +kernel)⟩
def mX5_isToCome : tMS := (yX5_isToCome, cX5_isToCome, 2, (some .boolean), { frames := 2, cells := 0, slots := 0, locals := 42 }, 0)
theorem zv_X5_isToCome : tZV mX5_isToCome 1 := ⟨tWD_i 623 (by decide +kernel) (by decide +kernel), tWD_i 100 (by decide +kernel) (by decide +kernel), (by decide +kernel), (by decide +kernel), rfl, rfl⟩
theorem zi_X5_isToCome : tZI mX5_isToCome := ⟨tWD_i 622 (by decide +kernel) (by decide +kernel), tWD_i 45 (by decide +kernel) (by decide +kernel)⟩
def mX5_isUnknown : tMS := (yX5_isUnknown, cX5_isUnknown, 2, (some .boolean), { frames := 0, cells := 0, slots := 0, locals := 0 }, 0)
theorem zv_X5_isUnknown : tZV mX5_isUnknown 1 := ⟨tWD_i 463 (by decide +kernel) (by decide +kernel), tWD_i 100 (by decide +kernel) (by decide +kernel), (by decide +kernel), (by decide +kernel), rfl, rfl⟩
theorem zi_X5_isUnknown : tZI mX5_isUnknown := ⟨tWD_i 462 (by decide +kernel) (by decide +kernel), tWD_i 13 (by decide +kernel) (by decide +kernel)⟩
def mX5_isWaiting : tMS := (yX5_isWaiting, cX5_isWaiting, 2, (some .boolean), { frames := 2, cells := 0, slots := 0, locals := 42 }, 0)
theorem zv_X5_isWaiting : tZV mX5_isWaiting 1 := ⟨tWD_i 760 (by decide +kernel) (by decide +kernel), tWD_i 100 (by decide +kernel) (by decide +kernel), (by decide +kernel), (by decide +kernel), rfl, rfl⟩
theorem zi_X5_isWaiting : tZI mX5_isWaiting := ⟨tWD_i 759 (by decide +kernel) (by decide +kernel), tWD_i 65 (by decide +kernel) (by decide +kernel)⟩
def mX5_kindOf : tMS := (yX5_kindOf, cX5_kindOf, 2, (some .int), { frames := 0, cells := 0, slots := 0, locals := 0 }, 0)
theorem zv_X5_kindOf : tZV mX5_kindOf 1 := ⟨tWD_i 489 (by decide +kernel) (by decide +kernel), tWD_i 100 (by decide +kernel) (by decide +kernel), (by decide +kernel), (by decide +kernel), rfl, rfl⟩
theorem zi_X5_kindOf : tZI mX5_kindOf := ⟨tWD_i 488 (by decide +kernel) (by decide +kernel), tWD_i 19 (by decide +kernel) (by decide +kernel)⟩
def mX5_makeLate : tMS := (yX5_makeLate, cX5_makeLate, 3, none, { frames := 1, cells := 0, slots := 0, locals := 22 }, 0)
theorem zv_X5_makeLate : tZV mX5_makeLate 2 := ⟨tWD_i 732 (by decide +kernel) (by decide +kernel), tWD_i 100 (by decide +kernel) (by decide +kernel), (by decide +kernel), (by decide +kernel), rfl, rfl⟩
theorem zi_X5_makeLate : tZI mX5_makeLate := ⟨tWD_i 731 (by decide +kernel) (by decide +kernel), tWD_i 62 (by decide +kernel) (by decide +kernel)⟩
def mX5_moveFirstStay : tMS := (yX5_moveFirstStay, cX5_moveFirstStay, 3, none, { frames := 0, cells := 0, slots := 0, locals := 0 }, 0)
theorem zv_X5_moveFirstStay : tZV mX5_moveFirstStay 2 := ⟨tWD_i 779 (by decide +kernel) (by decide +kernel), tWD_i 100 (by decide +kernel) (by decide +kernel), (by decide +kernel), (by decide +kernel), rfl, rfl⟩
theorem zi_X5_moveFirstStay : tZI mX5_moveFirstStay := ⟨tWD_i 778 (by decide +kernel) (by decide +kernel), tWD_i 67 (by decide +kernel) (by decide +kernel)⟩
def mX5_needOf : tMS := (yX5_needOf, cX5_needOf, 2, (some .int), { frames := 0, cells := 0, slots := 0, locals := 0 }, 0)
theorem zv_X5_needOf : tZV mX5_needOf 1 := ⟨tWD_i 497 (by decide +kernel) (by decide +kernel), tWD_i 100 (by decide +kernel) (by decide +kernel), (by decide +kernel), (by decide +kernel), rfl, rfl⟩
theorem zi_X5_needOf : tZI mX5_needOf := ⟨tWD_i 496 (by decide +kernel) (by decide +kernel), tWD_i 21 (by decide +kernel) (by decide +kernel)⟩
def mX5_outOf : tMS := (yX5_outOf, cX5_outOf, 2, (some .int), { frames := 0, cells := 0, slots := 0, locals := 0 }, 0)
theorem zv_X5_outOf : tZV mX5_outOf 1 := ⟨tWD_i 477 (by decide +kernel) (by decide +kernel), tWD_i 100 (by decide +kernel) (by decide +kernel), (by decide +kernel), (by decide +kernel), rfl, rfl⟩
theorem zi_X5_outOf : tZI mX5_outOf := ⟨tWD_i 476 (by decide +kernel) (by decide +kernel), tWD_i 16 (by decide +kernel) (by decide +kernel)⟩
def mX5_place : tMS := (yX5_place, cX5_place, 4, (some .boolean), { frames := 2, cells := 0, slots := 0, locals := 45 }, 0)
theorem zv_X5_place : tZV mX5_place 3 := ⟨tWD_i 579 (by decide +kernel) (by decide +kernel), tWD_i 100 (by decide +kernel) (by decide +kernel), (by decide +kernel), (by decide +kernel), rfl, rfl⟩
theorem zi_X5_place : tZI mX5_place := ⟨tWD_i 578 (by decide +kernel) (by decide +kernel), tWD_i 39 (by decide +kernel) (by decide +kernel)⟩
def mX5_standOf : tMS := (yX5_standOf, cX5_standOf, 3, (some .int), { frames := 0, cells := 0, slots := 0, locals := 0 }, 0)
theorem zv_X5_standOf : tZV mX5_standOf 2 := ⟨tWD_i 536 (by decide +kernel) (by decide +kernel), tWD_i 100 (by decide +kernel) (by decide +kernel), (by decide +kernel), (by decide +kernel), rfl, rfl⟩
theorem zi_X5_standOf : tZI mX5_standOf := ⟨tWD_i 535 (by decide +kernel) (by decide +kernel), tWD_i 30 (by decide +kernel) (by decide +kernel)⟩
def mX5_takeOff : tMS := (yX5_takeOff, cX5_takeOff, 2, none, { frames := 0, cells := 0, slots := 0, locals := 0 }, 0)
theorem zv_X5_takeOff : tZV mX5_takeOff 1 := ⟨tWD_i 596 (by decide +kernel) (by decide +kernel), tWD_i 100 (by decide +kernel) (by decide +kernel), (by decide +kernel), (by decide +kernel), rfl, rfl⟩
theorem zi_X5_takeOff : tZI mX5_takeOff := ⟨tWD_i 595 (by decide +kernel) (by decide +kernel), tWD_i 41 (by decide +kernel) (by decide +kernel)⟩
def mX5_wingOf : tMS := (yX5_wingOf, cX5_wingOf, 2, (some .int), { frames := 0, cells := 0, slots := 0, locals := 0 }, 0)
theorem zv_X5_wingOf : tZV mX5_wingOf 1 := ⟨tWD_i 493 (by decide +kernel) (by decide +kernel), tWD_i 100 (by decide +kernel) (by decide +kernel), (by decide +kernel), (by decide +kernel), rfl, rfl⟩
theorem zi_X5_wingOf : tZI mX5_wingOf := ⟨tWD_i 492 (by decide +kernel) (by decide +kernel), tWD_i 20 (by decide +kernel) (by decide +kernel)⟩
def mX6_allow : tMS := (yX6_allow, cX6_allow, 1, (some .boolean), { frames := 0, cells := 0, slots := 0, locals := 0 }, 0)
theorem zv_X6_allow : tZV mX6_allow 0 := ⟨tWD_i 423 (by decide +kernel) (by decide +kernel), tWD_i 98 (by decide +kernel) (by decide +kernel), (by decide +kernel), (by decide +kernel), rfl, rfl⟩
theorem zi_X6_allow : tZI mX6_allow := ⟨tWD_i 422 (by decide +kernel) (by decide +kernel), tWD_i 7 (by decide +kernel) (by decide +kernel)⟩
def mX6_at : tMS := (yX6_at, cX6_at, 6, (some .int), { frames := 2, cells := 0, slots := 0, locals := 51 }, 0)
theorem zv_X6_at : tZV mX6_at 3 := ⟨tWD_i 791 (by decide +kernel) (by decide +kernel), tWD_i 98 (by decide +kernel) (by decide +kernel), (by decide +kernel), (by decide +kernel), rfl, rfl⟩
theorem zi_X6_at : tZI mX6_at := ⟨tWD_i 789 (by decide +kernel) (by decide +kernel), tWD_i 790 (by decide +kernel) (by decide +kernel)⟩
def mX6_changed : tMS := (yX6_changed, cX6_changed, 2, (some .int), { frames := 1, cells := 0, slots := 0, locals := 21 }, 0)
theorem zv_X6_changed : tZV mX6_changed 1 := ⟨tWD_i 748 (by decide +kernel) (by decide +kernel), tWD_i 98 (by decide +kernel) (by decide +kernel), (by decide +kernel), (by decide +kernel), rfl, rfl⟩
theorem zi_X6_changed : tZI mX6_changed := ⟨tWD_i 746 (by decide +kernel) (by decide +kernel), tWD_i 747 (by decide +kernel) (by decide +kernel)⟩
def mX6_cone : tMS := (yX6_cone, cX6_cone, 4, (some .int), { frames := 1, cells := 0, slots := 0, locals := 23 }, 0)
theorem zv_X6_cone : tZV mX6_cone 3 := ⟨tWD_i 404 (by decide +kernel) (by decide +kernel), tWD_i 98 (by decide +kernel) (by decide +kernel), (by decide +kernel), (by decide +kernel), rfl, rfl⟩
theorem zi_X6_cone : tZI mX6_cone := ⟨tWD_i 402 (by decide +kernel) (by decide +kernel), tWD_i 403 (by decide +kernel) (by decide +kernel)⟩
def mX6_crowd : tMS := (yX6_crowd, cX6_crowd, 6, (some .int), { frames := 4, cells := 0, slots := 0, locals := 103 }, 0)
theorem zv_X6_crowd : tZV mX6_crowd 3 := ⟨tWD_i 801 (by decide +kernel) (by decide +kernel), tWD_i 98 (by decide +kernel) (by decide +kernel), (by decide +kernel), (by decide +kernel), rfl, rfl⟩
theorem zi_X6_crowd : tZI mX6_crowd := ⟨tWD_i 799 (by decide +kernel) (by decide +kernel), tWD_i 800 (by decide +kernel) (by decide +kernel)⟩
def mX6_deny : tMS := (yX6_deny, cX6_deny, 2, (some .boolean), { frames := 0, cells := 0, slots := 0, locals := 0 }, 0)
theorem zv_X6_deny : tZV mX6_deny 1 := ⟨tWD_i 419 (by decide +kernel) (by decide +kernel), tWD_i 98 (by decide +kernel) (by decide +kernel), (by decide +kernel), (by decide +kernel), rfl, rfl⟩
theorem zi_X6_deny : tZI mX6_deny := ⟨tWD_i 418 (by decide +kernel) (by decide +kernel), tWD_i 6 (by decide +kernel) (by decide +kernel)⟩
def mX6_faultOfLooking : tMS := (yX6_faultOfLooking, cX6_faultOfLooking, 3, (some .int), { frames := 1, cells := 0, slots := 0, locals := 21 }, 0)
theorem zv_X6_faultOfLooking : tZV mX6_faultOfLooking 2 := ⟨tWD_i 459 (by decide +kernel) (by decide +kernel), tWD_i 98 (by decide +kernel) (by decide +kernel), (by decide +kernel), (by decide +kernel), rfl, rfl⟩
theorem zi_X6_faultOfLooking : tZI mX6_faultOfLooking := ⟨tWD_i 458 (by decide +kernel) (by decide +kernel), tWD_i 12 (by decide +kernel) (by decide +kernel)⟩
def mX6_faultOfPutting : tMS := (yX6_faultOfPutting, cX6_faultOfPutting, 4, (some .int), { frames := 2, cells := 0, slots := 0, locals := 43 }, 0)
theorem zv_X6_faultOfPutting : tZV mX6_faultOfPutting 2 := ⟨tWD_i 455 (by decide +kernel) (by decide +kernel), tWD_i 98 (by decide +kernel) (by decide +kernel), (by decide +kernel), (by decide +kernel), rfl, rfl⟩
theorem zi_X6_faultOfPutting : tZI mX6_faultOfPutting := ⟨tWD_i 454 (by decide +kernel) (by decide +kernel), tWD_i 11 (by decide +kernel) (by decide +kernel)⟩
def mX6_faultOfSwapping : tMS := (yX6_faultOfSwapping, cX6_faultOfSwapping, 3, (some .int), { frames := 2, cells := 0, slots := 0, locals := 42 }, 0)
theorem zv_X6_faultOfSwapping : tZV mX6_faultOfSwapping 2 := ⟨tWD_i 772 (by decide +kernel) (by decide +kernel), tWD_i 98 (by decide +kernel) (by decide +kernel), (by decide +kernel), (by decide +kernel), rfl, rfl⟩
theorem zi_X6_faultOfSwapping : tZI mX6_faultOfSwapping := ⟨tWD_i 771 (by decide +kernel) (by decide +kernel), tWD_i 66 (by decide +kernel) (by decide +kernel)⟩
def mX6_faultOfTowing : tMS := (yX6_faultOfTowing, cX6_faultOfTowing, 5, (some .int), { frames := 1, cells := 0, slots := 0, locals := 22 }, 0)
theorem zv_X6_faultOfTowing : tZV mX6_faultOfTowing 3 := ⟨tWD_i 604 (by decide +kernel) (by decide +kernel), tWD_i 98 (by decide +kernel) (by decide +kernel), (by decide +kernel), (by decide +kernel), rfl, rfl⟩
theorem zi_X6_faultOfTowing : tZI mX6_faultOfTowing := ⟨tWD_i 603 (by decide +kernel) (by decide +kernel), tWD_i 42 (by decide +kernel) (by decide +kernel)⟩
def mX6_grant : tMS := (yX6_grant, cX6_grant, 2, (some .int), { frames := 0, cells := 0, slots := 0, locals := 0 }, 0)
theorem zv_X6_grant : tZV mX6_grant 1 := ⟨tWD_i 384 (by decide +kernel) (by decide +kernel), tWD_i 98 (by decide +kernel) (by decide +kernel), (by decide +kernel), (by decide +kernel), rfl, rfl⟩
theorem zi_X6_grant : tZI mX6_grant := ⟨tWD_i 383 (by decide +kernel) (by decide +kernel), tWD_i 2 (by decide +kernel) (by decide +kernel)⟩
def mX6_ground : tMS := (yX6_ground, cX6_ground, 3, (some .int), { frames := 1, cells := 0, slots := 0, locals := 21 }, 0)
theorem zv_X6_ground : tZV mX6_ground 2 := ⟨tWD_i 388 (by decide +kernel) (by decide +kernel), tWD_i 98 (by decide +kernel) (by decide +kernel), (by decide +kernel), (by decide +kernel), rfl, rfl⟩
theorem zi_X6_ground : tZI mX6_ground := ⟨tWD_i 386 (by decide +kernel) (by decide +kernel), tWD_i 387 (by decide +kernel) (by decide +kernel)⟩
def mX6_haveCommonMinute : tMS := (yX6_haveCommonMinute, cX6_haveCommonMinute, 4, (some .boolean), { frames := 0, cells := 0, slots := 0, locals := 0 }, 0)
theorem zv_X6_haveCommonMinute : tZV mX6_haveCommonMinute 4 := ⟨tWD_i 512 (by decide +kernel) (by decide +kernel), tWD_i 98 (by decide +kernel) (by decide +kernel), (by decide +kernel), (by decide +kernel), rfl, rfl⟩
theorem zs_X6_haveCommonMinute : tWD (.static mX6_haveCommonMinute.1) := tWD_i 511 (by decide +kernel) (by decide +kernel)
def mX6_isHindered : tMS := (yX6_isHindered, cX6_isHindered, 6, (some .boolean), { frames := 4, cells := 0, slots := 0, locals := 103 }, 0)
theorem zv_X6_isHindered : tZV mX6_isHindered 4 := ⟨tWD_i 481 (by decide +kernel) (by decide +kernel), tWD_i 98 (by decide +kernel) (by decide +kernel), (by decide +kernel), (by decide +kernel), rfl, rfl⟩
theorem zi_X6_isHindered : tZI mX6_isHindered := ⟨tWD_i 480 (by decide +kernel) (by decide +kernel), tWD_i 17 (by decide +kernel) (by decide +kernel)⟩
def mX6_isSpan : tMS := (yX6_isSpan, cX6_isSpan, 2, (some .boolean), { frames := 0, cells := 0, slots := 0, locals := 0 }, 0)
theorem zv_X6_isSpan : tZV mX6_isSpan 2 := ⟨tWD_i 407 (by decide +kernel) (by decide +kernel), tWD_i 98 (by decide +kernel) (by decide +kernel), (by decide +kernel), (by decide +kernel), rfl, rfl⟩
theorem zs_X6_isSpan : tWD (.static mX6_isSpan.1) := tWD_i 406 (by decide +kernel) (by decide +kernel)
def mX6_isWithin : tMS := (yX6_isWithin, cX6_isWithin, 3, (some .boolean), { frames := 0, cells := 0, slots := 0, locals := 0 }, 0)
theorem zv_X6_isWithin : tZV mX6_isWithin 3 := ⟨tWD_i 372 (by decide +kernel) (by decide +kernel), tWD_i 98 (by decide +kernel) (by decide +kernel), (by decide +kernel), (by decide +kernel), rfl, rfl⟩
theorem zs_X6_isWithin : tWD (.static mX6_isWithin.1) := tWD_i 371 (by decide +kernel) (by decide +kernel)
def mX6_keepReason : tMS := (yX6_keepReason, cX6_keepReason, 2, none, { frames := 0, cells := 0, slots := 0, locals := 0 }, 0)
theorem zv_X6_keepReason : tZV mX6_keepReason 1 := ⟨tWD_i 575 (by decide +kernel) (by decide +kernel), tWD_i 98 (by decide +kernel) (by decide +kernel), (by decide +kernel), (by decide +kernel), rfl, rfl⟩
theorem zi_X6_keepReason : tZI mX6_keepReason := ⟨tWD_i 574 (by decide +kernel) (by decide +kernel), tWD_i 38 (by decide +kernel) (by decide +kernel)⟩
def mX6_late : tMS := (yX6_late, cX6_late, 4, (some .int), { frames := 6, cells := 0, slots := 0, locals := 157 }, 0)
theorem zv_X6_late : tZV mX6_late 2 := ⟨tWD_i 702 (by decide +kernel) (by decide +kernel), tWD_i 98 (by decide +kernel) (by decide +kernel), (by decide +kernel), (by decide +kernel), rfl, rfl⟩
theorem zi_X6_late : tZI mX6_late := ⟨tWD_i 700 (by decide +kernel) (by decide +kernel), tWD_i 701 (by decide +kernel) (by decide +kernel)⟩
def mX6_most : tMS := (yX6_most, cX6_most, 2, (some .int), { frames := 6, cells := 0, slots := 0, locals := 148 }, 0)
theorem zv_X6_most : tZV mX6_most 0 := ⟨tWD_i 682 (by decide +kernel) (by decide +kernel), tWD_i 98 (by decide +kernel) (by decide +kernel), (by decide +kernel), (by decide +kernel), rfl, rfl⟩
theorem zi_X6_most : tZI mX6_most := ⟨tWD_i 680 (by decide +kernel) (by decide +kernel), tWD_i 681 (by decide +kernel) (by decide +kernel)⟩
def mX6_near : tMS := (yX6_near, cX6_near, 5, (some .int), { frames := 1, cells := 0, slots := 0, locals := 24 }, 0)
theorem zv_X6_near : tZV mX6_near 4 := ⟨tWD_i 396 (by decide +kernel) (by decide +kernel), tWD_i 98 (by decide +kernel) (by decide +kernel), (by decide +kernel), (by decide +kernel), rfl, rfl⟩
theorem zi_X6_near : tZI mX6_near := ⟨tWD_i 394 (by decide +kernel) (by decide +kernel), tWD_i 395 (by decide +kernel) (by decide +kernel)⟩
def mX6_now : tMS := (yX6_now, cX6_now, 3, (some .int), { frames := 6, cells := 0, slots := 0, locals := 155 }, 0)
theorem zv_X6_now : tZV mX6_now 1 := ⟨tWD_i 756 (by decide +kernel) (by decide +kernel), tWD_i 98 (by decide +kernel) (by decide +kernel), (by decide +kernel), (by decide +kernel), rfl, rfl⟩
theorem zi_X6_now : tZI mX6_now := ⟨tWD_i 754 (by decide +kernel) (by decide +kernel), tWD_i 755 (by decide +kernel) (by decide +kernel)⟩
def mX6_off : tMS := (yX6_off, cX6_off, 2, (some .boolean), { frames := 2, cells := 0, slots := 0, locals := 42 }, 0)
theorem zv_X6_off : tZV mX6_off 1 := ⟨tWD_i 592 (by decide +kernel) (by decide +kernel), tWD_i 98 (by decide +kernel) (by decide +kernel), (by decide +kernel), (by decide +kernel), rfl, rfl⟩
theorem zi_X6_off : tZI mX6_off := ⟨tWD_i 590 (by decide +kernel) (by decide +kernel), tWD_i 591 (by decide +kernel) (by decide +kernel)⟩
def mX6_plan : tMS := (yX6_plan, cX6_plan, 2, (some .int), { frames := 6, cells := 0, slots := 0, locals := 155 }, 0)
theorem zv_X6_plan : tZV mX6_plan 0 := ⟨tWD_i 615 (by decide +kernel) (by decide +kernel), tWD_i 98 (by decide +kernel) (by decide +kernel), (by decide +kernel), (by decide +kernel), rfl, rfl⟩
theorem zi_X6_plan : tZI mX6_plan := ⟨tWD_i 613 (by decide +kernel) (by decide +kernel), tWD_i 614 (by decide +kernel) (by decide +kernel)⟩
def mX6_put : tMS := (yX6_put, cX6_put, 5, (some .boolean), { frames := 5, cells := 0, slots := 0, locals := 128 }, 0)
theorem zv_X6_put : tZV mX6_put 2 := ⟨tWD_i 451 (by decide +kernel) (by decide +kernel), tWD_i 98 (by decide +kernel) (by decide +kernel), (by decide +kernel), (by decide +kernel), rfl, rfl⟩
theorem zi_X6_put : tZI mX6_put := ⟨tWD_i 449 (by decide +kernel) (by decide +kernel), tWD_i 450 (by decide +kernel) (by decide +kernel)⟩
def mX6_reason : tMS := (yX6_reason, cX6_reason, 2, (some .int), { frames := 0, cells := 0, slots := 0, locals := 0 }, 0)
theorem zv_X6_reason : tZV mX6_reason 1 := ⟨tWD_i 365 (by decide +kernel) (by decide +kernel), tWD_i 98 (by decide +kernel) (by decide +kernel), (by decide +kernel), (by decide +kernel), rfl, rfl⟩
theorem zi_X6_reason : tZI mX6_reason := ⟨tWD_i 363 (by decide +kernel) (by decide +kernel), tWD_i 364 (by decide +kernel) (by decide +kernel)⟩
def mX6_refuse : tMS := (yX6_refuse, cX6_refuse, 2, (some .int), { frames := 0, cells := 0, slots := 0, locals := 0 }, 0)
theorem zv_X6_refuse : tZV mX6_refuse 1 := ⟨tWD_i 376 (by decide +kernel) (by decide +kernel), tWD_i 98 (by decide +kernel) (by decide +kernel), (by decide +kernel), (by decide +kernel), rfl, rfl⟩
theorem zi_X6_refuse : tZI mX6_refuse := ⟨tWD_i 375 (by decide +kernel) (by decide +kernel), tWD_i 0 (by decide +kernel) (by decide +kernel)⟩
def mX6_search : tMS := (yX6_search, cX6_search, 2, (some .int), { frames := 6, cells := 0, slots := 0, locals := 147 }, 0)
theorem zv_X6_search : tZV mX6_search 0 := ⟨tWD_i 650 (by decide +kernel) (by decide +kernel), tWD_i 98 (by decide +kernel) (by decide +kernel), (by decide +kernel), (by decide +kernel), rfl, rfl⟩
theorem zi_X6_search : tZI mX6_search := ⟨tWD_i 648 (by decide +kernel) (by decide +kernel), tWD_i 649 (by decide +kernel) (by decide +kernel)⟩
def mX6_serveLine : tMS := (yX6_serveLine, cX6_serveLine, 5, (some .int), { frames := 5, cells := 0, slots := 0, locals := 131 }, 0)
theorem zv_X6_serveLine : tZV mX6_serveLine 0 := ⟨tWD_i 634 (by decide +kernel) (by decide +kernel), tWD_i 98 (by decide +kernel) (by decide +kernel), (by decide +kernel), (by decide +kernel), rfl, rfl⟩
theorem zi_X6_serveLine : tZI mX6_serveLine := ⟨tWD_i 633 (by decide +kernel) (by decide +kernel), tWD_i 47 (by decide +kernel) (by decide +kernel)⟩
def mX6_stand : tMS := (yX6_stand, cX6_stand, 3, (some .int), { frames := 1, cells := 0, slots := 0, locals := 22 }, 0)
theorem zv_X6_stand : tZV mX6_stand 2 := ⟨tWD_i 369 (by decide +kernel) (by decide +kernel), tWD_i 98 (by decide +kernel) (by decide +kernel), (by decide +kernel), (by decide +kernel), rfl, rfl⟩
theorem zi_X6_stand : tZI mX6_stand := ⟨tWD_i 367 (by decide +kernel) (by decide +kernel), tWD_i 368 (by decide +kernel) (by decide +kernel)⟩
def mX6_status : tMS := (yX6_status, cX6_status, 1, (some .int), { frames := 0, cells := 0, slots := 0, locals := 0 }, 0)
theorem zv_X6_status : tZV mX6_status 0 := ⟨tWD_i 361 (by decide +kernel) (by decide +kernel), tWD_i 98 (by decide +kernel) (by decide +kernel), (by decide +kernel), (by decide +kernel), rfl, rfl⟩
theorem zi_X6_status : tZI mX6_status := ⟨tWD_i 359 (by decide +kernel) (by decide +kernel), tWD_i 360 (by decide +kernel) (by decide +kernel)⟩
def mX6_stay : tMS := (yX6_stay, cX6_stay, 4, (some .int), { frames := 1, cells := 0, slots := 0, locals := 22 }, 0)
theorem zv_X6_stay : tZV mX6_stay 3 := ⟨tWD_i 787 (by decide +kernel) (by decide +kernel), tWD_i 98 (by decide +kernel) (by decide +kernel), (by decide +kernel), (by decide +kernel), rfl, rfl⟩
theorem zi_X6_stay : tZI mX6_stay := ⟨tWD_i 785 (by decide +kernel) (by decide +kernel), tWD_i 786 (by decide +kernel) (by decide +kernel)⟩
def mX6_stays : tMS := (yX6_stays, cX6_stays, 2, (some .int), { frames := 1, cells := 0, slots := 0, locals := 21 }, 0)
theorem zv_X6_stays : tZV mX6_stays 1 := ⟨tWD_i 783 (by decide +kernel) (by decide +kernel), tWD_i 98 (by decide +kernel) (by decide +kernel), (by decide +kernel), (by decide +kernel), rfl, rfl⟩
theorem zi_X6_stays : tZI mX6_stays := ⟨tWD_i 781 (by decide +kernel) (by decide +kernel), tWD_i 782 (by decide +kernel) (by decide +kernel)⟩
def mX6_swap : tMS := (yX6_swap, cX6_swap, 7, (some .boolean), { frames := 5, cells := 0, slots := 0, locals := 128 }, 0)
theorem zv_X6_swap : tZV mX6_swap 2 := ⟨tWD_i 768 (by decide +kernel) (by decide +kernel), tWD_i 98 (by decide +kernel) (by decide +kernel), (by decide +kernel), (by decide +kernel), rfl, rfl⟩
theorem zi_X6_swap : tZI mX6_swap := ⟨tWD_i 766 (by decide +kernel) (by decide +kernel), tWD_i 767 (by decide +kernel) (by decide +kernel)⟩
def mX6_tear : tMS := (yX6_tear, cX6_tear, 3, (some .boolean), { frames := 1, cells := 0, slots := 0, locals := 22 }, 0)
theorem zv_X6_tear : tZV mX6_tear 2 := ⟨tWD_i 435 (by decide +kernel) (by decide +kernel), tWD_i 98 (by decide +kernel) (by decide +kernel), (by decide +kernel), (by decide +kernel), rfl, rfl⟩
theorem zi_X6_tear : tZI mX6_tear := ⟨tWD_i 433 (by decide +kernel) (by decide +kernel), tWD_i 434 (by decide +kernel) (by decide +kernel)⟩
def mX6_told : tMS := (yX6_told, cX6_told, 3, (some .int), { frames := 1, cells := 0, slots := 0, locals := 21 }, 0)
theorem zv_X6_told : tZV mX6_told 2 := ⟨tWD_i 447 (by decide +kernel) (by decide +kernel), tWD_i 98 (by decide +kernel) (by decide +kernel), (by decide +kernel), (by decide +kernel), rfl, rfl⟩
theorem zi_X6_told : tZI mX6_told := ⟨tWD_i 445 (by decide +kernel) (by decide +kernel), tWD_i 446 (by decide +kernel) (by decide +kernel)⟩
def mX6_tow : tMS := (yX6_tow, cX6_tow, 5, (some .boolean), { frames := 5, cells := 0, slots := 0, locals := 128 }, 0)
theorem zv_X6_tow : tZV mX6_tow 3 := ⟨tWD_i 600 (by decide +kernel) (by decide +kernel), tWD_i 98 (by decide +kernel) (by decide +kernel), (by decide +kernel), (by decide +kernel), rfl, rfl⟩
theorem zi_X6_tow : tZI mX6_tow := ⟨tWD_i 598 (by decide +kernel) (by decide +kernel), tWD_i 599 (by decide +kernel) (by decide +kernel)⟩
def mX6_towtime : tMS := (yX6_towtime, cX6_towtime, 2, (some .boolean), { frames := 1, cells := 0, slots := 0, locals := 22 }, 0)
theorem zv_X6_towtime : tZV mX6_towtime 1 := ⟨tWD_i 415 (by decide +kernel) (by decide +kernel), tWD_i 98 (by decide +kernel) (by decide +kernel), (by decide +kernel), (by decide +kernel), rfl, rfl⟩
theorem zi_X6_towtime : tZI mX6_towtime := ⟨tWD_i 413 (by decide +kernel) (by decide +kernel), tWD_i 414 (by decide +kernel) (by decide +kernel)⟩
def mX6_visit : tMS := (yX6_visit, cX6_visit, 6, (some .int), { frames := 1, cells := 0, slots := 0, locals := 26 }, 0)
theorem zv_X6_visit : tZV mX6_visit 5 := ⟨tWD_i 427 (by decide +kernel) (by decide +kernel), tWD_i 98 (by decide +kernel) (by decide +kernel), (by decide +kernel), (by decide +kernel), rfl, rfl⟩
theorem zi_X6_visit : tZI mX6_visit := ⟨tWD_i 425 (by decide +kernel) (by decide +kernel), tWD_i 426 (by decide +kernel) (by decide +kernel)⟩
def mX6_waiting : tMS := (yX6_waiting, cX6_waiting, 3, (some .int), { frames := 3, cells := 0, slots := 0, locals := 63 }, 0)
theorem zv_X6_waiting : tZV mX6_waiting 0 := ⟨tWD_i 764 (by decide +kernel) (by decide +kernel), tWD_i 98 (by decide +kernel) (by decide +kernel), (by decide +kernel), (by decide +kernel), rfl, rfl⟩
theorem zi_X6_waiting : tZI mX6_waiting := ⟨tWD_i 762 (by decide +kernel) (by decide +kernel), tWD_i 763 (by decide +kernel) (by decide +kernel)⟩
def mX6_why : tMS := (yX6_why, cX6_why, 4, (some .int), { frames := 5, cells := 0, slots := 0, locals := 128 }, 0)
theorem zv_X6_why : tZV mX6_why 2 := ⟨tWD_i 588 (by decide +kernel) (by decide +kernel), tWD_i 98 (by decide +kernel) (by decide +kernel), (by decide +kernel), (by decide +kernel), rfl, rfl⟩
theorem zi_X6_why : tZI mX6_why := ⟨tWD_i 586 (by decide +kernel) (by decide +kernel), tWD_i 587 (by decide +kernel) (by decide +kernel)⟩
def mX7_against : tMS := (yX7_against, cX7_against, 11, (some .int), { frames := 4, cells := 0, slots := 0, locals := 101 }, 1)
theorem zv_X7_against : tZV mX7_against 7 := ⟨tWD_i 1020 (by decide +kernel) (by decide +kernel), tWD_i 105 (by decide +kernel) (by decide +kernel), (by decide +kernel), (by decide +kernel), rfl, rfl⟩
theorem zi_X7_against : tZI mX7_against := ⟨tWD_i 1019 (by decide +kernel) (by decide +kernel), tWD_i 83 (by decide +kernel) (by decide +kernel)⟩
def mX7_againstOf : tMS := (yX7_againstOf, cX7_againstOf, 5, (some .int), { frames := 5, cells := 0, slots := 0, locals := 131 }, 1)
theorem zv_X7_againstOf : tZV mX7_againstOf 4 := ⟨tWD_i 1004 (by decide +kernel) (by decide +kernel), tWD_i 105 (by decide +kernel) (by decide +kernel), (by decide +kernel), (by decide +kernel), rfl, rfl⟩
theorem zi_X7_againstOf : tZI mX7_againstOf := ⟨tWD_i 1003 (by decide +kernel) (by decide +kernel), tWD_i 79 (by decide +kernel) (by decide +kernel)⟩
def mX7_at : tMS := (yX7_at, cX7_at, 8, (some .int), { frames := 1, cells := 0, slots := 0, locals := 21 }, 1)
theorem zv_X7_at : tZV mX7_at 3 := ⟨tWD_i 1133 (by decide +kernel) (by decide +kernel), tWD_i 105 (by decide +kernel) (by decide +kernel), (by decide +kernel), (by decide +kernel), rfl, rfl⟩
theorem zi_X7_at : tZI mX7_at := ⟨tWD_i 1131 (by decide +kernel) (by decide +kernel), tWD_i 1132 (by decide +kernel) (by decide +kernel)⟩
def mX7_bestOf : tMS := (yX7_bestOf, cX7_bestOf, 8, (some .int), { frames := 6, cells := 0, slots := 0, locals := 155 }, 1)
theorem zv_X7_bestOf : tZV mX7_bestOf 3 := ⟨tWD_i 1077 (by decide +kernel) (by decide +kernel), tWD_i 105 (by decide +kernel) (by decide +kernel), (by decide +kernel), (by decide +kernel), rfl, rfl⟩
theorem zi_X7_bestOf : tZI mX7_bestOf := ⟨tWD_i 1076 (by decide +kernel) (by decide +kernel), tWD_i 91 (by decide +kernel) (by decide +kernel)⟩
def mX7_changed : tMS := (yX7_changed, cX7_changed, 2, (some .int), { frames := 0, cells := 0, slots := 0, locals := 0 }, 1)
theorem zv_X7_changed : tZV mX7_changed 1 := ⟨tWD_i 1109 (by decide +kernel) (by decide +kernel), tWD_i 105 (by decide +kernel) (by decide +kernel), (by decide +kernel), (by decide +kernel), rfl, rfl⟩
theorem zi_X7_changed : tZI mX7_changed := ⟨tWD_i 1107 (by decide +kernel) (by decide +kernel), tWD_i 1108 (by decide +kernel) (by decide +kernel)⟩
def mX7_cone : tMS := (yX7_cone, cX7_cone, 4, (some .int), { frames := 1, cells := 0, slots := 0, locals := 21 }, 1)
theorem zv_X7_cone : tZV mX7_cone 3 := ⟨tWD_i 953 (by decide +kernel) (by decide +kernel), tWD_i 105 (by decide +kernel) (by decide +kernel), (by decide +kernel), (by decide +kernel), rfl, rfl⟩
theorem zi_X7_cone : tZI mX7_cone := ⟨tWD_i 951 (by decide +kernel) (by decide +kernel), tWD_i 952 (by decide +kernel) (by decide +kernel)⟩
def mX7_crowd : tMS := (yX7_crowd, cX7_crowd, 6, (some .int), { frames := 5, cells := 0, slots := 0, locals := 131 }, 1)
theorem zv_X7_crowd : tZV mX7_crowd 3 := ⟨tWD_i 1137 (by decide +kernel) (by decide +kernel), tWD_i 105 (by decide +kernel) (by decide +kernel), (by decide +kernel), (by decide +kernel), rfl, rfl⟩
theorem zi_X7_crowd : tZI mX7_crowd := ⟨tWD_i 1135 (by decide +kernel) (by decide +kernel), tWD_i 1136 (by decide +kernel) (by decide +kernel)⟩
def mX7_found : tMS := (yX7_found, cX7_found, 3, (some .int), { frames := 7, cells := 0, slots := 0, locals := 179 }, 1)
theorem zv_X7_found : tZV mX7_found 1 := ⟨tWD_i 1089 (by decide +kernel) (by decide +kernel), tWD_i 105 (by decide +kernel) (by decide +kernel), (by decide +kernel), (by decide +kernel), rfl, rfl⟩
theorem zi_X7_found : tZI mX7_found := ⟨tWD_i 1088 (by decide +kernel) (by decide +kernel), tWD_i 93 (by decide +kernel) (by decide +kernel)⟩
def mX7_gives : tMS := (yX7_gives, cX7_gives, 2, (some .int), { frames := 0, cells := 0, slots := 0, locals := 0 }, 1)
theorem zv_X7_gives : tZV mX7_gives 1 := ⟨tWD_i 937 (by decide +kernel) (by decide +kernel), tWD_i 105 (by decide +kernel) (by decide +kernel), (by decide +kernel), (by decide +kernel), rfl, rfl⟩
theorem zi_X7_gives : tZI mX7_gives := ⟨tWD_i 936 (by decide +kernel) (by decide +kernel), tWD_i 71 (by decide +kernel) (by decide +kernel)⟩
def mX7_ground : tMS := (yX7_ground, cX7_ground, 3, (some .int), { frames := 1, cells := 0, slots := 0, locals := 21 }, 1)
theorem zv_X7_ground : tZV mX7_ground 2 := ⟨tWD_i 941 (by decide +kernel) (by decide +kernel), tWD_i 105 (by decide +kernel) (by decide +kernel), (by decide +kernel), (by decide +kernel), rfl, rfl⟩
theorem zi_X7_ground : tZI mX7_ground := ⟨tWD_i 939 (by decide +kernel) (by decide +kernel), tWD_i 940 (by decide +kernel) (by decide +kernel)⟩
def mX7_hasBegun : tMS := (yX7_hasBegun, cX7_hasBegun, 2, (some .boolean), { frames := 1, cells := 0, slots := 0, locals := 21 }, 1)
theorem zv_X7_hasBegun : tZV mX7_hasBegun 1 := ⟨tWD_i 992 (by decide +kernel) (by decide +kernel), tWD_i 105 (by decide +kernel) (by decide +kernel), (by decide +kernel), (by decide +kernel), rfl, rfl⟩
theorem zi_X7_hasBegun : tZI mX7_hasBegun := ⟨tWD_i 991 (by decide +kernel) (by decide +kernel), tWD_i 76 (by decide +kernel) (by decide +kernel)⟩
def mX7_haveCommon : tMS := (yX7_haveCommon, cX7_haveCommon, 4, (some .boolean), { frames := 1, cells := 0, slots := 0, locals := 21 }, 1)
theorem zv_X7_haveCommon : tZV mX7_haveCommon 4 := ⟨tWD_i 1023 (by decide +kernel) (by decide +kernel), tWD_i 105 (by decide +kernel) (by decide +kernel), (by decide +kernel), (by decide +kernel), rfl, rfl⟩
theorem zs_X7_haveCommon : tWD (.static mX7_haveCommon.1) := tWD_i 1022 (by decide +kernel) (by decide +kernel)
def mX7_inOf : tMS := (yX7_inOf, cX7_inOf, 2, (some .int), { frames := 0, cells := 0, slots := 0, locals := 0 }, 1)
theorem zv_X7_inOf : tZV mX7_inOf 1 := ⟨tWD_i 996 (by decide +kernel) (by decide +kernel), tWD_i 105 (by decide +kernel) (by decide +kernel), (by decide +kernel), (by decide +kernel), rfl, rfl⟩
theorem zi_X7_inOf : tZI mX7_inOf := ⟨tWD_i 995 (by decide +kernel) (by decide +kernel), tWD_i 77 (by decide +kernel) (by decide +kernel)⟩
def mX7_isAgainst : tMS := (yX7_isAgainst, cX7_isAgainst, 2, (some .boolean), { frames := 0, cells := 0, slots := 0, locals := 0 }, 1)
theorem zv_X7_isAgainst : tZV mX7_isAgainst 1 := ⟨tWD_i 1041 (by decide +kernel) (by decide +kernel), tWD_i 105 (by decide +kernel) (by decide +kernel), (by decide +kernel), (by decide +kernel), rfl, rfl⟩
theorem zi_X7_isAgainst : tZI mX7_isAgainst := ⟨tWD_i 1040 (by decide +kernel) (by decide +kernel), tWD_i 87 (by decide +kernel) (by decide +kernel)⟩
def mX7_isNeighbour : tMS := (yX7_isNeighbour, cX7_isNeighbour, 13, (some .boolean), { frames := 2, cells := 0, slots := 0, locals := 44 }, 1)
theorem zv_X7_isNeighbour : tZV mX7_isNeighbour 5 := ⟨tWD_i 1029 (by decide +kernel) (by decide +kernel), tWD_i 105 (by decide +kernel) (by decide +kernel), (by decide +kernel), (by decide +kernel), rfl, rfl⟩
theorem zi_X7_isNeighbour : tZI mX7_isNeighbour := ⟨tWD_i 1028 (by decide +kernel) (by decide +kernel), tWD_i 84 (by decide +kernel) (by decide +kernel)⟩
def mX7_isPlanned : tMS := (yX7_isPlanned, cX7_isPlanned, 2, (some .boolean), { frames := 2, cells := 0, slots := 0, locals := 42 }, 1)
theorem zv_X7_isPlanned : tZV mX7_isPlanned 1 := ⟨tWD_i 1069 (by decide +kernel) (by decide +kernel), tWD_i 105 (by decide +kernel) (by decide +kernel), (by decide +kernel), (by decide +kernel), rfl, rfl⟩
theorem zi_X7_isPlanned : tZI mX7_isPlanned := ⟨tWD_i 1068 (by decide +kernel) (by decide +kernel), tWD_i 89 (by decide +kernel) (by decide +kernel)⟩
def mX7_isPut : tMS := (yX7_isPut, cX7_isPut, 2, (some .boolean), { frames := 0, cells := 0, slots := 0, locals := 0 }, 1)
theorem zv_X7_isPut : tZV mX7_isPut 1 := ⟨tWD_i 976 (by decide +kernel) (by decide +kernel), tWD_i 105 (by decide +kernel) (by decide +kernel), (by decide +kernel), (by decide +kernel), rfl, rfl⟩
theorem zi_X7_isPut : tZI mX7_isPut := ⟨tWD_i 975 (by decide +kernel) (by decide +kernel), tWD_i 74 (by decide +kernel) (by decide +kernel)⟩
def mX7_isSpan : tMS := (yX7_isSpan, cX7_isSpan, 2, (some .boolean), { frames := 0, cells := 0, slots := 0, locals := 0 }, 1)
theorem zv_X7_isSpan : tZV mX7_isSpan 2 := ⟨tWD_i 956 (by decide +kernel) (by decide +kernel), tWD_i 105 (by decide +kernel) (by decide +kernel), (by decide +kernel), (by decide +kernel), rfl, rfl⟩
theorem zs_X7_isSpan : tWD (.static mX7_isSpan.1) := tWD_i 955 (by decide +kernel) (by decide +kernel)
def mX7_isStand : tMS := (yX7_isStand, cX7_isStand, 2, (some .boolean), { frames := 0, cells := 0, slots := 0, locals := 0 }, 1)
theorem zv_X7_isStand : tZV mX7_isStand 1 := ⟨tWD_i 945 (by decide +kernel) (by decide +kernel), tWD_i 105 (by decide +kernel) (by decide +kernel), (by decide +kernel), (by decide +kernel), rfl, rfl⟩
theorem zi_X7_isStand : tZI mX7_isStand := ⟨tWD_i 944 (by decide +kernel) (by decide +kernel), tWD_i 72 (by decide +kernel) (by decide +kernel)⟩
def mX7_isThird : tMS := (yX7_isThird, cX7_isThird, 8, (some .boolean), { frames := 2, cells := 0, slots := 0, locals := 44 }, 1)
theorem zv_X7_isThird : tZV mX7_isThird 5 := ⟨tWD_i 1037 (by decide +kernel) (by decide +kernel), tWD_i 105 (by decide +kernel) (by decide +kernel), (by decide +kernel), (by decide +kernel), rfl, rfl⟩
theorem zi_X7_isThird : tZI mX7_isThird := ⟨tWD_i 1036 (by decide +kernel) (by decide +kernel), tWD_i 86 (by decide +kernel) (by decide +kernel)⟩
def mX7_isUnknown : tMS := (yX7_isUnknown, cX7_isUnknown, 2, (some .boolean), { frames := 0, cells := 0, slots := 0, locals := 0 }, 1)
theorem zv_X7_isUnknown : tZV mX7_isUnknown 1 := ⟨tWD_i 988 (by decide +kernel) (by decide +kernel), tWD_i 105 (by decide +kernel) (by decide +kernel), (by decide +kernel), (by decide +kernel), rfl, rfl⟩
theorem zi_X7_isUnknown : tZI mX7_isUnknown := ⟨tWD_i 987 (by decide +kernel) (by decide +kernel), tWD_i 75 (by decide +kernel) (by decide +kernel)⟩
def mX7_isVisit : tMS := (yX7_isVisit, cX7_isVisit, 2, (some .boolean), { frames := 0, cells := 0, slots := 0, locals := 0 }, 1)
theorem zv_X7_isVisit : tZV mX7_isVisit 1 := ⟨tWD_i 972 (by decide +kernel) (by decide +kernel), tWD_i 105 (by decide +kernel) (by decide +kernel), (by decide +kernel), (by decide +kernel), rfl, rfl⟩
theorem zi_X7_isVisit : tZI mX7_isVisit := ⟨tWD_i 971 (by decide +kernel) (by decide +kernel), tWD_i 73 (by decide +kernel) (by decide +kernel)⟩
def mX7_isWaiting : tMS := (yX7_isWaiting, cX7_isWaiting, 2, (some .boolean), { frames := 2, cells := 0, slots := 0, locals := 42 }, 1)
theorem zv_X7_isWaiting : tZV mX7_isWaiting 1 := ⟨tWD_i 1117 (by decide +kernel) (by decide +kernel), tWD_i 105 (by decide +kernel) (by decide +kernel), (by decide +kernel), (by decide +kernel), rfl, rfl⟩
theorem zi_X7_isWaiting : tZI mX7_isWaiting := ⟨tWD_i 1116 (by decide +kernel) (by decide +kernel), tWD_i 96 (by decide +kernel) (by decide +kernel)⟩
def mX7_kindOf : tMS := (yX7_kindOf, cX7_kindOf, 2, (some .int), { frames := 0, cells := 0, slots := 0, locals := 0 }, 1)
theorem zv_X7_kindOf : tZV mX7_kindOf 1 := ⟨tWD_i 1008 (by decide +kernel) (by decide +kernel), tWD_i 105 (by decide +kernel) (by decide +kernel), (by decide +kernel), (by decide +kernel), rfl, rfl⟩
theorem zi_X7_kindOf : tZI mX7_kindOf := ⟨tWD_i 1007 (by decide +kernel) (by decide +kernel), tWD_i 80 (by decide +kernel) (by decide +kernel)⟩
def mX7_late : tMS := (yX7_late, cX7_late, 10, (some .int), { frames := 7, cells := 0, slots := 0, locals := 182 }, 1)
theorem zv_X7_late : tZV mX7_late 2 := ⟨tWD_i 1105 (by decide +kernel) (by decide +kernel), tWD_i 105 (by decide +kernel) (by decide +kernel), (by decide +kernel), (by decide +kernel), rfl, rfl⟩
theorem zi_X7_late : tZI mX7_late := ⟨tWD_i 1103 (by decide +kernel) (by decide +kernel), tWD_i 1104 (by decide +kernel) (by decide +kernel)⟩
def mX7_lines : tMS := (yX7_lines, cX7_lines, 3, none, { frames := 1, cells := 0, slots := 0, locals := 21 }, 1)
theorem zv_X7_lines : tZV mX7_lines 1 := ⟨tWD_i 1073 (by decide +kernel) (by decide +kernel), tWD_i 105 (by decide +kernel) (by decide +kernel), (by decide +kernel), (by decide +kernel), rfl, rfl⟩
theorem zi_X7_lines : tZI mX7_lines := ⟨tWD_i 1072 (by decide +kernel) (by decide +kernel), tWD_i 90 (by decide +kernel) (by decide +kernel)⟩
def mX7_most : tMS := (yX7_most, cX7_most, 1, (some .int), { frames := 8, cells := 0, slots := 0, locals := 201 }, 1)
theorem zv_X7_most : tZV mX7_most 0 := ⟨tWD_i 1101 (by decide +kernel) (by decide +kernel), tWD_i 105 (by decide +kernel) (by decide +kernel), (by decide +kernel), (by decide +kernel), rfl, rfl⟩
theorem zi_X7_most : tZI mX7_most := ⟨tWD_i 1099 (by decide +kernel) (by decide +kernel), tWD_i 1100 (by decide +kernel) (by decide +kernel)⟩
def mX7_near : tMS := (yX7_near, cX7_near, 5, (some .int), { frames := 1, cells := 0, slots := 0, locals := 21 }, 1)
theorem zv_X7_near : tZV mX7_near 4 := ⟨tWD_i 949 (by decide +kernel) (by decide +kernel), tWD_i 105 (by decide +kernel) (by decide +kernel), (by decide +kernel), (by decide +kernel), rfl, rfl⟩
theorem zi_X7_near : tZI mX7_near := ⟨tWD_i 947 (by decide +kernel) (by decide +kernel), tWD_i 948 (by decide +kernel) (by decide +kernel)⟩
def mX7_needOf : tMS := (yX7_needOf, cX7_needOf, 2, (some .int), { frames := 0, cells := 0, slots := 0, locals := 0 }, 1)
theorem zv_X7_needOf : tZV mX7_needOf 1 := ⟨tWD_i 1016 (by decide +kernel) (by decide +kernel), tWD_i 105 (by decide +kernel) (by decide +kernel), (by decide +kernel), (by decide +kernel), rfl, rfl⟩
theorem zi_X7_needOf : tZI mX7_needOf := ⟨tWD_i 1015 (by decide +kernel) (by decide +kernel), tWD_i 82 (by decide +kernel) (by decide +kernel)⟩
def mX7_now : tMS := (yX7_now, cX7_now, 5, (some .int), { frames := 7, cells := 0, slots := 0, locals := 182 }, 1)
theorem zv_X7_now : tZV mX7_now 1 := ⟨tWD_i 1113 (by decide +kernel) (by decide +kernel), tWD_i 105 (by decide +kernel) (by decide +kernel), (by decide +kernel), (by decide +kernel), rfl, rfl⟩
theorem zi_X7_now : tZI mX7_now := ⟨tWD_i 1111 (by decide +kernel) (by decide +kernel), tWD_i 1112 (by decide +kernel) (by decide +kernel)⟩
def mX7_off : tMS := (yX7_off, cX7_off, 2, (some .boolean), { frames := 2, cells := 0, slots := 0, locals := 42 }, 1)
theorem zv_X7_off : tZV mX7_off 1 := ⟨tWD_i 1053 (by decide +kernel) (by decide +kernel), tWD_i 105 (by decide +kernel) (by decide +kernel), (by decide +kernel), (by decide +kernel), rfl, rfl⟩
theorem zi_X7_off : tZI mX7_off := ⟨tWD_i 1051 (by decide +kernel) (by decide +kernel), tWD_i 1052 (by decide +kernel) (by decide +kernel)⟩
def mX7_outOf : tMS := (yX7_outOf, cX7_outOf, 2, (some .int), { frames := 0, cells := 0, slots := 0, locals := 0 }, 1)
theorem zv_X7_outOf : tZV mX7_outOf 1 := ⟨tWD_i 1000 (by decide +kernel) (by decide +kernel), tWD_i 105 (by decide +kernel) (by decide +kernel), (by decide +kernel), (by decide +kernel), rfl, rfl⟩
theorem zi_X7_outOf : tZI mX7_outOf := ⟨tWD_i 999 (by decide +kernel) (by decide +kernel), tWD_i 78 (by decide +kernel) (by decide +kernel)⟩
def mX7_plan : tMS := (yX7_plan, cX7_plan, 5, (some .int), { frames := 7, cells := 0, slots := 0, locals := 182 }, 1)
theorem zv_X7_plan : tZV mX7_plan 0 := ⟨tWD_i 1065 (by decide +kernel) (by decide +kernel), tWD_i 105 (by decide +kernel) (by decide +kernel), (by decide +kernel), (by decide +kernel), rfl, rfl⟩
theorem zi_X7_plan : tZI mX7_plan := ⟨tWD_i 1063 (by decide +kernel) (by decide +kernel), tWD_i 1064 (by decide +kernel) (by decide +kernel)⟩
def mX7_put : tMS := (yX7_put, cX7_put, 3, (some .boolean), { frames := 6, cells := 0, slots := 0, locals := 155 }, 1)
theorem zv_X7_put : tZV mX7_put 2 := ⟨tWD_i 984 (by decide +kernel) (by decide +kernel), tWD_i 105 (by decide +kernel) (by decide +kernel), (by decide +kernel), (by decide +kernel), rfl, rfl⟩
theorem zi_X7_put : tZI mX7_put := ⟨tWD_i 982 (by decide +kernel) (by decide +kernel), tWD_i 983 (by decide +kernel) (by decide +kernel)⟩
def mX7_rank : tMS := (yX7_rank, cX7_rank, 3, (some .int), { frames := 0, cells := 0, slots := 0, locals := 0 }, 1)
theorem zv_X7_rank : tZV mX7_rank 2 := ⟨tWD_i 1081 (by decide +kernel) (by decide +kernel), tWD_i 105 (by decide +kernel) (by decide +kernel), (by decide +kernel), (by decide +kernel), rfl, rfl⟩
theorem zi_X7_rank : tZI mX7_rank := ⟨tWD_i 1080 (by decide +kernel) (by decide +kernel), tWD_i 92 (by decide +kernel) (by decide +kernel)⟩
def mX7_reason : tMS := (yX7_reason, cX7_reason, 2, (some .int), { frames := 0, cells := 0, slots := 0, locals := 0 }, 1)
theorem zv_X7_reason : tZV mX7_reason 1 := ⟨tWD_i 925 (by decide +kernel) (by decide +kernel), tWD_i 105 (by decide +kernel) (by decide +kernel), (by decide +kernel), (by decide +kernel), rfl, rfl⟩
theorem zi_X7_reason : tZI mX7_reason := ⟨tWD_i 923 (by decide +kernel) (by decide +kernel), tWD_i 924 (by decide +kernel) (by decide +kernel)⟩
def mX7_refuse : tMS := (yX7_refuse, cX7_refuse, 2, (some .int), { frames := 0, cells := 0, slots := 0, locals := 0 }, 1)
theorem zv_X7_refuse : tZV mX7_refuse 1 := ⟨tWD_i 933 (by decide +kernel) (by decide +kernel), tWD_i 105 (by decide +kernel) (by decide +kernel), (by decide +kernel), (by decide +kernel), rfl, rfl⟩
theorem zi_X7_refuse : tZI mX7_refuse := ⟨tWD_i 932 (by decide +kernel) (by decide +kernel), tWD_i 70 (by decide +kernel) (by decide +kernel)⟩
def mX7_search : tMS := (yX7_search, cX7_search, 5, (some .boolean), { frames := 6, cells := 0, slots := 0, locals := 155 }, 1)
theorem zv_X7_search : tZV mX7_search 1 := ⟨tWD_i 1093 (by decide +kernel) (by decide +kernel), tWD_i 105 (by decide +kernel) (by decide +kernel), (by decide +kernel), (by decide +kernel), rfl, rfl⟩
theorem zi_X7_search : tZI mX7_search := ⟨tWD_i 1092 (by decide +kernel) (by decide +kernel), tWD_i 94 (by decide +kernel) (by decide +kernel)⟩
def mX7_search_ : tMS := (yX7_search_, cX7_search_, 1, (some .int), { frames := 8, cells := 0, slots := 0, locals := 201 }, 1)
theorem zv_X7_search_ : tZV mX7_search_ 0 := ⟨tWD_i 1085 (by decide +kernel) (by decide +kernel), tWD_i 105 (by decide +kernel) (by decide +kernel), (by decide +kernel), (by decide +kernel), rfl, rfl⟩
theorem zi_X7_search_ : tZI mX7_search_ := ⟨tWD_i 1083 (by decide +kernel) (by decide +kernel), tWD_i 1084 (by decide +kernel) (by decide +kernel)⟩
def mX7_sets : tMS := (yX7_sets, cX7_sets, 5, none, { frames := 0, cells := 0, slots := 0, locals := 0 }, 1)
theorem zv_X7_sets : tZV mX7_sets 4 := ⟨tWD_i 1045 (by decide +kernel) (by decide +kernel), tWD_i 105 (by decide +kernel) (by decide +kernel), (by decide +kernel), (by decide +kernel), rfl, rfl⟩
theorem zi_X7_sets : tZI mX7_sets := ⟨tWD_i 1044 (by decide +kernel) (by decide +kernel), tWD_i 88 (by decide +kernel) (by decide +kernel)⟩
def mX7_stand : tMS := (yX7_stand, cX7_stand, 3, (some .int), { frames := 1, cells := 0, slots := 0, locals := 21 }, 1)
theorem zv_X7_stand : tZV mX7_stand 2 := ⟨tWD_i 929 (by decide +kernel) (by decide +kernel), tWD_i 105 (by decide +kernel) (by decide +kernel), (by decide +kernel), (by decide +kernel), rfl, rfl⟩
theorem zi_X7_stand : tZI mX7_stand := ⟨tWD_i 927 (by decide +kernel) (by decide +kernel), tWD_i 928 (by decide +kernel) (by decide +kernel)⟩
def mX7_status : tMS := (yX7_status, cX7_status, 1, (some .int), { frames := 0, cells := 0, slots := 0, locals := 0 }, 1)
theorem zv_X7_status : tZV mX7_status 0 := ⟨tWD_i 921 (by decide +kernel) (by decide +kernel), tWD_i 105 (by decide +kernel) (by decide +kernel), (by decide +kernel), (by decide +kernel), rfl, rfl⟩
theorem zi_X7_status : tZI mX7_status := ⟨tWD_i 919 (by decide +kernel) (by decide +kernel), tWD_i 920 (by decide +kernel) (by decide +kernel)⟩
def mX7_stay : tMS := (yX7_stay, cX7_stay, 5, (some .int), { frames := 1, cells := 0, slots := 0, locals := 21 }, 1)
theorem zv_X7_stay : tZV mX7_stay 3 := ⟨tWD_i 1129 (by decide +kernel) (by decide +kernel), tWD_i 105 (by decide +kernel) (by decide +kernel), (by decide +kernel), (by decide +kernel), rfl, rfl⟩
theorem zi_X7_stay : tZI mX7_stay := ⟨tWD_i 1127 (by decide +kernel) (by decide +kernel), tWD_i 1128 (by decide +kernel) (by decide +kernel)⟩
def mX7_stays : tMS := (yX7_stays, cX7_stays, 2, (some .int), { frames := 1, cells := 0, slots := 0, locals := 21 }, 1)
theorem zv_X7_stays : tZV mX7_stays 1 := ⟨tWD_i 1125 (by decide +kernel) (by decide +kernel), tWD_i 105 (by decide +kernel) (by decide +kernel), (by decide +kernel), (by decide +kernel), rfl, rfl⟩
theorem zi_X7_stays : tZI mX7_stays := ⟨tWD_i 1123 (by decide +kernel) (by decide +kernel), tWD_i 1124 (by decide +kernel) (by decide +kernel)⟩
def mX7_swap : tMS := (yX7_swap, cX7_swap, 8, (some .boolean), { frames := 6, cells := 0, slots := 0, locals := 155 }, 1)
theorem zv_X7_swap : tZV mX7_swap 2 := ⟨tWD_i 1061 (by decide +kernel) (by decide +kernel), tWD_i 105 (by decide +kernel) (by decide +kernel), (by decide +kernel), (by decide +kernel), rfl, rfl⟩
theorem zi_X7_swap : tZI mX7_swap := ⟨tWD_i 1059 (by decide +kernel) (by decide +kernel), tWD_i 1060 (by decide +kernel) (by decide +kernel)⟩
def mX7_takes : tMS := (yX7_takes, cX7_takes, 11, (some .boolean), { frames := 3, cells := 0, slots := 0, locals := 71 }, 1)
theorem zv_X7_takes : tZV mX7_takes 6 := ⟨tWD_i 1033 (by decide +kernel) (by decide +kernel), tWD_i 105 (by decide +kernel) (by decide +kernel), (by decide +kernel), (by decide +kernel), rfl, rfl⟩
theorem zi_X7_takes : tZI mX7_takes := ⟨tWD_i 1032 (by decide +kernel) (by decide +kernel), tWD_i 85 (by decide +kernel) (by decide +kernel)⟩
def mX7_tear : tMS := (yX7_tear, cX7_tear, 3, (some .boolean), { frames := 1, cells := 0, slots := 0, locals := 21 }, 1)
theorem zv_X7_tear : tZV mX7_tear 2 := ⟨tWD_i 968 (by decide +kernel) (by decide +kernel), tWD_i 105 (by decide +kernel) (by decide +kernel), (by decide +kernel), (by decide +kernel), rfl, rfl⟩
theorem zi_X7_tear : tZI mX7_tear := ⟨tWD_i 966 (by decide +kernel) (by decide +kernel), tWD_i 967 (by decide +kernel) (by decide +kernel)⟩
def mX7_told : tMS := (yX7_told, cX7_told, 3, (some .int), { frames := 1, cells := 0, slots := 0, locals := 21 }, 1)
theorem zv_X7_told : tZV mX7_told 2 := ⟨tWD_i 980 (by decide +kernel) (by decide +kernel), tWD_i 105 (by decide +kernel) (by decide +kernel), (by decide +kernel), (by decide +kernel), rfl, rfl⟩
theorem zi_X7_told : tZI mX7_told := ⟨tWD_i 978 (by decide +kernel) (by decide +kernel), tWD_i 979 (by decide +kernel) (by decide +kernel)⟩
def mX7_tow : tMS := (yX7_tow, cX7_tow, 6, (some .boolean), { frames := 6, cells := 0, slots := 0, locals := 155 }, 1)
theorem zv_X7_tow : tZV mX7_tow 3 := ⟨tWD_i 1057 (by decide +kernel) (by decide +kernel), tWD_i 105 (by decide +kernel) (by decide +kernel), (by decide +kernel), (by decide +kernel), rfl, rfl⟩
theorem zi_X7_tow : tZI mX7_tow := ⟨tWD_i 1055 (by decide +kernel) (by decide +kernel), tWD_i 1056 (by decide +kernel) (by decide +kernel)⟩
def mX7_towtime : tMS := (yX7_towtime, cX7_towtime, 3, (some .boolean), { frames := 0, cells := 0, slots := 0, locals := 0 }, 1)
theorem zv_X7_towtime : tZV mX7_towtime 1 := ⟨tWD_i 960 (by decide +kernel) (by decide +kernel), tWD_i 105 (by decide +kernel) (by decide +kernel), (by decide +kernel), (by decide +kernel), rfl, rfl⟩
theorem zi_X7_towtime : tZI mX7_towtime := ⟨tWD_i 958 (by decide +kernel) (by decide +kernel), tWD_i 959 (by decide +kernel) (by decide +kernel)⟩
def mX7_visit : tMS := (yX7_visit, cX7_visit, 7, (some .int), { frames := 1, cells := 0, slots := 0, locals := 21 }, 1)
theorem zv_X7_visit : tZV mX7_visit 5 := ⟨tWD_i 964 (by decide +kernel) (by decide +kernel), tWD_i 105 (by decide +kernel) (by decide +kernel), (by decide +kernel), (by decide +kernel), rfl, rfl⟩
theorem zi_X7_visit : tZI mX7_visit := ⟨tWD_i 962 (by decide +kernel) (by decide +kernel), tWD_i 963 (by decide +kernel) (by decide +kernel)⟩
def mX7_waiting : tMS := (yX7_waiting, cX7_waiting, 3, (some .int), { frames := 3, cells := 0, slots := 0, locals := 63 }, 1)
theorem zv_X7_waiting : tZV mX7_waiting 0 := ⟨tWD_i 1121 (by decide +kernel) (by decide +kernel), tWD_i 105 (by decide +kernel) (by decide +kernel), (by decide +kernel), (by decide +kernel), rfl, rfl⟩
theorem zi_X7_waiting : tZI mX7_waiting := ⟨tWD_i 1119 (by decide +kernel) (by decide +kernel), tWD_i 1120 (by decide +kernel) (by decide +kernel)⟩
def mX7_whole : tMS := (yX7_whole, cX7_whole, 3, none, { frames := 0, cells := 0, slots := 0, locals := 0 }, 1)
theorem zv_X7_whole : tZV mX7_whole 0 := ⟨tWD_i 1097 (by decide +kernel) (by decide +kernel), tWD_i 105 (by decide +kernel) (by decide +kernel), (by decide +kernel), (by decide +kernel), rfl, rfl⟩
theorem zi_X7_whole : tZI mX7_whole := ⟨tWD_i 1096 (by decide +kernel) (by decide +kernel), tWD_i 95 (by decide +kernel) (by decide +kernel)⟩
def mX7_why : tMS := (yX7_why, cX7_why, 5, (some .int), { frames := 6, cells := 0, slots := 0, locals := 155 }, 1)
theorem zv_X7_why : tZV mX7_why 2 := ⟨tWD_i 1049 (by decide +kernel) (by decide +kernel), tWD_i 105 (by decide +kernel) (by decide +kernel), (by decide +kernel), (by decide +kernel), rfl, rfl⟩
theorem zi_X7_why : tZI mX7_why := ⟨tWD_i 1047 (by decide +kernel) (by decide +kernel), tWD_i 1048 (by decide +kernel) (by decide +kernel)⟩
def mX7_wingOf : tMS := (yX7_wingOf, cX7_wingOf, 2, (some .int), { frames := 0, cells := 0, slots := 0, locals := 0 }, 1)
theorem zv_X7_wingOf : tZV mX7_wingOf 1 := ⟨tWD_i 1012 (by decide +kernel) (by decide +kernel), tWD_i 105 (by decide +kernel) (by decide +kernel), (by decide +kernel), (by decide +kernel), rfl, rfl⟩
theorem zi_X7_wingOf : tZI mX7_wingOf := ⟨tWD_i 1011 (by decide +kernel) (by decide +kernel), tWD_i 81 (by decide +kernel) (by decide +kernel)⟩
theorem lk_X6_70 : tLK RX6 70 mX6_isWithin := Or.inl (tWD_i 370 (by decide +kernel) (by decide +kernel))
theorem lk_X6_74 : tLK RX6 74 mX6_refuse := Or.inl (tWD_i 373 (by decide +kernel) (by decide +kernel))
theorem lk_X6_81 : tLK RX6 81 mX1_addStand := Or.inr (tWD_i 377 (by decide +kernel) (by decide +kernel))
theorem lk_X6_85 : tLK RX6 85 mX6_grant := Or.inl (tWD_i 381 (by decide +kernel) (by decide +kernel))
theorem lk_X6_88 : tLK RX6 88 mX1_hasStand := Or.inr (tWD_i 389 (by decide +kernel) (by decide +kernel))
theorem lk_X6_102 : tLK RX6 102 mX1_addPair := Or.inr (tWD_i 397 (by decide +kernel) (by decide +kernel))
theorem lk_X6_106 : tLK RX6 106 mX6_isSpan := Or.inl (tWD_i 405 (by decide +kernel) (by decide +kernel))
theorem lk_X6_113 : tLK RX6 113 mX1_addCone := Or.inr (tWD_i 408 (by decide +kernel) (by decide +kernel))
theorem lk_X6_117 : tLK RX6 117 mX6_deny := Or.inl (tWD_i 416 (by decide +kernel) (by decide +kernel))
theorem lk_X6_120 : tLK RX6 120 mX6_allow := Or.inl (tWD_i 420 (by decide +kernel) (by decide +kernel))
theorem lk_X6_127 : tLK RX6 127 mX5_add := Or.inr (tWD_i 428 (by decide +kernel) (by decide +kernel))
theorem lk_X6_131 : tLK RX6 131 mX5_has := Or.inr (tWD_i 436 (by decide +kernel) (by decide +kernel))
theorem lk_X6_137 : tLK RX6 137 mX5_isPut := Or.inr (tWD_i 440 (by decide +kernel) (by decide +kernel))
theorem lk_X6_143 : tLK RX6 143 mX6_faultOfPutting := Or.inl (tWD_i 452 (by decide +kernel) (by decide +kernel))
theorem lk_X6_146 : tLK RX6 146 mX5_inOf := Or.inr (tWD_i 473 (by decide +kernel) (by decide +kernel))
theorem lk_X6_149 : tLK RX6 149 mX5_outOf := Or.inr (tWD_i 474 (by decide +kernel) (by decide +kernel))
theorem lk_X6_152 : tLK RX6 152 mX6_isHindered := Or.inl (tWD_i 478 (by decide +kernel) (by decide +kernel))
theorem lk_X6_156 : tLK RX6 156 mX5_place := Or.inr (tWD_i 576 (by decide +kernel) (by decide +kernel))
theorem lk_X6_159 : tLK RX6 159 mX6_faultOfLooking := Or.inl (tWD_i 456 (by decide +kernel) (by decide +kernel))
theorem lk_X6_162 : tLK RX6 162 mX5_hasBegun := Or.inr (tWD_i 464 (by decide +kernel) (by decide +kernel))
theorem lk_X6_165 : tLK RX6 165 mX5_takeOff := Or.inr (tWD_i 593 (by decide +kernel) (by decide +kernel))
theorem lk_X6_169 : tLK RX6 169 mX6_faultOfTowing := Or.inl (tWD_i 601 (by decide +kernel) (by decide +kernel))
theorem lk_X6_172 : tLK RX6 172 mX5_endLastStay := Or.inr (tWD_i 607 (by decide +kernel) (by decide +kernel))
theorem lk_X6_176 : tLK RX6 176 mX5_addStay := Or.inr (tWD_i 611 (by decide +kernel) (by decide +kernel))
theorem lk_X6_180 : tLK RX6 180 mX3_empty := Or.inr (tWD_i 616 (by decide +kernel) (by decide +kernel))
theorem lk_X6_183 : tLK RX6 183 mX5_isToCome := Or.inr (tWD_i 620 (by decide +kernel) (by decide +kernel))
theorem lk_X6_186 : tLK RX6 186 mX3_joinByIn := Or.inr (tWD_i 626 (by decide +kernel) (by decide +kernel))
theorem lk_X6_193 : tLK RX6 193 mX6_serveLine := Or.inl (tWD_i 631 (by decide +kernel) (by decide +kernel))
theorem lk_X6_197 : tLK RX6 197 mX4_takeFirst := Or.inr (tWD_i 651 (by decide +kernel) (by decide +kernel))
theorem lk_X6_203 : tLK RX6 203 mX4_takeBest := Or.inr (tWD_i 683 (by decide +kernel) (by decide +kernel))
theorem lk_X6_209 : tLK RX6 209 mX0_makeRoom := Or.inr (tWD_i 703 (by decide +kernel) (by decide +kernel))
theorem lk_X6_212 : tLK RX6 212 mX6_keepReason := Or.inl (tWD_i 572 (by decide +kernel) (by decide +kernel))
theorem lk_X6_215 : tLK RX6 215 mX0_bend := Or.inr (tWD_i 725 (by decide +kernel) (by decide +kernel))
theorem lk_X6_221 : tLK RX6 221 mX3_memberAt := Or.inr (tWD_i 749 (by decide +kernel) (by decide +kernel))
theorem lk_X6_227 : tLK RX6 227 mX5_isWaiting := Or.inr (tWD_i 757 (by decide +kernel) (by decide +kernel))
theorem lk_X6_230 : tLK RX6 230 mX6_faultOfSwapping := Or.inl (tWD_i 769 (by decide +kernel) (by decide +kernel))
theorem lk_X6_233 : tLK RX6 233 mX5_standOf := Or.inr (tWD_i 605 (by decide +kernel) (by decide +kernel))
theorem lk_X6_236 : tLK RX6 236 mX2_sendAway := Or.inr (tWD_i 773 (by decide +kernel) (by decide +kernel))
theorem lk_X6_239 : tLK RX6 239 mX5_fromOf := Or.inr (tWD_i 606 (by decide +kernel) (by decide +kernel))
theorem lk_X6_242 : tLK RX6 242 mX5_endOf := Or.inr (tWD_i 774 (by decide +kernel) (by decide +kernel))
theorem lk_X6_245 : tLK RX6 245 mX2_callAllBack := Or.inr (tWD_i 775 (by decide +kernel) (by decide +kernel))
theorem lk_X6_248 : tLK RX6 248 mX5_moveFirstStay := Or.inr (tWD_i 776 (by decide +kernel) (by decide +kernel))
theorem lk_X6_254 : tLK RX6 254 mX5_isThere := Or.inr (tWD_i 792 (by decide +kernel) (by decide +kernel))
theorem lk_X6_257 : tLK RX6 257 mX1_firstCone := Or.inr (tWD_i 797 (by decide +kernel) (by decide +kernel))
theorem lk_X6_260 : tLK RX6 260 mX2_regardPlane := Or.inr (tWD_i 802 (by decide +kernel) (by decide +kernel))
theorem lk_X6_263 : tLK RX6 263 mX2_against := Or.inr (tWD_i 498 (by decide +kernel) (by decide +kernel))
theorem lk_X6_266 : tLK RX6 266 mX5_isUnknown := Or.inr (tWD_i 460 (by decide +kernel) (by decide +kernel))
theorem lk_X6_277 : tLK RX6 277 mX2_bestStand := Or.inr (tWD_i 636 (by decide +kernel) (by decide +kernel))
theorem lk_X6_280 : tLK RX6 280 mX2_regard := Or.inr (tWD_i 482 (by decide +kernel) (by decide +kernel))
theorem lk_X0_38 : tLK RX0 38 mX5_standOf := Or.inr (tWD_i 707 (by decide +kernel) (by decide +kernel))
theorem lk_X0_42 : tLK RX0 42 mX5_fromOf := Or.inr (tWD_i 708 (by decide +kernel) (by decide +kernel))
theorem lk_X0_45 : tLK RX0 45 mX2_regard := Or.inr (tWD_i 709 (by decide +kernel) (by decide +kernel))
theorem lk_X0_51 : tLK RX0 51 mX2_against := Or.inr (tWD_i 710 (by decide +kernel) (by decide +kernel))
theorem lk_X0_55 : tLK RX0 55 mX0_canGo := Or.inl (tWD_i 711 (by decide +kernel) (by decide +kernel))
theorem lk_X0_63 : tLK RX0 63 mX2_sendAway := Or.inr (tWD_i 716 (by decide +kernel) (by decide +kernel))
theorem lk_X0_66 : tLK RX0 66 mX2_callAllBack := Or.inr (tWD_i 721 (by decide +kernel) (by decide +kernel))
theorem lk_X0_69 : tLK RX0 69 mX5_hasBegun := Or.inr (tWD_i 715 (by decide +kernel) (by decide +kernel))
theorem lk_X0_72 : tLK RX0 72 mX5_makeLate := Or.inr (tWD_i 729 (by decide +kernel) (by decide +kernel))
theorem lk_X0_76 : tLK RX0 76 mX0_takeMoversOff := Or.inl (tWD_i 734 (by decide +kernel) (by decide +kernel))
theorem lk_X0_79 : tLK RX0 79 mX3_empty := Or.inr (tWD_i 738 (by decide +kernel) (by decide +kernel))
theorem lk_X0_88 : tLK RX0 88 mX5_inOf := Or.inr (tWD_i 741 (by decide +kernel) (by decide +kernel))
theorem lk_X0_92 : tLK RX0 92 mX2_bestStand := Or.inr (tWD_i 742 (by decide +kernel) (by decide +kernel))
theorem lk_X0_95 : tLK RX0 95 mX5_place := Or.inr (tWD_i 743 (by decide +kernel) (by decide +kernel))
theorem lk_X0_99 : tLK RX0 99 mX3_join := Or.inr (tWD_i 744 (by decide +kernel) (by decide +kernel))
theorem lk_X0_109 : tLK RX0 109 mX3_joinByIn := Or.inr (tWD_i 739 (by decide +kernel) (by decide +kernel))
theorem lk_X0_113 : tLK RX0 113 mX5_takeOff := Or.inr (tWD_i 740 (by decide +kernel) (by decide +kernel))
theorem lk_X1_49 : tLK RX1 49 mX6_haveCommonMinute := Or.inr (tWD_i 545 (by decide +kernel) (by decide +kernel))
theorem lk_X2_27 : tLK RX2 27 mX5_has := Or.inr (tWD_i 720 (by decide +kernel) (by decide +kernel))
theorem lk_X2_36 : tLK RX2 36 mX5_kindOf := Or.inr (tWD_i 486 (by decide +kernel) (by decide +kernel))
theorem lk_X2_43 : tLK RX2 43 mX5_wingOf := Or.inr (tWD_i 490 (by decide +kernel) (by decide +kernel))
theorem lk_X2_49 : tLK RX2 49 mX5_needOf := Or.inr (tWD_i 494 (by decide +kernel) (by decide +kernel))
theorem lk_X2_55 : tLK RX2 55 mX2_regard := Or.inl (tWD_i 640 (by decide +kernel) (by decide +kernel))
theorem lk_X2_59 : tLK RX2 59 mX5_outOf := Or.inr (tWD_i 641 (by decide +kernel) (by decide +kernel))
theorem lk_X2_80 : tLK RX2 80 mX2_against := Or.inl (tWD_i 646 (by decide +kernel) (by decide +kernel))
theorem lk_X2_84 : tLK RX2 84 mX2_isUnfit := Or.inl (tWD_i 502 (by decide +kernel) (by decide +kernel))
theorem lk_X2_88 : tLK RX2 88 mX2_firstNeighbour := Or.inl (tWD_i 513 (by decide +kernel) (by decide +kernel))
theorem lk_X2_91 : tLK RX2 91 mX1_firstCone := Or.inr (tWD_i 541 (by decide +kernel) (by decide +kernel))
theorem lk_X2_94 : tLK RX2 94 mX2_firstTaker := Or.inl (tWD_i 546 (by decide +kernel) (by decide +kernel))
theorem lk_X2_97 : tLK RX2 97 mX1_hasGate := Or.inr (tWD_i 506 (by decide +kernel) (by decide +kernel))
theorem lk_X2_100 : tLK RX2 100 mX6_haveCommonMinute := Or.inr (tWD_i 510 (by decide +kernel) (by decide +kernel))
theorem lk_X2_107 : tLK RX2 107 mX2_isOther := Or.inl (tWD_i 517 (by decide +kernel) (by decide +kernel))
theorem lk_X2_110 : tLK RX2 110 mX2_isNeighbour := Or.inl (tWD_i 521 (by decide +kernel) (by decide +kernel))
theorem lk_X2_116 : tLK RX2 116 mX5_fromOf := Or.inr (tWD_i 525 (by decide +kernel) (by decide +kernel))
theorem lk_X2_120 : tLK RX2 120 mX5_endOf := Or.inr (tWD_i 529 (by decide +kernel) (by decide +kernel))
theorem lk_X2_123 : tLK RX2 123 mX5_standOf := Or.inr (tWD_i 533 (by decide +kernel) (by decide +kernel))
theorem lk_X2_126 : tLK RX2 126 mX1_areTooNear := Or.inr (tWD_i 537 (by decide +kernel) (by decide +kernel))
theorem lk_X2_129 : tLK RX2 129 mX5_isStayAt := Or.inr (tWD_i 550 (by decide +kernel) (by decide +kernel))
theorem lk_X2_133 : tLK RX2 133 mX2_mayShare := Or.inl (tWD_i 554 (by decide +kernel) (by decide +kernel))
theorem lk_X2_137 : tLK RX2 137 mX2_isThirdThere := Or.inl (tWD_i 562 (by decide +kernel) (by decide +kernel))
theorem lk_X2_140 : tLK RX2 140 mX1_halfOf := Or.inr (tWD_i 558 (by decide +kernel) (by decide +kernel))
theorem lk_X3_19 : tLK RX3 19 mX5_inOf := Or.inr (tWD_i 630 (by decide +kernel) (by decide +kernel))
theorem lk_X4_37 : tLK RX4 37 mX4_begin := Or.inl (tWD_i 655 (by decide +kernel) (by decide +kernel))
theorem lk_X4_44 : tLK RX4 44 mX4_goToNextWhole := Or.inl (tWD_i 665 (by decide +kernel) (by decide +kernel))
theorem lk_X4_48 : tLK RX4 48 mX4_takeAllOff := Or.inl (tWD_i 675 (by decide +kernel) (by decide +kernel))
theorem lk_X4_54 : tLK RX4 54 mX4_keepIfBetter := Or.inl (tWD_i 687 (by decide +kernel) (by decide +kernel))
theorem lk_X4_57 : tLK RX4 57 mX4_putBest := Or.inl (tWD_i 695 (by decide +kernel) (by decide +kernel))
theorem lk_X4_60 : tLK RX4 60 mX3_empty := Or.inr (tWD_i 659 (by decide +kernel) (by decide +kernel))
theorem lk_X4_68 : tLK RX4 68 mX5_isToCome := Or.inr (tWD_i 660 (by decide +kernel) (by decide +kernel))
theorem lk_X4_72 : tLK RX4 72 mX3_join := Or.inr (tWD_i 661 (by decide +kernel) (by decide +kernel))
theorem lk_X4_85 : tLK RX4 85 mX5_takeOff := Or.inr (tWD_i 669 (by decide +kernel) (by decide +kernel))
theorem lk_X4_93 : tLK RX4 93 mX2_regard := Or.inr (tWD_i 670 (by decide +kernel) (by decide +kernel))
theorem lk_X4_98 : tLK RX4 98 mX5_inOf := Or.inr (tWD_i 671 (by decide +kernel) (by decide +kernel))
theorem lk_X4_102 : tLK RX4 102 mX5_outOf := Or.inr (tWD_i 672 (by decide +kernel) (by decide +kernel))
theorem lk_X4_105 : tLK RX4 105 mX2_against := Or.inr (tWD_i 673 (by decide +kernel) (by decide +kernel))
theorem lk_X4_109 : tLK RX4 109 mX5_place := Or.inr (tWD_i 674 (by decide +kernel) (by decide +kernel))
theorem lk_X4_113 : tLK RX4 113 mX1_hasGate := Or.inr (tWD_i 691 (by decide +kernel) (by decide +kernel))
theorem lk_X5_34 : tLK RX5 34 mX5_isUnknown := Or.inl (tWD_i 468 (by decide +kernel) (by decide +kernel))
theorem lk_X5_38 : tLK RX5 38 mX5_inOf := Or.inl (tWD_i 469 (by decide +kernel) (by decide +kernel))
theorem lk_X5_45 : tLK RX5 45 mX5_isPut := Or.inl (tWD_i 624 (by decide +kernel) (by decide +kernel))
theorem lk_X5_48 : tLK RX5 48 mX5_hasBegun := Or.inl (tWD_i 625 (by decide +kernel) (by decide +kernel))
theorem lk_X5_51 : tLK RX5 51 mX5_outOf := Or.inl (tWD_i 584 (by decide +kernel) (by decide +kernel))
theorem lk_X5_54 : tLK RX5 54 mX5_isStayAt := Or.inl (tWD_i 796 (by decide +kernel) (by decide +kernel))
theorem lk_X5_58 : tLK RX5 58 mX5_addStay := Or.inl (tWD_i 580 (by decide +kernel) (by decide +kernel))
theorem lk_X5_62 : tLK RX5 62 mX5_endLastStay := Or.inl (tWD_i 733 (by decide +kernel) (by decide +kernel))
theorem lk_L_13 : tLK RL 13 mX6_status := Or.inl (tWD_i 358 (by decide +kernel) (by decide +kernel))
theorem lk_L_17 : tLK RL 17 mX7_status := Or.inl (tWD_i 918 (by decide +kernel) (by decide +kernel))
theorem lk_L_18 : tLK RL 18 mX6_reason := Or.inl (tWD_i 362 (by decide +kernel) (by decide +kernel))
theorem lk_L_22 : tLK RL 22 mX7_reason := Or.inl (tWD_i 922 (by decide +kernel) (by decide +kernel))
theorem lk_L_23 : tLK RL 23 mX6_stand := Or.inl (tWD_i 366 (by decide +kernel) (by decide +kernel))
theorem lk_L_27 : tLK RL 27 mX7_stand := Or.inl (tWD_i 926 (by decide +kernel) (by decide +kernel))
theorem lk_L_28 : tLK RL 28 mX6_ground := Or.inl (tWD_i 385 (by decide +kernel) (by decide +kernel))
theorem lk_L_31 : tLK RL 31 mX7_ground := Or.inl (tWD_i 938 (by decide +kernel) (by decide +kernel))
theorem lk_L_32 : tLK RL 32 mX6_near := Or.inl (tWD_i 393 (by decide +kernel) (by decide +kernel))
theorem lk_L_36 : tLK RL 36 mX7_near := Or.inl (tWD_i 946 (by decide +kernel) (by decide +kernel))
theorem lk_L_37 : tLK RL 37 mX6_cone := Or.inl (tWD_i 401 (by decide +kernel) (by decide +kernel))
theorem lk_L_41 : tLK RL 41 mX7_cone := Or.inl (tWD_i 950 (by decide +kernel) (by decide +kernel))
theorem lk_L_42 : tLK RL 42 mX6_towtime := Or.inl (tWD_i 412 (by decide +kernel) (by decide +kernel))
theorem lk_L_46 : tLK RL 46 mX7_towtime := Or.inl (tWD_i 957 (by decide +kernel) (by decide +kernel))
theorem lk_L_47 : tLK RL 47 mX6_visit := Or.inl (tWD_i 424 (by decide +kernel) (by decide +kernel))
theorem lk_L_51 : tLK RL 51 mX7_visit := Or.inl (tWD_i 961 (by decide +kernel) (by decide +kernel))
theorem lk_L_52 : tLK RL 52 mX6_tear := Or.inl (tWD_i 432 (by decide +kernel) (by decide +kernel))
theorem lk_L_56 : tLK RL 56 mX7_tear := Or.inl (tWD_i 965 (by decide +kernel) (by decide +kernel))
theorem lk_L_57 : tLK RL 57 mX6_told := Or.inl (tWD_i 444 (by decide +kernel) (by decide +kernel))
theorem lk_L_60 : tLK RL 60 mX7_told := Or.inl (tWD_i 977 (by decide +kernel) (by decide +kernel))
theorem lk_L_61 : tLK RL 61 mX6_put := Or.inl (tWD_i 448 (by decide +kernel) (by decide +kernel))
theorem lk_L_64 : tLK RL 64 mX7_put := Or.inl (tWD_i 981 (by decide +kernel) (by decide +kernel))
theorem lk_L_65 : tLK RL 65 mX6_why := Or.inl (tWD_i 585 (by decide +kernel) (by decide +kernel))
theorem lk_L_68 : tLK RL 68 mX7_why := Or.inl (tWD_i 1046 (by decide +kernel) (by decide +kernel))
theorem lk_L_69 : tLK RL 69 mX6_off := Or.inl (tWD_i 589 (by decide +kernel) (by decide +kernel))
theorem lk_L_72 : tLK RL 72 mX7_off := Or.inl (tWD_i 1050 (by decide +kernel) (by decide +kernel))
theorem lk_L_73 : tLK RL 73 mX6_tow := Or.inl (tWD_i 597 (by decide +kernel) (by decide +kernel))
theorem lk_L_77 : tLK RL 77 mX7_tow := Or.inl (tWD_i 1054 (by decide +kernel) (by decide +kernel))
theorem lk_L_78 : tLK RL 78 mX6_plan := Or.inl (tWD_i 612 (by decide +kernel) (by decide +kernel))
theorem lk_L_81 : tLK RL 81 mX7_plan := Or.inl (tWD_i 1062 (by decide +kernel) (by decide +kernel))
theorem lk_L_82 : tLK RL 82 mX6_search := Or.inl (tWD_i 647 (by decide +kernel) (by decide +kernel))
theorem lk_L_85 : tLK RL 85 mX7_search_ := Or.inl (tWD_i 1082 (by decide +kernel) (by decide +kernel))
theorem lk_L_86 : tLK RL 86 mX6_most := Or.inl (tWD_i 679 (by decide +kernel) (by decide +kernel))
theorem lk_L_89 : tLK RL 89 mX7_most := Or.inl (tWD_i 1098 (by decide +kernel) (by decide +kernel))
theorem lk_L_90 : tLK RL 90 mX6_late := Or.inl (tWD_i 699 (by decide +kernel) (by decide +kernel))
theorem lk_L_93 : tLK RL 93 mX7_late := Or.inl (tWD_i 1102 (by decide +kernel) (by decide +kernel))
theorem lk_L_94 : tLK RL 94 mX6_changed := Or.inl (tWD_i 745 (by decide +kernel) (by decide +kernel))
theorem lk_L_97 : tLK RL 97 mX7_changed := Or.inl (tWD_i 1106 (by decide +kernel) (by decide +kernel))
theorem lk_L_98 : tLK RL 98 mX6_now := Or.inl (tWD_i 753 (by decide +kernel) (by decide +kernel))
theorem lk_L_101 : tLK RL 101 mX7_now := Or.inl (tWD_i 1110 (by decide +kernel) (by decide +kernel))
theorem lk_L_102 : tLK RL 102 mX6_waiting := Or.inl (tWD_i 761 (by decide +kernel) (by decide +kernel))
theorem lk_L_105 : tLK RL 105 mX7_waiting := Or.inl (tWD_i 1118 (by decide +kernel) (by decide +kernel))
theorem lk_L_106 : tLK RL 106 mX6_swap := Or.inl (tWD_i 765 (by decide +kernel) (by decide +kernel))
theorem lk_L_109 : tLK RL 109 mX7_swap := Or.inl (tWD_i 1058 (by decide +kernel) (by decide +kernel))
theorem lk_L_110 : tLK RL 110 mX6_stays := Or.inl (tWD_i 780 (by decide +kernel) (by decide +kernel))
theorem lk_L_113 : tLK RL 113 mX7_stays := Or.inl (tWD_i 1122 (by decide +kernel) (by decide +kernel))
theorem lk_L_114 : tLK RL 114 mX6_stay := Or.inl (tWD_i 784 (by decide +kernel) (by decide +kernel))
theorem lk_L_117 : tLK RL 117 mX7_stay := Or.inl (tWD_i 1126 (by decide +kernel) (by decide +kernel))
theorem lk_L_118 : tLK RL 118 mX6_at := Or.inl (tWD_i 788 (by decide +kernel) (by decide +kernel))
theorem lk_L_121 : tLK RL 121 mX7_at := Or.inl (tWD_i 1130 (by decide +kernel) (by decide +kernel))
theorem lk_L_122 : tLK RL 122 mX6_crowd := Or.inl (tWD_i 798 (by decide +kernel) (by decide +kernel))
theorem lk_L_125 : tLK RL 125 mX7_crowd := Or.inl (tWD_i 1134 (by decide +kernel) (by decide +kernel))
theorem lk_X7_92 : tLK RX7 92 mX7_refuse := Or.inl (tWD_i 930 (by decide +kernel) (by decide +kernel))
theorem lk_X7_96 : tLK RX7 96 mX7_gives := Or.inl (tWD_i 934 (by decide +kernel) (by decide +kernel))
theorem lk_X7_99 : tLK RX7 99 mX7_isStand := Or.inl (tWD_i 942 (by decide +kernel) (by decide +kernel))
theorem lk_X7_106 : tLK RX7 106 mX7_isSpan := Or.inl (tWD_i 954 (by decide +kernel) (by decide +kernel))
theorem lk_X7_113 : tLK RX7 113 mX7_isVisit := Or.inl (tWD_i 969 (by decide +kernel) (by decide +kernel))
theorem lk_X7_116 : tLK RX7 116 mX7_isPut := Or.inl (tWD_i 973 (by decide +kernel) (by decide +kernel))
theorem lk_X7_119 : tLK RX7 119 mX7_inOf := Or.inl (tWD_i 993 (by decide +kernel) (by decide +kernel))
theorem lk_X7_137 : tLK RX7 137 mX7_haveCommon := Or.inl (tWD_i 1021 (by decide +kernel) (by decide +kernel))
theorem lk_X7_141 : tLK RX7 141 mX7_isNeighbour := Or.inl (tWD_i 1026 (by decide +kernel) (by decide +kernel))
theorem lk_X7_145 : tLK RX7 145 mX7_takes := Or.inl (tWD_i 1030 (by decide +kernel) (by decide +kernel))
theorem lk_X7_149 : tLK RX7 149 mX7_wingOf := Or.inl (tWD_i 1009 (by decide +kernel) (by decide +kernel))
theorem lk_X7_152 : tLK RX7 152 mX7_isThird := Or.inl (tWD_i 1034 (by decide +kernel) (by decide +kernel))
theorem lk_X7_155 : tLK RX7 155 mX7_kindOf := Or.inl (tWD_i 1005 (by decide +kernel) (by decide +kernel))
theorem lk_X7_158 : tLK RX7 158 mX7_needOf := Or.inl (tWD_i 1013 (by decide +kernel) (by decide +kernel))
theorem lk_X7_161 : tLK RX7 161 mX7_against := Or.inl (tWD_i 1017 (by decide +kernel) (by decide +kernel))
theorem lk_X7_165 : tLK RX7 165 mX7_againstOf := Or.inl (tWD_i 1001 (by decide +kernel) (by decide +kernel))
theorem lk_X7_169 : tLK RX7 169 mX7_rank := Or.inl (tWD_i 1078 (by decide +kernel) (by decide +kernel))
theorem lk_X7_172 : tLK RX7 172 mX7_isUnknown := Or.inl (tWD_i 985 (by decide +kernel) (by decide +kernel))
theorem lk_X7_175 : tLK RX7 175 mX7_hasBegun := Or.inl (tWD_i 989 (by decide +kernel) (by decide +kernel))
theorem lk_X7_178 : tLK RX7 178 mX7_outOf := Or.inl (tWD_i 997 (by decide +kernel) (by decide +kernel))
theorem lk_X7_181 : tLK RX7 181 mX7_isAgainst := Or.inl (tWD_i 1038 (by decide +kernel) (by decide +kernel))
theorem lk_X7_184 : tLK RX7 184 mX7_sets := Or.inl (tWD_i 1042 (by decide +kernel) (by decide +kernel))
theorem lk_X7_191 : tLK RX7 191 mX7_isPlanned := Or.inl (tWD_i 1066 (by decide +kernel) (by decide +kernel))
theorem lk_X7_194 : tLK RX7 194 mX7_lines := Or.inl (tWD_i 1070 (by decide +kernel) (by decide +kernel))
theorem lk_X7_198 : tLK RX7 198 mX7_bestOf := Or.inl (tWD_i 1074 (by decide +kernel) (by decide +kernel))
theorem lk_X7_208 : tLK RX7 208 mX7_whole := Or.inl (tWD_i 1094 (by decide +kernel) (by decide +kernel))
theorem lk_X7_211 : tLK RX7 211 mX7_search := Or.inl (tWD_i 1090 (by decide +kernel) (by decide +kernel))
theorem lk_X7_215 : tLK RX7 215 mX7_found := Or.inl (tWD_i 1086 (by decide +kernel) (by decide +kernel))
theorem lk_X7_222 : tLK RX7 222 mX7_isWaiting := Or.inl (tWD_i 1114 (by decide +kernel) (by decide +kernel))
theorem wm_max_c : tWD (.code Lib.Math.max.name Lib.Math.max.code 2 (some .int)) := tWD_i 568 (by decide +kernel) (by decide +kernel)
theorem wm_max_s : tWD (.static Lib.Math.max.name) := tWD_i 567 (by decide +kernel) (by decide +kernel)
theorem wm_min_c : tWD (.code Lib.Math.min.name Lib.Math.min.code 2 (some .int)) := tWD_i 571 (by decide +kernel) (by decide +kernel)
theorem wm_min_s : tWD (.static Lib.Math.min.name) := tWD_i 570 (by decide +kernel) (by decide +kernel)
theorem wm_i : tWD (.initialized "java/lang/Math") := tWD_i 106 (by decide +kernel) (by decide +kernel)
theorem lm_X6_272 : tWD (.methodLink RX6 272 Lib.Math.max.name) := tWD_i 635 (by decide +kernel) (by decide +kernel)
theorem lm_X2_143 : tWD (.methodLink RX2 143 Lib.Math.max.name) := tWD_i 566 (by decide +kernel) (by decide +kernel)
theorem lm_X2_148 : tWD (.methodLink RX2 148 Lib.Math.min.name) := tWD_i 569 (by decide +kernel) (by decide +kernel)
theorem la_X4_116 : tWD (.methodLink RX4 116 arraycopyName) := tWD_i 692 (by decide +kernel) (by decide +kernel)
theorem lm_X7_125 : tWD (.methodLink RX7 125 Lib.Math.max.name) := tWD_i 1024 (by decide +kernel) (by decide +kernel)
theorem lm_X7_131 : tWD (.methodLink RX7 131 Lib.Math.min.name) := tWD_i 1025 (by decide +kernel) (by decide +kernel)
theorem wa_n : tWD (.native arraycopyName) := tWD_i 694 (by decide +kernel) (by decide +kernel)
theorem wa_s : tWD (.static arraycopyName) := tWD_i 693 (by decide +kernel) (by decide +kernel)
theorem wa_i : tWD (.initialized "java/lang/System") := tWD_i 107 (by decide +kernel) (by decide +kernel)
end
section
theorem eX0_makeRoom_0 : DC mX0_makeRoom 0 (.aload_n 0) 1 1 := ⟨by decide +kernel, rfl⟩
theorem eX0_makeRoom_1 : DC mX0_makeRoom 1 (.getfield 25) 3 4 := ⟨by decide +kernel, rfl⟩
theorem eX0_makeRoom_4 : DC mX0_makeRoom 4 (.getfield 33) 3 7 := ⟨by decide +kernel, rfl⟩
theorem eX0_makeRoom_7 : DC mX0_makeRoom 7 (.iload_n 1) 1 8 := ⟨by decide +kernel, rfl⟩
theorem eX0_makeRoom_8 : DC mX0_makeRoom 8 .iaload 1 9 := ⟨by decide +kernel, rfl⟩
theorem eX0_makeRoom_9 : DC mX0_makeRoom 9 (.iconst 1) 1 10 := ⟨by decide +kernel, rfl⟩
theorem eX0_makeRoom_10 : DC mX0_makeRoom 10 .isub 1 11 := ⟨by decide +kernel, rfl⟩
theorem eX0_makeRoom_11 : DC mX0_makeRoom 11 (.istore_n 3) 1 12 := ⟨by decide +kernel, rfl⟩
theorem eX0_makeRoom_12 : DC mX0_makeRoom 12 (.aload_n 0) 1 13 := ⟨by decide +kernel, rfl⟩
theorem eX0_makeRoom_13 : DC mX0_makeRoom 13 (.getfield 25) 3 16 := ⟨by decide +kernel, rfl⟩
theorem eX0_makeRoom_16 : DC mX0_makeRoom 16 (.iload_n 1) 1 17 := ⟨by decide +kernel, rfl⟩
theorem eX0_makeRoom_17 : DC mX0_makeRoom 17 (.iload_n 3) 1 18 := ⟨by decide +kernel, rfl⟩
theorem eX0_makeRoom_18 : DC mX0_makeRoom 18 (.invokevirtual 38) 3 21 := ⟨by decide +kernel, rfl⟩
theorem eX0_makeRoom_21 : DC mX0_makeRoom 21 (.istore 4) 2 23 := ⟨by decide +kernel, rfl⟩
theorem eX0_makeRoom_23 : DC mX0_makeRoom 23 (.aload_n 0) 1 24 := ⟨by decide +kernel, rfl⟩
theorem eX0_makeRoom_24 : DC mX0_makeRoom 24 (.getfield 25) 3 27 := ⟨by decide +kernel, rfl⟩
theorem eX0_makeRoom_27 : DC mX0_makeRoom 27 (.iload_n 1) 1 28 := ⟨by decide +kernel, rfl⟩
theorem eX0_makeRoom_28 : DC mX0_makeRoom 28 (.iload_n 3) 1 29 := ⟨by decide +kernel, rfl⟩
theorem eX0_makeRoom_29 : DC mX0_makeRoom 29 (.invokevirtual 42) 3 32 := ⟨by decide +kernel, rfl⟩
theorem eX0_makeRoom_32 : DC mX0_makeRoom 32 (.istore 5) 2 34 := ⟨by decide +kernel, rfl⟩
theorem eX0_makeRoom_34 : DC mX0_makeRoom 34 (.aload_n 0) 1 35 := ⟨by decide +kernel, rfl⟩
theorem eX0_makeRoom_35 : DC mX0_makeRoom 35 (.getfield 29) 3 38 := ⟨by decide +kernel, rfl⟩
theorem eX0_makeRoom_38 : DC mX0_makeRoom 38 (.iload_n 1) 1 39 := ⟨by decide +kernel, rfl⟩
theorem eX0_makeRoom_39 : DC mX0_makeRoom 39 (.invokevirtual 45) 3 42 := ⟨by decide +kernel, rfl⟩
theorem eX0_makeRoom_42 : DC mX0_makeRoom 42 (.aload_n 0) 1 43 := ⟨by decide +kernel, rfl⟩
theorem eX0_makeRoom_43 : DC mX0_makeRoom 43 (.getfield 29) 3 46 := ⟨by decide +kernel, rfl⟩
theorem eX0_makeRoom_46 : DC mX0_makeRoom 46 (.iload 4) 2 48 := ⟨by decide +kernel, rfl⟩
theorem eX0_makeRoom_48 : DC mX0_makeRoom 48 (.iload 5) 2 50 := ⟨by decide +kernel, rfl⟩
theorem eX0_makeRoom_50 : DC mX0_makeRoom 50 (.iload_n 2) 1 51 := ⟨by decide +kernel, rfl⟩
theorem eX0_makeRoom_51 : DC mX0_makeRoom 51 (.invokevirtual 51) 3 54 := ⟨by decide +kernel, rfl⟩
theorem eX0_makeRoom_54 : DC mX0_makeRoom 54 (.istore 6) 2 56 := ⟨by decide +kernel, rfl⟩
theorem eX0_makeRoom_56 : DC mX0_makeRoom 56 (.iconst 0) 1 57 := ⟨by decide +kernel, rfl⟩
theorem eX0_makeRoom_57 : DC mX0_makeRoom 57 (.istore 7) 2 59 := ⟨by decide +kernel, rfl⟩
theorem eX0_makeRoom_59 : DC mX0_makeRoom 59 (.iload 7) 2 61 := ⟨by decide +kernel, rfl⟩
theorem eX0_makeRoom_61 : DC mX0_makeRoom 61 (.bipush 40) 2 63 := ⟨by decide +kernel, rfl⟩
theorem eX0_makeRoom_63 : DJ mX0_makeRoom 63 (.if_icmp .ge) 114 66 := ⟨51, by decide +kernel, by decide, rfl⟩
theorem eX0_makeRoom_66 : DC mX0_makeRoom 66 (.iload 6) 2 68 := ⟨by decide +kernel, rfl⟩
theorem eX0_makeRoom_68 : DJ mX0_makeRoom 68 (.ifCond .eq) 114 71 := ⟨46, by decide +kernel, by decide, rfl⟩
theorem eX0_makeRoom_71 : DC mX0_makeRoom 71 (.aload_n 0) 1 72 := ⟨by decide +kernel, rfl⟩
theorem eX0_makeRoom_72 : DC mX0_makeRoom 72 (.iload 6) 2 74 := ⟨by decide +kernel, rfl⟩
theorem eX0_makeRoom_74 : DC mX0_makeRoom 74 (.invokevirtual 55) 3 77 := ⟨by decide +kernel, rfl⟩
theorem eX0_makeRoom_77 : DJ mX0_makeRoom 77 (.ifCond .eq) 114 80 := ⟨37, by decide +kernel, by decide, rfl⟩
theorem eX0_makeRoom_80 : DC mX0_makeRoom 80 (.aload_n 0) 1 81 := ⟨by decide +kernel, rfl⟩
theorem eX0_makeRoom_81 : DC mX0_makeRoom 81 (.getfield 29) 3 84 := ⟨by decide +kernel, rfl⟩
theorem eX0_makeRoom_84 : DC mX0_makeRoom 84 (.aload_n 0) 1 85 := ⟨by decide +kernel, rfl⟩
theorem eX0_makeRoom_85 : DC mX0_makeRoom 85 (.getfield 29) 3 88 := ⟨by decide +kernel, rfl⟩
theorem eX0_makeRoom_88 : DC mX0_makeRoom 88 (.getfield 59) 3 91 := ⟨by decide +kernel, rfl⟩
theorem eX0_makeRoom_91 : DC mX0_makeRoom 91 (.invokevirtual 63) 3 94 := ⟨by decide +kernel, rfl⟩
theorem eX0_makeRoom_94 : DC mX0_makeRoom 94 (.aload_n 0) 1 95 := ⟨by decide +kernel, rfl⟩
theorem eX0_makeRoom_95 : DC mX0_makeRoom 95 (.getfield 29) 3 98 := ⟨by decide +kernel, rfl⟩
theorem eX0_makeRoom_98 : DC mX0_makeRoom 98 (.iload 4) 2 100 := ⟨by decide +kernel, rfl⟩
theorem eX0_makeRoom_100 : DC mX0_makeRoom 100 (.iload 5) 2 102 := ⟨by decide +kernel, rfl⟩
theorem eX0_makeRoom_102 : DC mX0_makeRoom 102 (.iload_n 2) 1 103 := ⟨by decide +kernel, rfl⟩
theorem eX0_makeRoom_103 : DC mX0_makeRoom 103 (.invokevirtual 51) 3 106 := ⟨by decide +kernel, rfl⟩
theorem eX0_makeRoom_106 : DC mX0_makeRoom 106 (.istore 6) 2 108 := ⟨by decide +kernel, rfl⟩
theorem eX0_makeRoom_108 : DC mX0_makeRoom 108 (.iinc 7 1) 3 111 := ⟨by decide +kernel, rfl⟩
theorem eX0_makeRoom_111 : DJ mX0_makeRoom 111 .goto 59 114 := ⟨(-52), by decide +kernel, by decide, rfl⟩
theorem eX0_makeRoom_114 : DC mX0_makeRoom 114 (.iload 6) 2 116 := ⟨by decide +kernel, rfl⟩
theorem eX0_makeRoom_116 : DJ mX0_makeRoom 116 (.ifCond .eq) 126 119 := ⟨10, by decide +kernel, by decide, rfl⟩
theorem eX0_makeRoom_119 : DC mX0_makeRoom 119 (.aload_n 0) 1 120 := ⟨by decide +kernel, rfl⟩
theorem eX0_makeRoom_120 : DC mX0_makeRoom 120 (.getfield 29) 3 123 := ⟨by decide +kernel, rfl⟩
theorem eX0_makeRoom_123 : DC mX0_makeRoom 123 (.invokevirtual 66) 3 126 := ⟨by decide +kernel, rfl⟩
theorem eX0_makeRoom_126 : DC mX0_makeRoom 126 (.iload 6) 2 128 := ⟨by decide +kernel, rfl⟩
theorem eX0_makeRoom_128 : DC mX0_makeRoom 128 .ireturn 1 129 := ⟨by decide +kernel, rfl⟩
theorem eX0_canGo_0 : DC mX0_canGo 0 (.iload_n 1) 1 1 := ⟨by decide +kernel, rfl⟩
theorem eX0_canGo_1 : DC mX0_canGo 1 (.iconst 3) 1 2 := ⟨by decide +kernel, rfl⟩
theorem eX0_canGo_2 : DJ mX0_canGo 2 (.if_icmp .eq) 10 5 := ⟨8, by decide +kernel, by decide, rfl⟩
theorem eX0_canGo_5 : DC mX0_canGo 5 (.iload_n 1) 1 6 := ⟨by decide +kernel, rfl⟩
theorem eX0_canGo_6 : DC mX0_canGo 6 (.iconst 5) 1 7 := ⟨by decide +kernel, rfl⟩
theorem eX0_canGo_7 : DJ mX0_canGo 7 (.if_icmp .ne) 14 10 := ⟨7, by decide +kernel, by decide, rfl⟩
theorem eX0_canGo_10 : DC mX0_canGo 10 (.iconst 1) 1 11 := ⟨by decide +kernel, rfl⟩
theorem eX0_canGo_11 : DJ mX0_canGo 11 .goto 15 14 := ⟨4, by decide +kernel, by decide, rfl⟩
theorem eX0_canGo_14 : DC mX0_canGo 14 (.iconst 0) 1 15 := ⟨by decide +kernel, rfl⟩
theorem eX0_canGo_15 : DC mX0_canGo 15 (.istore_n 2) 1 16 := ⟨by decide +kernel, rfl⟩
theorem eX0_canGo_16 : DC mX0_canGo 16 (.iload_n 2) 1 17 := ⟨by decide +kernel, rfl⟩
theorem eX0_canGo_17 : DJ mX0_canGo 17 (.ifCond .eq) 41 20 := ⟨24, by decide +kernel, by decide, rfl⟩
theorem eX0_canGo_20 : DC mX0_canGo 20 (.aload_n 0) 1 21 := ⟨by decide +kernel, rfl⟩
theorem eX0_canGo_21 : DC mX0_canGo 21 (.getfield 25) 3 24 := ⟨by decide +kernel, rfl⟩
theorem eX0_canGo_24 : DC mX0_canGo 24 (.aload_n 0) 1 25 := ⟨by decide +kernel, rfl⟩
theorem eX0_canGo_25 : DC mX0_canGo 25 (.getfield 29) 3 28 := ⟨by decide +kernel, rfl⟩
theorem eX0_canGo_28 : DC mX0_canGo 28 (.getfield 59) 3 31 := ⟨by decide +kernel, rfl⟩
theorem eX0_canGo_31 : DC mX0_canGo 31 (.invokevirtual 69) 3 34 := ⟨by decide +kernel, rfl⟩
theorem eX0_canGo_34 : DJ mX0_canGo 34 (.ifCond .ne) 41 37 := ⟨7, by decide +kernel, by decide, rfl⟩
theorem eX0_canGo_37 : DC mX0_canGo 37 (.iconst 1) 1 38 := ⟨by decide +kernel, rfl⟩
theorem eX0_canGo_38 : DJ mX0_canGo 38 .goto 42 41 := ⟨4, by decide +kernel, by decide, rfl⟩
theorem eX0_canGo_41 : DC mX0_canGo 41 (.iconst 0) 1 42 := ⟨by decide +kernel, rfl⟩
theorem eX0_canGo_42 : DC mX0_canGo 42 .ireturn 1 43 := ⟨by decide +kernel, rfl⟩
theorem eX0_bend_0 : DC mX0_bend 0 (.aload_n 0) 1 1 := ⟨by decide +kernel, rfl⟩
theorem eX0_bend_1 : DC mX0_bend 1 (.getfield 25) 3 4 := ⟨by decide +kernel, rfl⟩
theorem eX0_bend_4 : DC mX0_bend 4 (.iload_n 1) 1 5 := ⟨by decide +kernel, rfl⟩
theorem eX0_bend_5 : DC mX0_bend 5 (.iload_n 2) 1 6 := ⟨by decide +kernel, rfl⟩
theorem eX0_bend_6 : DC mX0_bend 6 (.invokevirtual 72) 3 9 := ⟨by decide +kernel, rfl⟩
theorem eX0_bend_9 : DC mX0_bend 9 (.aload_n 0) 1 10 := ⟨by decide +kernel, rfl⟩
theorem eX0_bend_10 : DC mX0_bend 10 (.invokevirtual 76) 3 13 := ⟨by decide +kernel, rfl⟩
theorem eX0_bend_13 : DC mX0_bend 13 (.aload_n 0) 1 14 := ⟨by decide +kernel, rfl⟩
theorem eX0_bend_14 : DC mX0_bend 14 (.getfield 18) 3 17 := ⟨by decide +kernel, rfl⟩
theorem eX0_bend_17 : DC mX0_bend 17 (.invokevirtual 79) 3 20 := ⟨by decide +kernel, rfl⟩
theorem eX0_bend_20 : DC mX0_bend 20 (.iconst 0) 1 21 := ⟨by decide +kernel, rfl⟩
theorem eX0_bend_21 : DC mX0_bend 21 (.istore_n 3) 1 22 := ⟨by decide +kernel, rfl⟩
theorem eX0_bend_22 : DC mX0_bend 22 (.iload_n 3) 1 23 := ⟨by decide +kernel, rfl⟩
theorem eX0_bend_23 : DC mX0_bend 23 (.aload_n 0) 1 24 := ⟨by decide +kernel, rfl⟩
theorem eX0_bend_24 : DC mX0_bend 24 (.getfield 12) 3 27 := ⟨by decide +kernel, rfl⟩
theorem eX0_bend_27 : DC mX0_bend 27 (.getfield 82) 3 30 := ⟨by decide +kernel, rfl⟩
theorem eX0_bend_30 : DJ mX0_bend 30 (.if_icmp .ge) 109 33 := ⟨79, by decide +kernel, by decide, rfl⟩
theorem eX0_bend_33 : DC mX0_bend 33 (.aload_n 0) 1 34 := ⟨by decide +kernel, rfl⟩
theorem eX0_bend_34 : DC mX0_bend 34 (.getfield 12) 3 37 := ⟨by decide +kernel, rfl⟩
theorem eX0_bend_37 : DC mX0_bend 37 (.getfield 85) 3 40 := ⟨by decide +kernel, rfl⟩
theorem eX0_bend_40 : DC mX0_bend 40 (.iload_n 3) 1 41 := ⟨by decide +kernel, rfl⟩
theorem eX0_bend_41 : DC mX0_bend 41 .iaload 1 42 := ⟨by decide +kernel, rfl⟩
theorem eX0_bend_42 : DC mX0_bend 42 (.istore 4) 2 44 := ⟨by decide +kernel, rfl⟩
theorem eX0_bend_44 : DC mX0_bend 44 (.aload_n 0) 1 45 := ⟨by decide +kernel, rfl⟩
theorem eX0_bend_45 : DC mX0_bend 45 (.getfield 25) 3 48 := ⟨by decide +kernel, rfl⟩
theorem eX0_bend_48 : DC mX0_bend 48 (.iload 4) 2 50 := ⟨by decide +kernel, rfl⟩
theorem eX0_bend_50 : DC mX0_bend 50 (.invokevirtual 88) 3 53 := ⟨by decide +kernel, rfl⟩
theorem eX0_bend_53 : DC mX0_bend 53 (.istore 5) 2 55 := ⟨by decide +kernel, rfl⟩
theorem eX0_bend_55 : DC mX0_bend 55 (.aload_n 0) 1 56 := ⟨by decide +kernel, rfl⟩
theorem eX0_bend_56 : DC mX0_bend 56 (.getfield 29) 3 59 := ⟨by decide +kernel, rfl⟩
theorem eX0_bend_59 : DC mX0_bend 59 (.iload 4) 2 61 := ⟨by decide +kernel, rfl⟩
theorem eX0_bend_61 : DC mX0_bend 61 (.iload 5) 2 63 := ⟨by decide +kernel, rfl⟩
theorem eX0_bend_63 : DC mX0_bend 63 (.invokevirtual 92) 3 66 := ⟨by decide +kernel, rfl⟩
theorem eX0_bend_66 : DC mX0_bend 66 (.istore 6) 2 68 := ⟨by decide +kernel, rfl⟩
theorem eX0_bend_68 : DC mX0_bend 68 (.aload_n 0) 1 69 := ⟨by decide +kernel, rfl⟩
theorem eX0_bend_69 : DC mX0_bend 69 (.getfield 25) 3 72 := ⟨by decide +kernel, rfl⟩
theorem eX0_bend_72 : DC mX0_bend 72 (.iload 4) 2 74 := ⟨by decide +kernel, rfl⟩
theorem eX0_bend_74 : DC mX0_bend 74 (.iload 6) 2 76 := ⟨by decide +kernel, rfl⟩
theorem eX0_bend_76 : DC mX0_bend 76 (.iload 5) 2 78 := ⟨by decide +kernel, rfl⟩
theorem eX0_bend_78 : DC mX0_bend 78 (.invokevirtual 95) 3 81 := ⟨by decide +kernel, rfl⟩
theorem eX0_bend_81 : DC mX0_bend 81 .pop 1 82 := ⟨by decide +kernel, rfl⟩
theorem eX0_bend_82 : DC mX0_bend 82 (.iload 6) 2 84 := ⟨by decide +kernel, rfl⟩
theorem eX0_bend_84 : DC mX0_bend 84 (.aload_n 0) 1 85 := ⟨by decide +kernel, rfl⟩
theorem eX0_bend_85 : DC mX0_bend 85 (.getfield 21) 3 88 := ⟨by decide +kernel, rfl⟩
theorem eX0_bend_88 : DC mX0_bend 88 (.iload 4) 2 90 := ⟨by decide +kernel, rfl⟩
theorem eX0_bend_90 : DC mX0_bend 90 .iaload 1 91 := ⟨by decide +kernel, rfl⟩
theorem eX0_bend_91 : DJ mX0_bend 91 (.if_icmp .eq) 103 94 := ⟨12, by decide +kernel, by decide, rfl⟩
theorem eX0_bend_94 : DC mX0_bend 94 (.aload_n 0) 1 95 := ⟨by decide +kernel, rfl⟩
theorem eX0_bend_95 : DC mX0_bend 95 (.getfield 18) 3 98 := ⟨by decide +kernel, rfl⟩
theorem eX0_bend_98 : DC mX0_bend 98 (.iload 4) 2 100 := ⟨by decide +kernel, rfl⟩
theorem eX0_bend_100 : DC mX0_bend 100 (.invokevirtual 99) 3 103 := ⟨by decide +kernel, rfl⟩
theorem eX0_bend_103 : DC mX0_bend 103 (.iinc 3 1) 3 106 := ⟨by decide +kernel, rfl⟩
theorem eX0_bend_106 : DJ mX0_bend 106 .goto 22 109 := ⟨(-84), by decide +kernel, by decide, rfl⟩
theorem eX0_bend_109 : DC mX0_bend 109 (.aload_n 0) 1 110 := ⟨by decide +kernel, rfl⟩
theorem eX0_bend_110 : DC mX0_bend 110 (.getfield 18) 3 113 := ⟨by decide +kernel, rfl⟩
theorem eX0_bend_113 : DC mX0_bend 113 (.getfield 82) 3 116 := ⟨by decide +kernel, rfl⟩
theorem eX0_bend_116 : DC mX0_bend 116 .ireturn 1 117 := ⟨by decide +kernel, rfl⟩
theorem eX0_takeMoversOff_0 : DC mX0_takeMoversOff 0 (.aload_n 0) 1 1 := ⟨by decide +kernel, rfl⟩
theorem eX0_takeMoversOff_1 : DC mX0_takeMoversOff 1 (.getfield 12) 3 4 := ⟨by decide +kernel, rfl⟩
theorem eX0_takeMoversOff_4 : DC mX0_takeMoversOff 4 (.invokevirtual 79) 3 7 := ⟨by decide +kernel, rfl⟩
theorem eX0_takeMoversOff_7 : DC mX0_takeMoversOff 7 (.iconst 0) 1 8 := ⟨by decide +kernel, rfl⟩
theorem eX0_takeMoversOff_8 : DC mX0_takeMoversOff 8 (.istore_n 1) 1 9 := ⟨by decide +kernel, rfl⟩
theorem eX0_takeMoversOff_9 : DC mX0_takeMoversOff 9 (.iload_n 1) 1 10 := ⟨by decide +kernel, rfl⟩
theorem eX0_takeMoversOff_10 : DC mX0_takeMoversOff 10 (.aload_n 0) 1 11 := ⟨by decide +kernel, rfl⟩
theorem eX0_takeMoversOff_11 : DC mX0_takeMoversOff 11 (.getfield 25) 3 14 := ⟨by decide +kernel, rfl⟩
theorem eX0_takeMoversOff_14 : DC mX0_takeMoversOff 14 (.getfield 102) 3 17 := ⟨by decide +kernel, rfl⟩
theorem eX0_takeMoversOff_17 : DJ mX0_takeMoversOff 17 (.if_icmp .ge) 73 20 := ⟨56, by decide +kernel, by decide, rfl⟩
theorem eX0_takeMoversOff_20 : DC mX0_takeMoversOff 20 (.aload_n 0) 1 21 := ⟨by decide +kernel, rfl⟩
theorem eX0_takeMoversOff_21 : DC mX0_takeMoversOff 21 (.getfield 29) 3 24 := ⟨by decide +kernel, rfl⟩
theorem eX0_takeMoversOff_24 : DC mX0_takeMoversOff 24 (.getfield 105) 3 27 := ⟨by decide +kernel, rfl⟩
theorem eX0_takeMoversOff_27 : DC mX0_takeMoversOff 27 (.iload_n 1) 1 28 := ⟨by decide +kernel, rfl⟩
theorem eX0_takeMoversOff_28 : DC mX0_takeMoversOff 28 .baload 1 29 := ⟨by decide +kernel, rfl⟩
theorem eX0_takeMoversOff_29 : DJ mX0_takeMoversOff 29 (.ifCond .eq) 67 32 := ⟨38, by decide +kernel, by decide, rfl⟩
theorem eX0_takeMoversOff_32 : DC mX0_takeMoversOff 32 (.aload_n 0) 1 33 := ⟨by decide +kernel, rfl⟩
theorem eX0_takeMoversOff_33 : DC mX0_takeMoversOff 33 (.getfield 12) 3 36 := ⟨by decide +kernel, rfl⟩
theorem eX0_takeMoversOff_36 : DC mX0_takeMoversOff 36 (.iload_n 1) 1 37 := ⟨by decide +kernel, rfl⟩
theorem eX0_takeMoversOff_37 : DC mX0_takeMoversOff 37 (.aload_n 0) 1 38 := ⟨by decide +kernel, rfl⟩
theorem eX0_takeMoversOff_38 : DC mX0_takeMoversOff 38 (.getfield 25) 3 41 := ⟨by decide +kernel, rfl⟩
theorem eX0_takeMoversOff_41 : DC mX0_takeMoversOff 41 (.invokevirtual 109) 3 44 := ⟨by decide +kernel, rfl⟩
theorem eX0_takeMoversOff_44 : DC mX0_takeMoversOff 44 (.aload_n 0) 1 45 := ⟨by decide +kernel, rfl⟩
theorem eX0_takeMoversOff_45 : DC mX0_takeMoversOff 45 (.getfield 21) 3 48 := ⟨by decide +kernel, rfl⟩
theorem eX0_takeMoversOff_48 : DC mX0_takeMoversOff 48 (.iload_n 1) 1 49 := ⟨by decide +kernel, rfl⟩
theorem eX0_takeMoversOff_49 : DC mX0_takeMoversOff 49 (.aload_n 0) 1 50 := ⟨by decide +kernel, rfl⟩
theorem eX0_takeMoversOff_50 : DC mX0_takeMoversOff 50 (.getfield 25) 3 53 := ⟨by decide +kernel, rfl⟩
theorem eX0_takeMoversOff_53 : DC mX0_takeMoversOff 53 (.iload_n 1) 1 54 := ⟨by decide +kernel, rfl⟩
theorem eX0_takeMoversOff_54 : DC mX0_takeMoversOff 54 (.iconst 0) 1 55 := ⟨by decide +kernel, rfl⟩
theorem eX0_takeMoversOff_55 : DC mX0_takeMoversOff 55 (.invokevirtual 38) 3 58 := ⟨by decide +kernel, rfl⟩
theorem eX0_takeMoversOff_58 : DC mX0_takeMoversOff 58 .iastore 1 59 := ⟨by decide +kernel, rfl⟩
theorem eX0_takeMoversOff_59 : DC mX0_takeMoversOff 59 (.aload_n 0) 1 60 := ⟨by decide +kernel, rfl⟩
theorem eX0_takeMoversOff_60 : DC mX0_takeMoversOff 60 (.getfield 25) 3 63 := ⟨by decide +kernel, rfl⟩
theorem eX0_takeMoversOff_63 : DC mX0_takeMoversOff 63 (.iload_n 1) 1 64 := ⟨by decide +kernel, rfl⟩
theorem eX0_takeMoversOff_64 : DC mX0_takeMoversOff 64 (.invokevirtual 113) 3 67 := ⟨by decide +kernel, rfl⟩
theorem eX0_takeMoversOff_67 : DC mX0_takeMoversOff 67 (.iinc 1 1) 3 70 := ⟨by decide +kernel, rfl⟩
theorem eX0_takeMoversOff_70 : DJ mX0_takeMoversOff 70 .goto 9 73 := ⟨(-61), by decide +kernel, by decide, rfl⟩
theorem eX0_takeMoversOff_73 : DC mX0_takeMoversOff 73 (.aload_n 0) 1 74 := ⟨by decide +kernel, rfl⟩
theorem eX0_takeMoversOff_74 : DC mX0_takeMoversOff 74 (.getfield 29) 3 77 := ⟨by decide +kernel, rfl⟩
theorem eX0_takeMoversOff_77 : DC mX0_takeMoversOff 77 (.invokevirtual 66) 3 80 := ⟨by decide +kernel, rfl⟩
theorem eX0_takeMoversOff_80 : DC mX0_takeMoversOff 80 .return_ 1 81 := ⟨by decide +kernel, rfl⟩
theorem eX1_hasStand_0 : DC mX1_hasStand 0 (.iload_n 1) 1 1 := ⟨by decide +kernel, rfl⟩
theorem eX1_hasStand_1 : DJ mX1_hasStand 1 (.ifCond .lt) 16 4 := ⟨15, by decide +kernel, by decide, rfl⟩
theorem eX1_hasStand_4 : DC mX1_hasStand 4 (.iload_n 1) 1 5 := ⟨by decide +kernel, rfl⟩
theorem eX1_hasStand_5 : DC mX1_hasStand 5 (.aload_n 0) 1 6 := ⟨by decide +kernel, rfl⟩
theorem eX1_hasStand_6 : DC mX1_hasStand 6 (.getfield 39) 3 9 := ⟨by decide +kernel, rfl⟩
theorem eX1_hasStand_9 : DJ mX1_hasStand 9 (.if_icmp .ge) 16 12 := ⟨7, by decide +kernel, by decide, rfl⟩
theorem eX1_hasStand_12 : DC mX1_hasStand 12 (.iconst 1) 1 13 := ⟨by decide +kernel, rfl⟩
theorem eX1_hasStand_13 : DJ mX1_hasStand 13 .goto 17 16 := ⟨4, by decide +kernel, by decide, rfl⟩
theorem eX1_hasStand_16 : DC mX1_hasStand 16 (.iconst 0) 1 17 := ⟨by decide +kernel, rfl⟩
theorem eX1_hasStand_17 : DC mX1_hasStand 17 .ireturn 1 18 := ⟨by decide +kernel, rfl⟩
theorem eX1_addStand_0 : DC mX1_addStand 0 (.aload_n 0) 1 1 := ⟨by decide +kernel, rfl⟩
theorem eX1_addStand_1 : DC mX1_addStand 1 (.getfield 9) 3 4 := ⟨by decide +kernel, rfl⟩
theorem eX1_addStand_4 : DC mX1_addStand 4 (.aload_n 0) 1 5 := ⟨by decide +kernel, rfl⟩
theorem eX1_addStand_5 : DC mX1_addStand 5 (.getfield 39) 3 8 := ⟨by decide +kernel, rfl⟩
theorem eX1_addStand_8 : DC mX1_addStand 8 (.iload_n 1) 1 9 := ⟨by decide +kernel, rfl⟩
theorem eX1_addStand_9 : DC mX1_addStand 9 .iastore 1 10 := ⟨by decide +kernel, rfl⟩
theorem eX1_addStand_10 : DC mX1_addStand 10 (.aload_n 0) 1 11 := ⟨by decide +kernel, rfl⟩
theorem eX1_addStand_11 : DC mX1_addStand 11 (.getfield 15) 3 14 := ⟨by decide +kernel, rfl⟩
theorem eX1_addStand_14 : DC mX1_addStand 14 (.aload_n 0) 1 15 := ⟨by decide +kernel, rfl⟩
theorem eX1_addStand_15 : DC mX1_addStand 15 (.getfield 39) 3 18 := ⟨by decide +kernel, rfl⟩
theorem eX1_addStand_18 : DC mX1_addStand 18 (.iload_n 2) 1 19 := ⟨by decide +kernel, rfl⟩
theorem eX1_addStand_19 : DC mX1_addStand 19 .iastore 1 20 := ⟨by decide +kernel, rfl⟩
theorem eX1_addStand_20 : DC mX1_addStand 20 (.aload_n 0) 1 21 := ⟨by decide +kernel, rfl⟩
theorem eX1_addStand_21 : DC mX1_addStand 21 .dup 1 22 := ⟨by decide +kernel, rfl⟩
theorem eX1_addStand_22 : DC mX1_addStand 22 (.getfield 39) 3 25 := ⟨by decide +kernel, rfl⟩
theorem eX1_addStand_25 : DC mX1_addStand 25 (.iconst 1) 1 26 := ⟨by decide +kernel, rfl⟩
theorem eX1_addStand_26 : DC mX1_addStand 26 .iadd 1 27 := ⟨by decide +kernel, rfl⟩
theorem eX1_addStand_27 : DC mX1_addStand 27 (.putfield 39) 3 30 := ⟨by decide +kernel, rfl⟩
theorem eX1_addStand_30 : DC mX1_addStand 30 (.aload_n 0) 1 31 := ⟨by decide +kernel, rfl⟩
theorem eX1_addStand_31 : DC mX1_addStand 31 (.getfield 39) 3 34 := ⟨by decide +kernel, rfl⟩
theorem eX1_addStand_34 : DC mX1_addStand 34 (.iconst 1) 1 35 := ⟨by decide +kernel, rfl⟩
theorem eX1_addStand_35 : DC mX1_addStand 35 .isub 1 36 := ⟨by decide +kernel, rfl⟩
theorem eX1_addStand_36 : DC mX1_addStand 36 .ireturn 1 37 := ⟨by decide +kernel, rfl⟩
theorem eX1_addPair_0 : DC mX1_addPair 0 (.aload_n 0) 1 1 := ⟨by decide +kernel, rfl⟩
theorem eX1_addPair_1 : DC mX1_addPair 1 (.getfield 18) 3 4 := ⟨by decide +kernel, rfl⟩
theorem eX1_addPair_4 : DC mX1_addPair 4 (.aload_n 0) 1 5 := ⟨by decide +kernel, rfl⟩
theorem eX1_addPair_5 : DC mX1_addPair 5 (.getfield 43) 3 8 := ⟨by decide +kernel, rfl⟩
theorem eX1_addPair_8 : DC mX1_addPair 8 (.iload_n 1) 1 9 := ⟨by decide +kernel, rfl⟩
theorem eX1_addPair_9 : DC mX1_addPair 9 .iastore 1 10 := ⟨by decide +kernel, rfl⟩
theorem eX1_addPair_10 : DC mX1_addPair 10 (.aload_n 0) 1 11 := ⟨by decide +kernel, rfl⟩
theorem eX1_addPair_11 : DC mX1_addPair 11 (.getfield 21) 3 14 := ⟨by decide +kernel, rfl⟩
theorem eX1_addPair_14 : DC mX1_addPair 14 (.aload_n 0) 1 15 := ⟨by decide +kernel, rfl⟩
theorem eX1_addPair_15 : DC mX1_addPair 15 (.getfield 43) 3 18 := ⟨by decide +kernel, rfl⟩
theorem eX1_addPair_18 : DC mX1_addPair 18 (.iload_n 2) 1 19 := ⟨by decide +kernel, rfl⟩
theorem eX1_addPair_19 : DC mX1_addPair 19 .iastore 1 20 := ⟨by decide +kernel, rfl⟩
theorem eX1_addPair_20 : DC mX1_addPair 20 (.aload_n 0) 1 21 := ⟨by decide +kernel, rfl⟩
theorem eX1_addPair_21 : DC mX1_addPair 21 (.getfield 24) 3 24 := ⟨by decide +kernel, rfl⟩
theorem eX1_addPair_24 : DC mX1_addPair 24 (.aload_n 0) 1 25 := ⟨by decide +kernel, rfl⟩
theorem eX1_addPair_25 : DC mX1_addPair 25 (.getfield 43) 3 28 := ⟨by decide +kernel, rfl⟩
theorem eX1_addPair_28 : DC mX1_addPair 28 (.iload_n 3) 1 29 := ⟨by decide +kernel, rfl⟩
theorem eX1_addPair_29 : DC mX1_addPair 29 .iastore 1 30 := ⟨by decide +kernel, rfl⟩
theorem eX1_addPair_30 : DC mX1_addPair 30 (.aload_n 0) 1 31 := ⟨by decide +kernel, rfl⟩
theorem eX1_addPair_31 : DC mX1_addPair 31 (.getfield 27) 3 34 := ⟨by decide +kernel, rfl⟩
theorem eX1_addPair_34 : DC mX1_addPair 34 (.aload_n 0) 1 35 := ⟨by decide +kernel, rfl⟩
theorem eX1_addPair_35 : DC mX1_addPair 35 (.getfield 43) 3 38 := ⟨by decide +kernel, rfl⟩
theorem eX1_addPair_38 : DC mX1_addPair 38 (.iload 4) 2 40 := ⟨by decide +kernel, rfl⟩
theorem eX1_addPair_40 : DC mX1_addPair 40 .iastore 1 41 := ⟨by decide +kernel, rfl⟩
theorem eX1_addPair_41 : DC mX1_addPair 41 (.aload_n 0) 1 42 := ⟨by decide +kernel, rfl⟩
theorem eX1_addPair_42 : DC mX1_addPair 42 .dup 1 43 := ⟨by decide +kernel, rfl⟩
theorem eX1_addPair_43 : DC mX1_addPair 43 (.getfield 43) 3 46 := ⟨by decide +kernel, rfl⟩
theorem eX1_addPair_46 : DC mX1_addPair 46 (.iconst 1) 1 47 := ⟨by decide +kernel, rfl⟩
theorem eX1_addPair_47 : DC mX1_addPair 47 .iadd 1 48 := ⟨by decide +kernel, rfl⟩
theorem eX1_addPair_48 : DC mX1_addPair 48 (.putfield 43) 3 51 := ⟨by decide +kernel, rfl⟩
theorem eX1_addPair_51 : DC mX1_addPair 51 (.aload_n 0) 1 52 := ⟨by decide +kernel, rfl⟩
theorem eX1_addPair_52 : DC mX1_addPair 52 (.getfield 43) 3 55 := ⟨by decide +kernel, rfl⟩
theorem eX1_addPair_55 : DC mX1_addPair 55 .ireturn 1 56 := ⟨by decide +kernel, rfl⟩
theorem eX1_addCone_0 : DC mX1_addCone 0 (.aload_n 0) 1 1 := ⟨by decide +kernel, rfl⟩
theorem eX1_addCone_1 : DC mX1_addCone 1 (.getfield 30) 3 4 := ⟨by decide +kernel, rfl⟩
theorem eX1_addCone_4 : DC mX1_addCone 4 (.aload_n 0) 1 5 := ⟨by decide +kernel, rfl⟩
theorem eX1_addCone_5 : DC mX1_addCone 5 (.getfield 46) 3 8 := ⟨by decide +kernel, rfl⟩
theorem eX1_addCone_8 : DC mX1_addCone 8 (.iload_n 1) 1 9 := ⟨by decide +kernel, rfl⟩
theorem eX1_addCone_9 : DC mX1_addCone 9 .iastore 1 10 := ⟨by decide +kernel, rfl⟩
theorem eX1_addCone_10 : DC mX1_addCone 10 (.aload_n 0) 1 11 := ⟨by decide +kernel, rfl⟩
theorem eX1_addCone_11 : DC mX1_addCone 11 (.getfield 33) 3 14 := ⟨by decide +kernel, rfl⟩
theorem eX1_addCone_14 : DC mX1_addCone 14 (.aload_n 0) 1 15 := ⟨by decide +kernel, rfl⟩
theorem eX1_addCone_15 : DC mX1_addCone 15 (.getfield 46) 3 18 := ⟨by decide +kernel, rfl⟩
theorem eX1_addCone_18 : DC mX1_addCone 18 (.iload_n 2) 1 19 := ⟨by decide +kernel, rfl⟩
theorem eX1_addCone_19 : DC mX1_addCone 19 .iastore 1 20 := ⟨by decide +kernel, rfl⟩
theorem eX1_addCone_20 : DC mX1_addCone 20 (.aload_n 0) 1 21 := ⟨by decide +kernel, rfl⟩
theorem eX1_addCone_21 : DC mX1_addCone 21 (.getfield 36) 3 24 := ⟨by decide +kernel, rfl⟩
theorem eX1_addCone_24 : DC mX1_addCone 24 (.aload_n 0) 1 25 := ⟨by decide +kernel, rfl⟩
theorem eX1_addCone_25 : DC mX1_addCone 25 (.getfield 46) 3 28 := ⟨by decide +kernel, rfl⟩
theorem eX1_addCone_28 : DC mX1_addCone 28 (.iload_n 3) 1 29 := ⟨by decide +kernel, rfl⟩
theorem eX1_addCone_29 : DC mX1_addCone 29 .iastore 1 30 := ⟨by decide +kernel, rfl⟩
theorem eX1_addCone_30 : DC mX1_addCone 30 (.aload_n 0) 1 31 := ⟨by decide +kernel, rfl⟩
theorem eX1_addCone_31 : DC mX1_addCone 31 .dup 1 32 := ⟨by decide +kernel, rfl⟩
theorem eX1_addCone_32 : DC mX1_addCone 32 (.getfield 46) 3 35 := ⟨by decide +kernel, rfl⟩
theorem eX1_addCone_35 : DC mX1_addCone 35 (.iconst 1) 1 36 := ⟨by decide +kernel, rfl⟩
theorem eX1_addCone_36 : DC mX1_addCone 36 .iadd 1 37 := ⟨by decide +kernel, rfl⟩
theorem eX1_addCone_37 : DC mX1_addCone 37 (.putfield 46) 3 40 := ⟨by decide +kernel, rfl⟩
theorem eX1_addCone_40 : DC mX1_addCone 40 (.aload_n 0) 1 41 := ⟨by decide +kernel, rfl⟩
theorem eX1_addCone_41 : DC mX1_addCone 41 (.getfield 46) 3 44 := ⟨by decide +kernel, rfl⟩
theorem eX1_addCone_44 : DC mX1_addCone 44 (.iconst 1) 1 45 := ⟨by decide +kernel, rfl⟩
theorem eX1_addCone_45 : DC mX1_addCone 45 .isub 1 46 := ⟨by decide +kernel, rfl⟩
theorem eX1_addCone_46 : DC mX1_addCone 46 .ireturn 1 47 := ⟨by decide +kernel, rfl⟩
theorem eX1_hasGate_0 : DC mX1_hasGate 0 (.aload_n 0) 1 1 := ⟨by decide +kernel, rfl⟩
theorem eX1_hasGate_1 : DC mX1_hasGate 1 (.getfield 9) 3 4 := ⟨by decide +kernel, rfl⟩
theorem eX1_hasGate_4 : DC mX1_hasGate 4 (.iload_n 1) 1 5 := ⟨by decide +kernel, rfl⟩
theorem eX1_hasGate_5 : DC mX1_hasGate 5 .iaload 1 6 := ⟨by decide +kernel, rfl⟩
theorem eX1_hasGate_6 : DC mX1_hasGate 6 (.iconst 2) 1 7 := ⟨by decide +kernel, rfl⟩
theorem eX1_hasGate_7 : DJ mX1_hasGate 7 (.if_icmp .eq) 20 10 := ⟨13, by decide +kernel, by decide, rfl⟩
theorem eX1_hasGate_10 : DC mX1_hasGate 10 (.aload_n 0) 1 11 := ⟨by decide +kernel, rfl⟩
theorem eX1_hasGate_11 : DC mX1_hasGate 11 (.getfield 9) 3 14 := ⟨by decide +kernel, rfl⟩
theorem eX1_hasGate_14 : DC mX1_hasGate 14 (.iload_n 1) 1 15 := ⟨by decide +kernel, rfl⟩
theorem eX1_hasGate_15 : DC mX1_hasGate 15 .iaload 1 16 := ⟨by decide +kernel, rfl⟩
theorem eX1_hasGate_16 : DC mX1_hasGate 16 (.iconst 3) 1 17 := ⟨by decide +kernel, rfl⟩
theorem eX1_hasGate_17 : DJ mX1_hasGate 17 (.if_icmp .ne) 24 20 := ⟨7, by decide +kernel, by decide, rfl⟩
theorem eX1_hasGate_20 : DC mX1_hasGate 20 (.iconst 1) 1 21 := ⟨by decide +kernel, rfl⟩
theorem eX1_hasGate_21 : DJ mX1_hasGate 21 .goto 25 24 := ⟨4, by decide +kernel, by decide, rfl⟩
theorem eX1_hasGate_24 : DC mX1_hasGate 24 (.iconst 0) 1 25 := ⟨by decide +kernel, rfl⟩
theorem eX1_hasGate_25 : DC mX1_hasGate 25 .ireturn 1 26 := ⟨by decide +kernel, rfl⟩
theorem eX1_halfOf_0 : DC mX1_halfOf 0 (.aload_n 0) 1 1 := ⟨by decide +kernel, rfl⟩
theorem eX1_halfOf_1 : DC mX1_halfOf 1 (.getfield 15) 3 4 := ⟨by decide +kernel, rfl⟩
theorem eX1_halfOf_4 : DC mX1_halfOf 4 (.iload_n 1) 1 5 := ⟨by decide +kernel, rfl⟩
theorem eX1_halfOf_5 : DC mX1_halfOf 5 .iaload 1 6 := ⟨by decide +kernel, rfl⟩
theorem eX1_halfOf_6 : DC mX1_halfOf 6 (.iconst 2) 1 7 := ⟨by decide +kernel, rfl⟩
theorem eX1_halfOf_7 : DC mX1_halfOf 7 .idiv 1 8 := ⟨by decide +kernel, rfl⟩
theorem eX1_halfOf_8 : DC mX1_halfOf 8 .ireturn 1 9 := ⟨by decide +kernel, rfl⟩
theorem eX1_areTooNear_0 : DC mX1_areTooNear 0 (.iconst 0) 1 1 := ⟨by decide +kernel, rfl⟩
theorem eX1_areTooNear_1 : DC mX1_areTooNear 1 (.istore 5) 2 3 := ⟨by decide +kernel, rfl⟩
theorem eX1_areTooNear_3 : DC mX1_areTooNear 3 (.iload 5) 2 5 := ⟨by decide +kernel, rfl⟩
theorem eX1_areTooNear_5 : DC mX1_areTooNear 5 (.aload_n 0) 1 6 := ⟨by decide +kernel, rfl⟩
theorem eX1_areTooNear_6 : DC mX1_areTooNear 6 (.getfield 43) 3 9 := ⟨by decide +kernel, rfl⟩
theorem eX1_areTooNear_9 : DJ mX1_areTooNear 9 (.if_icmp .ge) 136 12 := ⟨127, by decide +kernel, by decide, rfl⟩
theorem eX1_areTooNear_12 : DC mX1_areTooNear 12 (.aload_n 0) 1 13 := ⟨by decide +kernel, rfl⟩
theorem eX1_areTooNear_13 : DC mX1_areTooNear 13 (.getfield 18) 3 16 := ⟨by decide +kernel, rfl⟩
theorem eX1_areTooNear_16 : DC mX1_areTooNear 16 (.iload 5) 2 18 := ⟨by decide +kernel, rfl⟩
theorem eX1_areTooNear_18 : DC mX1_areTooNear 18 .iaload 1 19 := ⟨by decide +kernel, rfl⟩
theorem eX1_areTooNear_19 : DC mX1_areTooNear 19 (.iload_n 1) 1 20 := ⟨by decide +kernel, rfl⟩
theorem eX1_areTooNear_20 : DJ mX1_areTooNear 20 (.if_icmp .ne) 38 23 := ⟨18, by decide +kernel, by decide, rfl⟩
theorem eX1_areTooNear_23 : DC mX1_areTooNear 23 (.aload_n 0) 1 24 := ⟨by decide +kernel, rfl⟩
theorem eX1_areTooNear_24 : DC mX1_areTooNear 24 (.getfield 21) 3 27 := ⟨by decide +kernel, rfl⟩
theorem eX1_areTooNear_27 : DC mX1_areTooNear 27 (.iload 5) 2 29 := ⟨by decide +kernel, rfl⟩
theorem eX1_areTooNear_29 : DC mX1_areTooNear 29 .iaload 1 30 := ⟨by decide +kernel, rfl⟩
theorem eX1_areTooNear_30 : DC mX1_areTooNear 30 (.iload_n 3) 1 31 := ⟨by decide +kernel, rfl⟩
theorem eX1_areTooNear_31 : DJ mX1_areTooNear 31 (.if_icmp .ne) 38 34 := ⟨7, by decide +kernel, by decide, rfl⟩
theorem eX1_areTooNear_34 : DC mX1_areTooNear 34 (.iconst 1) 1 35 := ⟨by decide +kernel, rfl⟩
theorem eX1_areTooNear_35 : DJ mX1_areTooNear 35 .goto 39 38 := ⟨4, by decide +kernel, by decide, rfl⟩
theorem eX1_areTooNear_38 : DC mX1_areTooNear 38 (.iconst 0) 1 39 := ⟨by decide +kernel, rfl⟩
theorem eX1_areTooNear_39 : DC mX1_areTooNear 39 (.istore 6) 2 41 := ⟨by decide +kernel, rfl⟩
theorem eX1_areTooNear_41 : DC mX1_areTooNear 41 (.iload 6) 2 43 := ⟨by decide +kernel, rfl⟩
theorem eX1_areTooNear_43 : DJ mX1_areTooNear 43 (.ifCond .eq) 71 46 := ⟨28, by decide +kernel, by decide, rfl⟩
theorem eX1_areTooNear_46 : DC mX1_areTooNear 46 (.iload_n 2) 1 47 := ⟨by decide +kernel, rfl⟩
theorem eX1_areTooNear_47 : DC mX1_areTooNear 47 (.aload_n 0) 1 48 := ⟨by decide +kernel, rfl⟩
theorem eX1_areTooNear_48 : DC mX1_areTooNear 48 (.getfield 24) 3 51 := ⟨by decide +kernel, rfl⟩
theorem eX1_areTooNear_51 : DC mX1_areTooNear 51 (.iload 5) 2 53 := ⟨by decide +kernel, rfl⟩
theorem eX1_areTooNear_53 : DC mX1_areTooNear 53 .iaload 1 54 := ⟨by decide +kernel, rfl⟩
theorem eX1_areTooNear_54 : DJ mX1_areTooNear 54 (.if_icmp .gt) 69 57 := ⟨15, by decide +kernel, by decide, rfl⟩
theorem eX1_areTooNear_57 : DC mX1_areTooNear 57 (.iload 4) 2 59 := ⟨by decide +kernel, rfl⟩
theorem eX1_areTooNear_59 : DC mX1_areTooNear 59 (.aload_n 0) 1 60 := ⟨by decide +kernel, rfl⟩
theorem eX1_areTooNear_60 : DC mX1_areTooNear 60 (.getfield 27) 3 63 := ⟨by decide +kernel, rfl⟩
theorem eX1_areTooNear_63 : DC mX1_areTooNear 63 (.iload 5) 2 65 := ⟨by decide +kernel, rfl⟩
theorem eX1_areTooNear_65 : DC mX1_areTooNear 65 .iaload 1 66 := ⟨by decide +kernel, rfl⟩
theorem eX1_areTooNear_66 : DJ mX1_areTooNear 66 (.if_icmp .le) 71 69 := ⟨5, by decide +kernel, by decide, rfl⟩
theorem eX1_areTooNear_69 : DC mX1_areTooNear 69 (.iconst 1) 1 70 := ⟨by decide +kernel, rfl⟩
theorem eX1_areTooNear_70 : DC mX1_areTooNear 70 .ireturn 1 71 := ⟨by decide +kernel, rfl⟩
theorem eX1_areTooNear_71 : DC mX1_areTooNear 71 (.aload_n 0) 1 72 := ⟨by decide +kernel, rfl⟩
theorem eX1_areTooNear_72 : DC mX1_areTooNear 72 (.getfield 18) 3 75 := ⟨by decide +kernel, rfl⟩
theorem eX1_areTooNear_75 : DC mX1_areTooNear 75 (.iload 5) 2 77 := ⟨by decide +kernel, rfl⟩
theorem eX1_areTooNear_77 : DC mX1_areTooNear 77 .iaload 1 78 := ⟨by decide +kernel, rfl⟩
theorem eX1_areTooNear_78 : DC mX1_areTooNear 78 (.iload_n 3) 1 79 := ⟨by decide +kernel, rfl⟩
theorem eX1_areTooNear_79 : DJ mX1_areTooNear 79 (.if_icmp .ne) 97 82 := ⟨18, by decide +kernel, by decide, rfl⟩
theorem eX1_areTooNear_82 : DC mX1_areTooNear 82 (.aload_n 0) 1 83 := ⟨by decide +kernel, rfl⟩
theorem eX1_areTooNear_83 : DC mX1_areTooNear 83 (.getfield 21) 3 86 := ⟨by decide +kernel, rfl⟩
theorem eX1_areTooNear_86 : DC mX1_areTooNear 86 (.iload 5) 2 88 := ⟨by decide +kernel, rfl⟩
theorem eX1_areTooNear_88 : DC mX1_areTooNear 88 .iaload 1 89 := ⟨by decide +kernel, rfl⟩
theorem eX1_areTooNear_89 : DC mX1_areTooNear 89 (.iload_n 1) 1 90 := ⟨by decide +kernel, rfl⟩
theorem eX1_areTooNear_90 : DJ mX1_areTooNear 90 (.if_icmp .ne) 97 93 := ⟨7, by decide +kernel, by decide, rfl⟩
theorem eX1_areTooNear_93 : DC mX1_areTooNear 93 (.iconst 1) 1 94 := ⟨by decide +kernel, rfl⟩
theorem eX1_areTooNear_94 : DJ mX1_areTooNear 94 .goto 98 97 := ⟨4, by decide +kernel, by decide, rfl⟩
theorem eX1_areTooNear_97 : DC mX1_areTooNear 97 (.iconst 0) 1 98 := ⟨by decide +kernel, rfl⟩
theorem eX1_areTooNear_98 : DC mX1_areTooNear 98 (.istore 7) 2 100 := ⟨by decide +kernel, rfl⟩
theorem eX1_areTooNear_100 : DC mX1_areTooNear 100 (.iload 7) 2 102 := ⟨by decide +kernel, rfl⟩
theorem eX1_areTooNear_102 : DJ mX1_areTooNear 102 (.ifCond .eq) 130 105 := ⟨28, by decide +kernel, by decide, rfl⟩
theorem eX1_areTooNear_105 : DC mX1_areTooNear 105 (.iload_n 2) 1 106 := ⟨by decide +kernel, rfl⟩
theorem eX1_areTooNear_106 : DC mX1_areTooNear 106 (.aload_n 0) 1 107 := ⟨by decide +kernel, rfl⟩
theorem eX1_areTooNear_107 : DC mX1_areTooNear 107 (.getfield 27) 3 110 := ⟨by decide +kernel, rfl⟩
theorem eX1_areTooNear_110 : DC mX1_areTooNear 110 (.iload 5) 2 112 := ⟨by decide +kernel, rfl⟩
theorem eX1_areTooNear_112 : DC mX1_areTooNear 112 .iaload 1 113 := ⟨by decide +kernel, rfl⟩
theorem eX1_areTooNear_113 : DJ mX1_areTooNear 113 (.if_icmp .gt) 128 116 := ⟨15, by decide +kernel, by decide, rfl⟩
theorem eX1_areTooNear_116 : DC mX1_areTooNear 116 (.iload 4) 2 118 := ⟨by decide +kernel, rfl⟩
theorem eX1_areTooNear_118 : DC mX1_areTooNear 118 (.aload_n 0) 1 119 := ⟨by decide +kernel, rfl⟩
theorem eX1_areTooNear_119 : DC mX1_areTooNear 119 (.getfield 24) 3 122 := ⟨by decide +kernel, rfl⟩
theorem eX1_areTooNear_122 : DC mX1_areTooNear 122 (.iload 5) 2 124 := ⟨by decide +kernel, rfl⟩
theorem eX1_areTooNear_124 : DC mX1_areTooNear 124 .iaload 1 125 := ⟨by decide +kernel, rfl⟩
theorem eX1_areTooNear_125 : DJ mX1_areTooNear 125 (.if_icmp .le) 130 128 := ⟨5, by decide +kernel, by decide, rfl⟩
theorem eX1_areTooNear_128 : DC mX1_areTooNear 128 (.iconst 1) 1 129 := ⟨by decide +kernel, rfl⟩
theorem eX1_areTooNear_129 : DC mX1_areTooNear 129 .ireturn 1 130 := ⟨by decide +kernel, rfl⟩
theorem eX1_areTooNear_130 : DC mX1_areTooNear 130 (.iinc 5 1) 3 133 := ⟨by decide +kernel, rfl⟩
theorem eX1_areTooNear_133 : DJ mX1_areTooNear 133 .goto 3 136 := ⟨(-130), by decide +kernel, by decide, rfl⟩
theorem eX1_areTooNear_136 : DC mX1_areTooNear 136 (.iconst 0) 1 137 := ⟨by decide +kernel, rfl⟩
theorem eX1_areTooNear_137 : DC mX1_areTooNear 137 .ireturn 1 138 := ⟨by decide +kernel, rfl⟩
theorem eX1_firstCone_0 : DC mX1_firstCone 0 (.iconst 0) 1 1 := ⟨by decide +kernel, rfl⟩
theorem eX1_firstCone_1 : DC mX1_firstCone 1 (.istore 4) 2 3 := ⟨by decide +kernel, rfl⟩
theorem eX1_firstCone_3 : DC mX1_firstCone 3 (.iload 4) 2 5 := ⟨by decide +kernel, rfl⟩
theorem eX1_firstCone_5 : DC mX1_firstCone 5 (.aload_n 0) 1 6 := ⟨by decide +kernel, rfl⟩
theorem eX1_firstCone_6 : DC mX1_firstCone 6 (.getfield 46) 3 9 := ⟨by decide +kernel, rfl⟩
theorem eX1_firstCone_9 : DJ mX1_firstCone 9 (.if_icmp .ge) 54 12 := ⟨45, by decide +kernel, by decide, rfl⟩
theorem eX1_firstCone_12 : DC mX1_firstCone 12 (.aload_n 0) 1 13 := ⟨by decide +kernel, rfl⟩
theorem eX1_firstCone_13 : DC mX1_firstCone 13 (.getfield 30) 3 16 := ⟨by decide +kernel, rfl⟩
theorem eX1_firstCone_16 : DC mX1_firstCone 16 (.iload 4) 2 18 := ⟨by decide +kernel, rfl⟩
theorem eX1_firstCone_18 : DC mX1_firstCone 18 .iaload 1 19 := ⟨by decide +kernel, rfl⟩
theorem eX1_firstCone_19 : DC mX1_firstCone 19 (.iload_n 1) 1 20 := ⟨by decide +kernel, rfl⟩
theorem eX1_firstCone_20 : DJ mX1_firstCone 20 (.if_icmp .ne) 48 23 := ⟨28, by decide +kernel, by decide, rfl⟩
theorem eX1_firstCone_23 : DC mX1_firstCone 23 (.iload_n 2) 1 24 := ⟨by decide +kernel, rfl⟩
theorem eX1_firstCone_24 : DC mX1_firstCone 24 (.iload_n 3) 1 25 := ⟨by decide +kernel, rfl⟩
theorem eX1_firstCone_25 : DC mX1_firstCone 25 (.aload_n 0) 1 26 := ⟨by decide +kernel, rfl⟩
theorem eX1_firstCone_26 : DC mX1_firstCone 26 (.getfield 33) 3 29 := ⟨by decide +kernel, rfl⟩
theorem eX1_firstCone_29 : DC mX1_firstCone 29 (.iload 4) 2 31 := ⟨by decide +kernel, rfl⟩
theorem eX1_firstCone_31 : DC mX1_firstCone 31 .iaload 1 32 := ⟨by decide +kernel, rfl⟩
theorem eX1_firstCone_32 : DC mX1_firstCone 32 (.aload_n 0) 1 33 := ⟨by decide +kernel, rfl⟩
theorem eX1_firstCone_33 : DC mX1_firstCone 33 (.getfield 36) 3 36 := ⟨by decide +kernel, rfl⟩
theorem eX1_firstCone_36 : DC mX1_firstCone 36 (.iload 4) 2 38 := ⟨by decide +kernel, rfl⟩
theorem eX1_firstCone_38 : DC mX1_firstCone 38 .iaload 1 39 := ⟨by decide +kernel, rfl⟩
theorem eX1_firstCone_39 : DC mX1_firstCone 39 (.invokestatic 49) 3 42 := ⟨by decide +kernel, rfl⟩
theorem eX1_firstCone_42 : DJ mX1_firstCone 42 (.ifCond .eq) 48 45 := ⟨6, by decide +kernel, by decide, rfl⟩
theorem eX1_firstCone_45 : DC mX1_firstCone 45 (.iload 4) 2 47 := ⟨by decide +kernel, rfl⟩
theorem eX1_firstCone_47 : DC mX1_firstCone 47 .ireturn 1 48 := ⟨by decide +kernel, rfl⟩
theorem eX1_firstCone_48 : DC mX1_firstCone 48 (.iinc 4 1) 3 51 := ⟨by decide +kernel, rfl⟩
theorem eX1_firstCone_51 : DJ mX1_firstCone 51 .goto 3 54 := ⟨(-48), by decide +kernel, by decide, rfl⟩
theorem eX1_firstCone_54 : DC mX1_firstCone 54 (.iconst (-1)) 1 55 := ⟨by decide +kernel, rfl⟩
theorem eX1_firstCone_55 : DC mX1_firstCone 55 .ireturn 1 56 := ⟨by decide +kernel, rfl⟩
theorem eX2_sendAway_0 : DC mX2_sendAway 0 (.aload_n 0) 1 1 := ⟨by decide +kernel, rfl⟩
theorem eX2_sendAway_1 : DC mX2_sendAway 1 (.getfield 19) 3 4 := ⟨by decide +kernel, rfl⟩
theorem eX2_sendAway_4 : DC mX2_sendAway 4 (.iload_n 1) 1 5 := ⟨by decide +kernel, rfl⟩
theorem eX2_sendAway_5 : DC mX2_sendAway 5 (.invokevirtual 27) 3 8 := ⟨by decide +kernel, rfl⟩
theorem eX2_sendAway_8 : DJ mX2_sendAway 8 (.ifCond .eq) 18 11 := ⟨10, by decide +kernel, by decide, rfl⟩
theorem eX2_sendAway_11 : DC mX2_sendAway 11 (.aload_n 0) 1 12 := ⟨by decide +kernel, rfl⟩
theorem eX2_sendAway_12 : DC mX2_sendAway 12 (.getfield 9) 3 15 := ⟨by decide +kernel, rfl⟩
theorem eX2_sendAway_15 : DC mX2_sendAway 15 (.iload_n 1) 1 16 := ⟨by decide +kernel, rfl⟩
theorem eX2_sendAway_16 : DC mX2_sendAway 16 (.iconst 1) 1 17 := ⟨by decide +kernel, rfl⟩
theorem eX2_sendAway_17 : DC mX2_sendAway 17 .bastore 1 18 := ⟨by decide +kernel, rfl⟩
theorem eX2_sendAway_18 : DC mX2_sendAway 18 .return_ 1 19 := ⟨by decide +kernel, rfl⟩
theorem eX2_callAllBack_0 : DC mX2_callAllBack 0 (.iconst 0) 1 1 := ⟨by decide +kernel, rfl⟩
theorem eX2_callAllBack_1 : DC mX2_callAllBack 1 (.istore_n 1) 1 2 := ⟨by decide +kernel, rfl⟩
theorem eX2_callAllBack_2 : DC mX2_callAllBack 2 (.iload_n 1) 1 3 := ⟨by decide +kernel, rfl⟩
theorem eX2_callAllBack_3 : DC mX2_callAllBack 3 (.bipush 40) 2 5 := ⟨by decide +kernel, rfl⟩
theorem eX2_callAllBack_5 : DJ mX2_callAllBack 5 (.if_icmp .ge) 21 8 := ⟨16, by decide +kernel, by decide, rfl⟩
theorem eX2_callAllBack_8 : DC mX2_callAllBack 8 (.aload_n 0) 1 9 := ⟨by decide +kernel, rfl⟩
theorem eX2_callAllBack_9 : DC mX2_callAllBack 9 (.getfield 9) 3 12 := ⟨by decide +kernel, rfl⟩
theorem eX2_callAllBack_12 : DC mX2_callAllBack 12 (.iload_n 1) 1 13 := ⟨by decide +kernel, rfl⟩
theorem eX2_callAllBack_13 : DC mX2_callAllBack 13 (.iconst 0) 1 14 := ⟨by decide +kernel, rfl⟩
theorem eX2_callAllBack_14 : DC mX2_callAllBack 14 .bastore 1 15 := ⟨by decide +kernel, rfl⟩
theorem eX2_callAllBack_15 : DC mX2_callAllBack 15 (.iinc 1 1) 3 18 := ⟨by decide +kernel, rfl⟩
theorem eX2_callAllBack_18 : DJ mX2_callAllBack 18 .goto 2 21 := ⟨(-16), by decide +kernel, by decide, rfl⟩
theorem eX2_callAllBack_21 : DC mX2_callAllBack 21 .return_ 1 22 := ⟨by decide +kernel, rfl⟩
theorem eX2_regard_0 : DC mX2_regard 0 (.aload_n 0) 1 1 := ⟨by decide +kernel, rfl⟩
theorem eX2_regard_1 : DC mX2_regard 1 (.iload_n 1) 1 2 := ⟨by decide +kernel, rfl⟩
theorem eX2_regard_2 : DC mX2_regard 2 (.putfield 33) 3 5 := ⟨by decide +kernel, rfl⟩
theorem eX2_regard_5 : DC mX2_regard 5 (.aload_n 0) 1 6 := ⟨by decide +kernel, rfl⟩
theorem eX2_regard_6 : DC mX2_regard 6 (.aload_n 0) 1 7 := ⟨by decide +kernel, rfl⟩
theorem eX2_regard_7 : DC mX2_regard 7 (.getfield 19) 3 10 := ⟨by decide +kernel, rfl⟩
theorem eX2_regard_10 : DC mX2_regard 10 (.iload_n 1) 1 11 := ⟨by decide +kernel, rfl⟩
theorem eX2_regard_11 : DC mX2_regard 11 (.invokevirtual 36) 3 14 := ⟨by decide +kernel, rfl⟩
theorem eX2_regard_14 : DC mX2_regard 14 (.putfield 40) 3 17 := ⟨by decide +kernel, rfl⟩
theorem eX2_regard_17 : DC mX2_regard 17 (.aload_n 0) 1 18 := ⟨by decide +kernel, rfl⟩
theorem eX2_regard_18 : DC mX2_regard 18 (.aload_n 0) 1 19 := ⟨by decide +kernel, rfl⟩
theorem eX2_regard_19 : DC mX2_regard 19 (.getfield 19) 3 22 := ⟨by decide +kernel, rfl⟩
theorem eX2_regard_22 : DC mX2_regard 22 (.iload_n 1) 1 23 := ⟨by decide +kernel, rfl⟩
theorem eX2_regard_23 : DC mX2_regard 23 (.invokevirtual 43) 3 26 := ⟨by decide +kernel, rfl⟩
theorem eX2_regard_26 : DC mX2_regard 26 (.putfield 46) 3 29 := ⟨by decide +kernel, rfl⟩
theorem eX2_regard_29 : DC mX2_regard 29 (.aload_n 0) 1 30 := ⟨by decide +kernel, rfl⟩
theorem eX2_regard_30 : DC mX2_regard 30 (.aload_n 0) 1 31 := ⟨by decide +kernel, rfl⟩
theorem eX2_regard_31 : DC mX2_regard 31 (.getfield 19) 3 34 := ⟨by decide +kernel, rfl⟩
theorem eX2_regard_34 : DC mX2_regard 34 (.iload_n 1) 1 35 := ⟨by decide +kernel, rfl⟩
theorem eX2_regard_35 : DC mX2_regard 35 (.invokevirtual 49) 3 38 := ⟨by decide +kernel, rfl⟩
theorem eX2_regard_38 : DC mX2_regard 38 (.putfield 52) 3 41 := ⟨by decide +kernel, rfl⟩
theorem eX2_regard_41 : DC mX2_regard 41 .return_ 1 42 := ⟨by decide +kernel, rfl⟩
theorem eX2_regardPlane_0 : DC mX2_regardPlane 0 (.aload_n 0) 1 1 := ⟨by decide +kernel, rfl⟩
theorem eX2_regardPlane_1 : DC mX2_regardPlane 1 (.iconst (-1)) 1 2 := ⟨by decide +kernel, rfl⟩
theorem eX2_regardPlane_2 : DC mX2_regardPlane 2 (.putfield 33) 3 5 := ⟨by decide +kernel, rfl⟩
theorem eX2_regardPlane_5 : DC mX2_regardPlane 5 (.aload_n 0) 1 6 := ⟨by decide +kernel, rfl⟩
theorem eX2_regardPlane_6 : DC mX2_regardPlane 6 (.iconst 1) 1 7 := ⟨by decide +kernel, rfl⟩
theorem eX2_regardPlane_7 : DC mX2_regardPlane 7 (.putfield 40) 3 10 := ⟨by decide +kernel, rfl⟩
theorem eX2_regardPlane_10 : DC mX2_regardPlane 10 (.aload_n 0) 1 11 := ⟨by decide +kernel, rfl⟩
theorem eX2_regardPlane_11 : DC mX2_regardPlane 11 (.iload_n 1) 1 12 := ⟨by decide +kernel, rfl⟩
theorem eX2_regardPlane_12 : DC mX2_regardPlane 12 (.putfield 46) 3 15 := ⟨by decide +kernel, rfl⟩
theorem eX2_regardPlane_15 : DC mX2_regardPlane 15 (.aload_n 0) 1 16 := ⟨by decide +kernel, rfl⟩
theorem eX2_regardPlane_16 : DC mX2_regardPlane 16 (.iconst 0) 1 17 := ⟨by decide +kernel, rfl⟩
theorem eX2_regardPlane_17 : DC mX2_regardPlane 17 (.putfield 52) 3 20 := ⟨by decide +kernel, rfl⟩
theorem eX2_regardPlane_20 : DC mX2_regardPlane 20 .return_ 1 21 := ⟨by decide +kernel, rfl⟩
theorem eX2_bestStand_0 : DC mX2_bestStand 0 (.aload_n 0) 1 1 := ⟨by decide +kernel, rfl⟩
theorem eX2_bestStand_1 : DC mX2_bestStand 1 (.iload_n 1) 1 2 := ⟨by decide +kernel, rfl⟩
theorem eX2_bestStand_2 : DC mX2_bestStand 2 (.invokevirtual 55) 3 5 := ⟨by decide +kernel, rfl⟩
theorem eX2_bestStand_5 : DC mX2_bestStand 5 (.aload_n 0) 1 6 := ⟨by decide +kernel, rfl⟩
theorem eX2_bestStand_6 : DC mX2_bestStand 6 (.getfield 19) 3 9 := ⟨by decide +kernel, rfl⟩
theorem eX2_bestStand_9 : DC mX2_bestStand 9 (.iload_n 1) 1 10 := ⟨by decide +kernel, rfl⟩
theorem eX2_bestStand_10 : DC mX2_bestStand 10 (.invokevirtual 59) 3 13 := ⟨by decide +kernel, rfl⟩
theorem eX2_bestStand_13 : DC mX2_bestStand 13 (.istore_n 3) 1 14 := ⟨by decide +kernel, rfl⟩
theorem eX2_bestStand_14 : DC mX2_bestStand 14 (.aload_n 0) 1 15 := ⟨by decide +kernel, rfl⟩
theorem eX2_bestStand_15 : DC mX2_bestStand 15 (.getfield 40) 3 18 := ⟨by decide +kernel, rfl⟩
theorem eX2_bestStand_18 : DC mX2_bestStand 18 (.iconst 3) 1 19 := ⟨by decide +kernel, rfl⟩
theorem eX2_bestStand_19 : DJ mX2_bestStand 19 (.if_icmp .ne) 28 22 := ⟨9, by decide +kernel, by decide, rfl⟩
theorem eX2_bestStand_22 : DC mX2_bestStand 22 (.getstatic 62) 3 25 := ⟨by decide +kernel, rfl⟩
theorem eX2_bestStand_25 : DJ mX2_bestStand 25 .goto 31 28 := ⟨6, by decide +kernel, by decide, rfl⟩
theorem eX2_bestStand_28 : DC mX2_bestStand 28 (.getstatic 66) 3 31 := ⟨by decide +kernel, rfl⟩
theorem eX2_bestStand_31 : DC mX2_bestStand 31 (.astore 4) 2 33 := ⟨by decide +kernel, rfl⟩
theorem eX2_bestStand_33 : DC mX2_bestStand 33 (.iconst 0) 1 34 := ⟨by decide +kernel, rfl⟩
theorem eX2_bestStand_34 : DC mX2_bestStand 34 (.istore 5) 2 36 := ⟨by decide +kernel, rfl⟩
theorem eX2_bestStand_36 : DC mX2_bestStand 36 (.iload 5) 2 38 := ⟨by decide +kernel, rfl⟩
theorem eX2_bestStand_38 : DC mX2_bestStand 38 (.aload 4) 2 40 := ⟨by decide +kernel, rfl⟩
theorem eX2_bestStand_40 : DC mX2_bestStand 40 .arraylength 1 41 := ⟨by decide +kernel, rfl⟩
theorem eX2_bestStand_41 : DJ mX2_bestStand 41 (.if_icmp .ge) 157 44 := ⟨116, by decide +kernel, by decide, rfl⟩
theorem eX2_bestStand_44 : DC mX2_bestStand 44 (.iconst (-1)) 1 45 := ⟨by decide +kernel, rfl⟩
theorem eX2_bestStand_45 : DC mX2_bestStand 45 (.istore 6) 2 47 := ⟨by decide +kernel, rfl⟩
theorem eX2_bestStand_47 : DC mX2_bestStand 47 (.iconst 0) 1 48 := ⟨by decide +kernel, rfl⟩
theorem eX2_bestStand_48 : DC mX2_bestStand 48 (.istore 7) 2 50 := ⟨by decide +kernel, rfl⟩
theorem eX2_bestStand_50 : DC mX2_bestStand 50 (.iload 7) 2 52 := ⟨by decide +kernel, rfl⟩
theorem eX2_bestStand_52 : DC mX2_bestStand 52 (.aload_n 0) 1 53 := ⟨by decide +kernel, rfl⟩
theorem eX2_bestStand_53 : DC mX2_bestStand 53 (.getfield 15) 3 56 := ⟨by decide +kernel, rfl⟩
theorem eX2_bestStand_56 : DC mX2_bestStand 56 (.getfield 69) 3 59 := ⟨by decide +kernel, rfl⟩
theorem eX2_bestStand_59 : DJ mX2_bestStand 59 (.if_icmp .ge) 142 62 := ⟨83, by decide +kernel, by decide, rfl⟩
theorem eX2_bestStand_62 : DC mX2_bestStand 62 (.iload 6) 2 64 := ⟨by decide +kernel, rfl⟩
theorem eX2_bestStand_64 : DC mX2_bestStand 64 (.iconst (-1)) 1 65 := ⟨by decide +kernel, rfl⟩
theorem eX2_bestStand_65 : DJ mX2_bestStand 65 (.if_icmp .eq) 91 68 := ⟨26, by decide +kernel, by decide, rfl⟩
theorem eX2_bestStand_68 : DC mX2_bestStand 68 (.aload_n 0) 1 69 := ⟨by decide +kernel, rfl⟩
theorem eX2_bestStand_69 : DC mX2_bestStand 69 (.getfield 15) 3 72 := ⟨by decide +kernel, rfl⟩
theorem eX2_bestStand_72 : DC mX2_bestStand 72 (.getfield 74) 3 75 := ⟨by decide +kernel, rfl⟩
theorem eX2_bestStand_75 : DC mX2_bestStand 75 (.iload 7) 2 77 := ⟨by decide +kernel, rfl⟩
theorem eX2_bestStand_77 : DC mX2_bestStand 77 .iaload 1 78 := ⟨by decide +kernel, rfl⟩
theorem eX2_bestStand_78 : DC mX2_bestStand 78 (.aload_n 0) 1 79 := ⟨by decide +kernel, rfl⟩
theorem eX2_bestStand_79 : DC mX2_bestStand 79 (.getfield 15) 3 82 := ⟨by decide +kernel, rfl⟩
theorem eX2_bestStand_82 : DC mX2_bestStand 82 (.getfield 74) 3 85 := ⟨by decide +kernel, rfl⟩
theorem eX2_bestStand_85 : DC mX2_bestStand 85 (.iload 6) 2 87 := ⟨by decide +kernel, rfl⟩
theorem eX2_bestStand_87 : DC mX2_bestStand 87 .iaload 1 88 := ⟨by decide +kernel, rfl⟩
theorem eX2_bestStand_88 : DJ mX2_bestStand 88 (.if_icmp .ge) 95 91 := ⟨7, by decide +kernel, by decide, rfl⟩
theorem eX2_bestStand_91 : DC mX2_bestStand 91 (.iconst 1) 1 92 := ⟨by decide +kernel, rfl⟩
theorem eX2_bestStand_92 : DJ mX2_bestStand 92 .goto 96 95 := ⟨4, by decide +kernel, by decide, rfl⟩
theorem eX2_bestStand_95 : DC mX2_bestStand 95 (.iconst 0) 1 96 := ⟨by decide +kernel, rfl⟩
theorem eX2_bestStand_96 : DC mX2_bestStand 96 (.istore 8) 2 98 := ⟨by decide +kernel, rfl⟩
theorem eX2_bestStand_98 : DC mX2_bestStand 98 (.aload_n 0) 1 99 := ⟨by decide +kernel, rfl⟩
theorem eX2_bestStand_99 : DC mX2_bestStand 99 (.getfield 15) 3 102 := ⟨by decide +kernel, rfl⟩
theorem eX2_bestStand_102 : DC mX2_bestStand 102 (.getfield 77) 3 105 := ⟨by decide +kernel, rfl⟩
theorem eX2_bestStand_105 : DC mX2_bestStand 105 (.iload 7) 2 107 := ⟨by decide +kernel, rfl⟩
theorem eX2_bestStand_107 : DC mX2_bestStand 107 .iaload 1 108 := ⟨by decide +kernel, rfl⟩
theorem eX2_bestStand_108 : DC mX2_bestStand 108 (.aload 4) 2 110 := ⟨by decide +kernel, rfl⟩
theorem eX2_bestStand_110 : DC mX2_bestStand 110 (.iload 5) 2 112 := ⟨by decide +kernel, rfl⟩
theorem eX2_bestStand_112 : DC mX2_bestStand 112 .iaload 1 113 := ⟨by decide +kernel, rfl⟩
theorem eX2_bestStand_113 : DJ mX2_bestStand 113 (.if_icmp .ne) 136 116 := ⟨23, by decide +kernel, by decide, rfl⟩
theorem eX2_bestStand_116 : DC mX2_bestStand 116 (.iload 8) 2 118 := ⟨by decide +kernel, rfl⟩
theorem eX2_bestStand_118 : DJ mX2_bestStand 118 (.ifCond .eq) 136 121 := ⟨18, by decide +kernel, by decide, rfl⟩
theorem eX2_bestStand_121 : DC mX2_bestStand 121 (.aload_n 0) 1 122 := ⟨by decide +kernel, rfl⟩
theorem eX2_bestStand_122 : DC mX2_bestStand 122 (.iload 7) 2 124 := ⟨by decide +kernel, rfl⟩
theorem eX2_bestStand_124 : DC mX2_bestStand 124 (.iload_n 2) 1 125 := ⟨by decide +kernel, rfl⟩
theorem eX2_bestStand_125 : DC mX2_bestStand 125 (.iload_n 3) 1 126 := ⟨by decide +kernel, rfl⟩
theorem eX2_bestStand_126 : DC mX2_bestStand 126 (.invokevirtual 80) 3 129 := ⟨by decide +kernel, rfl⟩
theorem eX2_bestStand_129 : DJ mX2_bestStand 129 (.ifCond .ne) 136 132 := ⟨7, by decide +kernel, by decide, rfl⟩
theorem eX2_bestStand_132 : DC mX2_bestStand 132 (.iload 7) 2 134 := ⟨by decide +kernel, rfl⟩
theorem eX2_bestStand_134 : DC mX2_bestStand 134 (.istore 6) 2 136 := ⟨by decide +kernel, rfl⟩
theorem eX2_bestStand_136 : DC mX2_bestStand 136 (.iinc 7 1) 3 139 := ⟨by decide +kernel, rfl⟩
theorem eX2_bestStand_139 : DJ mX2_bestStand 139 .goto 50 142 := ⟨(-89), by decide +kernel, by decide, rfl⟩
theorem eX2_bestStand_142 : DC mX2_bestStand 142 (.iload 6) 2 144 := ⟨by decide +kernel, rfl⟩
theorem eX2_bestStand_144 : DC mX2_bestStand 144 (.iconst (-1)) 1 145 := ⟨by decide +kernel, rfl⟩
theorem eX2_bestStand_145 : DJ mX2_bestStand 145 (.if_icmp .eq) 151 148 := ⟨6, by decide +kernel, by decide, rfl⟩
theorem eX2_bestStand_148 : DC mX2_bestStand 148 (.iload 6) 2 150 := ⟨by decide +kernel, rfl⟩
theorem eX2_bestStand_150 : DC mX2_bestStand 150 .ireturn 1 151 := ⟨by decide +kernel, rfl⟩
theorem eX2_bestStand_151 : DC mX2_bestStand 151 (.iinc 5 1) 3 154 := ⟨by decide +kernel, rfl⟩
theorem eX2_bestStand_154 : DJ mX2_bestStand 154 .goto 36 157 := ⟨(-118), by decide +kernel, by decide, rfl⟩
theorem eX2_bestStand_157 : DC mX2_bestStand 157 (.iconst (-1)) 1 158 := ⟨by decide +kernel, rfl⟩
theorem eX2_bestStand_158 : DC mX2_bestStand 158 .ireturn 1 159 := ⟨by decide +kernel, rfl⟩
theorem eX2_against_0 : DC mX2_against 0 (.aload_n 0) 1 1 := ⟨by decide +kernel, rfl⟩
theorem eX2_against_1 : DC mX2_against 1 (.iconst (-1)) 1 2 := ⟨by decide +kernel, rfl⟩
theorem eX2_against_2 : DC mX2_against 2 (.putfield 23) 3 5 := ⟨by decide +kernel, rfl⟩
theorem eX2_against_5 : DC mX2_against 5 (.aload_n 0) 1 6 := ⟨by decide +kernel, rfl⟩
theorem eX2_against_6 : DC mX2_against 6 (.getfield 46) 3 9 := ⟨by decide +kernel, rfl⟩
theorem eX2_against_9 : DC mX2_against 9 (.aload_n 0) 1 10 := ⟨by decide +kernel, rfl⟩
theorem eX2_against_10 : DC mX2_against 10 (.getfield 15) 3 13 := ⟨by decide +kernel, rfl⟩
theorem eX2_against_13 : DC mX2_against 13 (.getfield 74) 3 16 := ⟨by decide +kernel, rfl⟩
theorem eX2_against_16 : DC mX2_against 16 (.iload_n 1) 1 17 := ⟨by decide +kernel, rfl⟩
theorem eX2_against_17 : DC mX2_against 17 .iaload 1 18 := ⟨by decide +kernel, rfl⟩
theorem eX2_against_18 : DJ mX2_against 18 (.if_icmp .le) 23 21 := ⟨5, by decide +kernel, by decide, rfl⟩
theorem eX2_against_21 : DC mX2_against 21 (.iconst 1) 1 22 := ⟨by decide +kernel, rfl⟩
theorem eX2_against_22 : DC mX2_against 22 .ireturn 1 23 := ⟨by decide +kernel, rfl⟩
theorem eX2_against_23 : DC mX2_against 23 (.aload_n 0) 1 24 := ⟨by decide +kernel, rfl⟩
theorem eX2_against_24 : DC mX2_against 24 (.iload_n 1) 1 25 := ⟨by decide +kernel, rfl⟩
theorem eX2_against_25 : DC mX2_against 25 (.iload_n 2) 1 26 := ⟨by decide +kernel, rfl⟩
theorem eX2_against_26 : DC mX2_against 26 (.iload_n 3) 1 27 := ⟨by decide +kernel, rfl⟩
theorem eX2_against_27 : DC mX2_against 27 (.invokevirtual 84) 3 30 := ⟨by decide +kernel, rfl⟩
theorem eX2_against_30 : DJ mX2_against 30 (.ifCond .eq) 35 33 := ⟨5, by decide +kernel, by decide, rfl⟩
theorem eX2_against_33 : DC mX2_against 33 (.iconst 2) 1 34 := ⟨by decide +kernel, rfl⟩
theorem eX2_against_34 : DC mX2_against 34 .ireturn 1 35 := ⟨by decide +kernel, rfl⟩
theorem eX2_against_35 : DC mX2_against 35 (.aload_n 0) 1 36 := ⟨by decide +kernel, rfl⟩
theorem eX2_against_36 : DC mX2_against 36 (.aload_n 0) 1 37 := ⟨by decide +kernel, rfl⟩
theorem eX2_against_37 : DC mX2_against 37 (.iload_n 1) 1 38 := ⟨by decide +kernel, rfl⟩
theorem eX2_against_38 : DC mX2_against 38 (.iload_n 2) 1 39 := ⟨by decide +kernel, rfl⟩
theorem eX2_against_39 : DC mX2_against 39 (.iload_n 3) 1 40 := ⟨by decide +kernel, rfl⟩
theorem eX2_against_40 : DC mX2_against 40 (.invokevirtual 88) 3 43 := ⟨by decide +kernel, rfl⟩
theorem eX2_against_43 : DC mX2_against 43 (.putfield 23) 3 46 := ⟨by decide +kernel, rfl⟩
theorem eX2_against_46 : DC mX2_against 46 (.aload_n 0) 1 47 := ⟨by decide +kernel, rfl⟩
theorem eX2_against_47 : DC mX2_against 47 (.getfield 23) 3 50 := ⟨by decide +kernel, rfl⟩
theorem eX2_against_50 : DC mX2_against 50 (.iconst (-1)) 1 51 := ⟨by decide +kernel, rfl⟩
theorem eX2_against_51 : DJ mX2_against 51 (.if_icmp .eq) 56 54 := ⟨5, by decide +kernel, by decide, rfl⟩
theorem eX2_against_54 : DC mX2_against 54 (.iconst 3) 1 55 := ⟨by decide +kernel, rfl⟩
theorem eX2_against_55 : DC mX2_against 55 .ireturn 1 56 := ⟨by decide +kernel, rfl⟩
theorem eX2_against_56 : DC mX2_against 56 (.aload_n 0) 1 57 := ⟨by decide +kernel, rfl⟩
theorem eX2_against_57 : DC mX2_against 57 (.aload_n 0) 1 58 := ⟨by decide +kernel, rfl⟩
theorem eX2_against_58 : DC mX2_against 58 (.getfield 15) 3 61 := ⟨by decide +kernel, rfl⟩
theorem eX2_against_61 : DC mX2_against 61 (.iload_n 1) 1 62 := ⟨by decide +kernel, rfl⟩
theorem eX2_against_62 : DC mX2_against 62 (.iload_n 2) 1 63 := ⟨by decide +kernel, rfl⟩
theorem eX2_against_63 : DC mX2_against 63 (.iload_n 3) 1 64 := ⟨by decide +kernel, rfl⟩
theorem eX2_against_64 : DC mX2_against 64 (.invokevirtual 91) 3 67 := ⟨by decide +kernel, rfl⟩
theorem eX2_against_67 : DC mX2_against 67 (.putfield 23) 3 70 := ⟨by decide +kernel, rfl⟩
theorem eX2_against_70 : DC mX2_against 70 (.aload_n 0) 1 71 := ⟨by decide +kernel, rfl⟩
theorem eX2_against_71 : DC mX2_against 71 (.getfield 23) 3 74 := ⟨by decide +kernel, rfl⟩
theorem eX2_against_74 : DC mX2_against 74 (.iconst (-1)) 1 75 := ⟨by decide +kernel, rfl⟩
theorem eX2_against_75 : DJ mX2_against 75 (.if_icmp .eq) 80 78 := ⟨5, by decide +kernel, by decide, rfl⟩
theorem eX2_against_78 : DC mX2_against 78 (.iconst 4) 1 79 := ⟨by decide +kernel, rfl⟩
theorem eX2_against_79 : DC mX2_against 79 .ireturn 1 80 := ⟨by decide +kernel, rfl⟩
theorem eX2_against_80 : DC mX2_against 80 (.aload_n 0) 1 81 := ⟨by decide +kernel, rfl⟩
theorem eX2_against_81 : DC mX2_against 81 (.aload_n 0) 1 82 := ⟨by decide +kernel, rfl⟩
theorem eX2_against_82 : DC mX2_against 82 (.iload_n 1) 1 83 := ⟨by decide +kernel, rfl⟩
theorem eX2_against_83 : DC mX2_against 83 (.iload_n 2) 1 84 := ⟨by decide +kernel, rfl⟩
theorem eX2_against_84 : DC mX2_against 84 (.iload_n 3) 1 85 := ⟨by decide +kernel, rfl⟩
theorem eX2_against_85 : DC mX2_against 85 (.invokevirtual 94) 3 88 := ⟨by decide +kernel, rfl⟩
theorem eX2_against_88 : DC mX2_against 88 (.putfield 23) 3 91 := ⟨by decide +kernel, rfl⟩
theorem eX2_against_91 : DC mX2_against 91 (.aload_n 0) 1 92 := ⟨by decide +kernel, rfl⟩
theorem eX2_against_92 : DC mX2_against 92 (.getfield 23) 3 95 := ⟨by decide +kernel, rfl⟩
theorem eX2_against_95 : DC mX2_against 95 (.iconst (-1)) 1 96 := ⟨by decide +kernel, rfl⟩
theorem eX2_against_96 : DJ mX2_against 96 (.if_icmp .eq) 103 99 := ⟨7, by decide +kernel, by decide, rfl⟩
theorem eX2_against_99 : DC mX2_against 99 (.iconst 5) 1 100 := ⟨by decide +kernel, rfl⟩
theorem eX2_against_100 : DJ mX2_against 100 .goto 104 103 := ⟨4, by decide +kernel, by decide, rfl⟩
theorem eX2_against_103 : DC mX2_against 103 (.iconst 0) 1 104 := ⟨by decide +kernel, rfl⟩
theorem eX2_against_104 : DC mX2_against 104 .ireturn 1 105 := ⟨by decide +kernel, rfl⟩
theorem eX2_isUnfit_0 : DC mX2_isUnfit 0 (.aload_n 0) 1 1 := ⟨by decide +kernel, rfl⟩
theorem eX2_isUnfit_1 : DC mX2_isUnfit 1 (.getfield 15) 3 4 := ⟨by decide +kernel, rfl⟩
theorem eX2_isUnfit_4 : DC mX2_isUnfit 4 (.iload_n 1) 1 5 := ⟨by decide +kernel, rfl⟩
theorem eX2_isUnfit_5 : DC mX2_isUnfit 5 (.invokevirtual 97) 3 8 := ⟨by decide +kernel, rfl⟩
theorem eX2_isUnfit_8 : DC mX2_isUnfit 8 (.istore 4) 2 10 := ⟨by decide +kernel, rfl⟩
theorem eX2_isUnfit_10 : DC mX2_isUnfit 10 (.aload_n 0) 1 11 := ⟨by decide +kernel, rfl⟩
theorem eX2_isUnfit_11 : DC mX2_isUnfit 11 (.getfield 15) 3 14 := ⟨by decide +kernel, rfl⟩
theorem eX2_isUnfit_14 : DC mX2_isUnfit 14 (.getfield 77) 3 17 := ⟨by decide +kernel, rfl⟩
theorem eX2_isUnfit_17 : DC mX2_isUnfit 17 (.iload_n 1) 1 18 := ⟨by decide +kernel, rfl⟩
theorem eX2_isUnfit_18 : DC mX2_isUnfit 18 .iaload 1 19 := ⟨by decide +kernel, rfl⟩
theorem eX2_isUnfit_19 : DC mX2_isUnfit 19 (.iconst 5) 1 20 := ⟨by decide +kernel, rfl⟩
theorem eX2_isUnfit_20 : DJ mX2_isUnfit 20 (.if_icmp .ne) 27 23 := ⟨7, by decide +kernel, by decide, rfl⟩
theorem eX2_isUnfit_23 : DC mX2_isUnfit 23 (.iconst 1) 1 24 := ⟨by decide +kernel, rfl⟩
theorem eX2_isUnfit_24 : DJ mX2_isUnfit 24 .goto 28 27 := ⟨4, by decide +kernel, by decide, rfl⟩
theorem eX2_isUnfit_27 : DC mX2_isUnfit 27 (.iconst 0) 1 28 := ⟨by decide +kernel, rfl⟩
theorem eX2_isUnfit_28 : DC mX2_isUnfit 28 (.istore 5) 2 30 := ⟨by decide +kernel, rfl⟩
theorem eX2_isUnfit_30 : DC mX2_isUnfit 30 (.aload_n 0) 1 31 := ⟨by decide +kernel, rfl⟩
theorem eX2_isUnfit_31 : DC mX2_isUnfit 31 (.getfield 52) 3 34 := ⟨by decide +kernel, rfl⟩
theorem eX2_isUnfit_34 : DC mX2_isUnfit 34 (.iconst 1) 1 35 := ⟨by decide +kernel, rfl⟩
theorem eX2_isUnfit_35 : DJ mX2_isUnfit 35 (.if_icmp .ne) 43 38 := ⟨8, by decide +kernel, by decide, rfl⟩
theorem eX2_isUnfit_38 : DC mX2_isUnfit 38 (.iload 4) 2 40 := ⟨by decide +kernel, rfl⟩
theorem eX2_isUnfit_40 : DJ mX2_isUnfit 40 (.ifCond .eq) 56 43 := ⟨16, by decide +kernel, by decide, rfl⟩
theorem eX2_isUnfit_43 : DC mX2_isUnfit 43 (.aload_n 0) 1 44 := ⟨by decide +kernel, rfl⟩
theorem eX2_isUnfit_44 : DC mX2_isUnfit 44 (.getfield 52) 3 47 := ⟨by decide +kernel, rfl⟩
theorem eX2_isUnfit_47 : DC mX2_isUnfit 47 (.iconst 2) 1 48 := ⟨by decide +kernel, rfl⟩
theorem eX2_isUnfit_48 : DJ mX2_isUnfit 48 (.if_icmp .ne) 58 51 := ⟨10, by decide +kernel, by decide, rfl⟩
theorem eX2_isUnfit_51 : DC mX2_isUnfit 51 (.iload 5) 2 53 := ⟨by decide +kernel, rfl⟩
theorem eX2_isUnfit_53 : DJ mX2_isUnfit 53 (.ifCond .ne) 58 56 := ⟨5, by decide +kernel, by decide, rfl⟩
theorem eX2_isUnfit_56 : DC mX2_isUnfit 56 (.iconst 1) 1 57 := ⟨by decide +kernel, rfl⟩
theorem eX2_isUnfit_57 : DC mX2_isUnfit 57 .ireturn 1 58 := ⟨by decide +kernel, rfl⟩
theorem eX2_isUnfit_58 : DC mX2_isUnfit 58 (.aload_n 0) 1 59 := ⟨by decide +kernel, rfl⟩
theorem eX2_isUnfit_59 : DC mX2_isUnfit 59 (.getfield 40) 3 62 := ⟨by decide +kernel, rfl⟩
theorem eX2_isUnfit_62 : DC mX2_isUnfit 62 (.iconst 3) 1 63 := ⟨by decide +kernel, rfl⟩
theorem eX2_isUnfit_63 : DJ mX2_isUnfit 63 (.if_icmp .ne) 71 66 := ⟨8, by decide +kernel, by decide, rfl⟩
theorem eX2_isUnfit_66 : DC mX2_isUnfit 66 (.iload 4) 2 68 := ⟨by decide +kernel, rfl⟩
theorem eX2_isUnfit_68 : DJ mX2_isUnfit 68 (.ifCond .ne) 84 71 := ⟨16, by decide +kernel, by decide, rfl⟩
theorem eX2_isUnfit_71 : DC mX2_isUnfit 71 (.aload_n 0) 1 72 := ⟨by decide +kernel, rfl⟩
theorem eX2_isUnfit_72 : DC mX2_isUnfit 72 (.getfield 40) 3 75 := ⟨by decide +kernel, rfl⟩
theorem eX2_isUnfit_75 : DC mX2_isUnfit 75 (.iconst 2) 1 76 := ⟨by decide +kernel, rfl⟩
theorem eX2_isUnfit_76 : DJ mX2_isUnfit 76 (.if_icmp .ne) 86 79 := ⟨10, by decide +kernel, by decide, rfl⟩
theorem eX2_isUnfit_79 : DC mX2_isUnfit 79 (.iload 5) 2 81 := ⟨by decide +kernel, rfl⟩
theorem eX2_isUnfit_81 : DJ mX2_isUnfit 81 (.ifCond .eq) 86 84 := ⟨5, by decide +kernel, by decide, rfl⟩
theorem eX2_isUnfit_84 : DC mX2_isUnfit 84 (.iconst 1) 1 85 := ⟨by decide +kernel, rfl⟩
theorem eX2_isUnfit_85 : DC mX2_isUnfit 85 .ireturn 1 86 := ⟨by decide +kernel, rfl⟩
theorem eX2_isUnfit_86 : DC mX2_isUnfit 86 (.aload_n 0) 1 87 := ⟨by decide +kernel, rfl⟩
theorem eX2_isUnfit_87 : DC mX2_isUnfit 87 (.getfield 40) 3 90 := ⟨by decide +kernel, rfl⟩
theorem eX2_isUnfit_90 : DC mX2_isUnfit 90 (.iconst 4) 1 91 := ⟨by decide +kernel, rfl⟩
theorem eX2_isUnfit_91 : DJ mX2_isUnfit 91 (.if_icmp .ne) 117 94 := ⟨26, by decide +kernel, by decide, rfl⟩
theorem eX2_isUnfit_94 : DC mX2_isUnfit 94 (.iload 4) 2 96 := ⟨by decide +kernel, rfl⟩
theorem eX2_isUnfit_96 : DJ mX2_isUnfit 96 (.ifCond .eq) 117 99 := ⟨21, by decide +kernel, by decide, rfl⟩
theorem eX2_isUnfit_99 : DC mX2_isUnfit 99 (.iload_n 2) 1 100 := ⟨by decide +kernel, rfl⟩
theorem eX2_isUnfit_100 : DC mX2_isUnfit 100 (.iload_n 3) 1 101 := ⟨by decide +kernel, rfl⟩
theorem eX2_isUnfit_101 : DC mX2_isUnfit 101 (.sipush 1320) 3 104 := ⟨by decide +kernel, rfl⟩
theorem eX2_isUnfit_104 : DC mX2_isUnfit 104 (.sipush 1560) 3 107 := ⟨by decide +kernel, rfl⟩
theorem eX2_isUnfit_107 : DC mX2_isUnfit 107 (.invokestatic 100) 3 110 := ⟨by decide +kernel, rfl⟩
theorem eX2_isUnfit_110 : DJ mX2_isUnfit 110 (.ifCond .eq) 117 113 := ⟨7, by decide +kernel, by decide, rfl⟩
theorem eX2_isUnfit_113 : DC mX2_isUnfit 113 (.iconst 1) 1 114 := ⟨by decide +kernel, rfl⟩
theorem eX2_isUnfit_114 : DJ mX2_isUnfit 114 .goto 118 117 := ⟨4, by decide +kernel, by decide, rfl⟩
theorem eX2_isUnfit_117 : DC mX2_isUnfit 117 (.iconst 0) 1 118 := ⟨by decide +kernel, rfl⟩
theorem eX2_isUnfit_118 : DC mX2_isUnfit 118 .ireturn 1 119 := ⟨by decide +kernel, rfl⟩
theorem eX2_firstNeighbour_0 : DC mX2_firstNeighbour 0 (.iconst 0) 1 1 := ⟨by decide +kernel, rfl⟩
theorem eX2_firstNeighbour_1 : DC mX2_firstNeighbour 1 (.istore 4) 2 3 := ⟨by decide +kernel, rfl⟩
theorem eX2_firstNeighbour_3 : DC mX2_firstNeighbour 3 (.iload 4) 2 5 := ⟨by decide +kernel, rfl⟩
theorem eX2_firstNeighbour_5 : DC mX2_firstNeighbour 5 (.aload_n 0) 1 6 := ⟨by decide +kernel, rfl⟩
theorem eX2_firstNeighbour_6 : DC mX2_firstNeighbour 6 (.getfield 19) 3 9 := ⟨by decide +kernel, rfl⟩
theorem eX2_firstNeighbour_9 : DC mX2_firstNeighbour 9 (.getfield 104) 3 12 := ⟨by decide +kernel, rfl⟩
theorem eX2_firstNeighbour_12 : DJ mX2_firstNeighbour 12 (.if_icmp .ge) 45 15 := ⟨33, by decide +kernel, by decide, rfl⟩
theorem eX2_firstNeighbour_15 : DC mX2_firstNeighbour 15 (.aload_n 0) 1 16 := ⟨by decide +kernel, rfl⟩
theorem eX2_firstNeighbour_16 : DC mX2_firstNeighbour 16 (.iload 4) 2 18 := ⟨by decide +kernel, rfl⟩
theorem eX2_firstNeighbour_18 : DC mX2_firstNeighbour 18 (.invokevirtual 107) 3 21 := ⟨by decide +kernel, rfl⟩
theorem eX2_firstNeighbour_21 : DJ mX2_firstNeighbour 21 (.ifCond .eq) 39 24 := ⟨18, by decide +kernel, by decide, rfl⟩
theorem eX2_firstNeighbour_24 : DC mX2_firstNeighbour 24 (.aload_n 0) 1 25 := ⟨by decide +kernel, rfl⟩
theorem eX2_firstNeighbour_25 : DC mX2_firstNeighbour 25 (.iload 4) 2 27 := ⟨by decide +kernel, rfl⟩
theorem eX2_firstNeighbour_27 : DC mX2_firstNeighbour 27 (.iload_n 1) 1 28 := ⟨by decide +kernel, rfl⟩
theorem eX2_firstNeighbour_28 : DC mX2_firstNeighbour 28 (.iload_n 2) 1 29 := ⟨by decide +kernel, rfl⟩
theorem eX2_firstNeighbour_29 : DC mX2_firstNeighbour 29 (.iload_n 3) 1 30 := ⟨by decide +kernel, rfl⟩
theorem eX2_firstNeighbour_30 : DC mX2_firstNeighbour 30 (.invokevirtual 110) 3 33 := ⟨by decide +kernel, rfl⟩
theorem eX2_firstNeighbour_33 : DJ mX2_firstNeighbour 33 (.ifCond .eq) 39 36 := ⟨6, by decide +kernel, by decide, rfl⟩
theorem eX2_firstNeighbour_36 : DC mX2_firstNeighbour 36 (.iload 4) 2 38 := ⟨by decide +kernel, rfl⟩
theorem eX2_firstNeighbour_38 : DC mX2_firstNeighbour 38 .ireturn 1 39 := ⟨by decide +kernel, rfl⟩
theorem eX2_firstNeighbour_39 : DC mX2_firstNeighbour 39 (.iinc 4 1) 3 42 := ⟨by decide +kernel, rfl⟩
theorem eX2_firstNeighbour_42 : DJ mX2_firstNeighbour 42 .goto 3 45 := ⟨(-39), by decide +kernel, by decide, rfl⟩
theorem eX2_firstNeighbour_45 : DC mX2_firstNeighbour 45 (.iconst (-1)) 1 46 := ⟨by decide +kernel, rfl⟩
theorem eX2_firstNeighbour_46 : DC mX2_firstNeighbour 46 .ireturn 1 47 := ⟨by decide +kernel, rfl⟩
theorem eX2_isNeighbour_0 : DC mX2_isNeighbour 0 (.iconst 0) 1 1 := ⟨by decide +kernel, rfl⟩
theorem eX2_isNeighbour_1 : DC mX2_isNeighbour 1 (.istore 5) 2 3 := ⟨by decide +kernel, rfl⟩
theorem eX2_isNeighbour_3 : DC mX2_isNeighbour 3 (.iload 5) 2 5 := ⟨by decide +kernel, rfl⟩
theorem eX2_isNeighbour_5 : DC mX2_isNeighbour 5 (.aload_n 0) 1 6 := ⟨by decide +kernel, rfl⟩
theorem eX2_isNeighbour_6 : DC mX2_isNeighbour 6 (.getfield 19) 3 9 := ⟨by decide +kernel, rfl⟩
theorem eX2_isNeighbour_9 : DC mX2_isNeighbour 9 (.getfield 113) 3 12 := ⟨by decide +kernel, rfl⟩
theorem eX2_isNeighbour_12 : DC mX2_isNeighbour 12 (.iload_n 1) 1 13 := ⟨by decide +kernel, rfl⟩
theorem eX2_isNeighbour_13 : DC mX2_isNeighbour 13 .iaload 1 14 := ⟨by decide +kernel, rfl⟩
theorem eX2_isNeighbour_14 : DJ mX2_isNeighbour 14 (.if_icmp .ge) 87 17 := ⟨73, by decide +kernel, by decide, rfl⟩
theorem eX2_isNeighbour_17 : DC mX2_isNeighbour 17 (.iload_n 3) 1 18 := ⟨by decide +kernel, rfl⟩
theorem eX2_isNeighbour_18 : DC mX2_isNeighbour 18 (.iload 4) 2 20 := ⟨by decide +kernel, rfl⟩
theorem eX2_isNeighbour_20 : DC mX2_isNeighbour 20 (.aload_n 0) 1 21 := ⟨by decide +kernel, rfl⟩
theorem eX2_isNeighbour_21 : DC mX2_isNeighbour 21 (.getfield 19) 3 24 := ⟨by decide +kernel, rfl⟩
theorem eX2_isNeighbour_24 : DC mX2_isNeighbour 24 (.iload_n 1) 1 25 := ⟨by decide +kernel, rfl⟩
theorem eX2_isNeighbour_25 : DC mX2_isNeighbour 25 (.iload 5) 2 27 := ⟨by decide +kernel, rfl⟩
theorem eX2_isNeighbour_27 : DC mX2_isNeighbour 27 (.invokevirtual 116) 3 30 := ⟨by decide +kernel, rfl⟩
theorem eX2_isNeighbour_30 : DC mX2_isNeighbour 30 (.aload_n 0) 1 31 := ⟨by decide +kernel, rfl⟩
theorem eX2_isNeighbour_31 : DC mX2_isNeighbour 31 (.getfield 19) 3 34 := ⟨by decide +kernel, rfl⟩
theorem eX2_isNeighbour_34 : DC mX2_isNeighbour 34 (.iload_n 1) 1 35 := ⟨by decide +kernel, rfl⟩
theorem eX2_isNeighbour_35 : DC mX2_isNeighbour 35 (.iload 5) 2 37 := ⟨by decide +kernel, rfl⟩
theorem eX2_isNeighbour_37 : DC mX2_isNeighbour 37 (.invokevirtual 120) 3 40 := ⟨by decide +kernel, rfl⟩
theorem eX2_isNeighbour_40 : DC mX2_isNeighbour 40 (.invokestatic 100) 3 43 := ⟨by decide +kernel, rfl⟩
theorem eX2_isNeighbour_43 : DJ mX2_isNeighbour 43 (.ifCond .eq) 81 46 := ⟨38, by decide +kernel, by decide, rfl⟩
theorem eX2_isNeighbour_46 : DC mX2_isNeighbour 46 (.aload_n 0) 1 47 := ⟨by decide +kernel, rfl⟩
theorem eX2_isNeighbour_47 : DC mX2_isNeighbour 47 (.getfield 15) 3 50 := ⟨by decide +kernel, rfl⟩
theorem eX2_isNeighbour_50 : DC mX2_isNeighbour 50 (.iload_n 2) 1 51 := ⟨by decide +kernel, rfl⟩
theorem eX2_isNeighbour_51 : DC mX2_isNeighbour 51 (.aload_n 0) 1 52 := ⟨by decide +kernel, rfl⟩
theorem eX2_isNeighbour_52 : DC mX2_isNeighbour 52 (.getfield 46) 3 55 := ⟨by decide +kernel, rfl⟩
theorem eX2_isNeighbour_55 : DC mX2_isNeighbour 55 (.aload_n 0) 1 56 := ⟨by decide +kernel, rfl⟩
theorem eX2_isNeighbour_56 : DC mX2_isNeighbour 56 (.getfield 19) 3 59 := ⟨by decide +kernel, rfl⟩
theorem eX2_isNeighbour_59 : DC mX2_isNeighbour 59 (.iload_n 1) 1 60 := ⟨by decide +kernel, rfl⟩
theorem eX2_isNeighbour_60 : DC mX2_isNeighbour 60 (.iload 5) 2 62 := ⟨by decide +kernel, rfl⟩
theorem eX2_isNeighbour_62 : DC mX2_isNeighbour 62 (.invokevirtual 123) 3 65 := ⟨by decide +kernel, rfl⟩
theorem eX2_isNeighbour_65 : DC mX2_isNeighbour 65 (.aload_n 0) 1 66 := ⟨by decide +kernel, rfl⟩
theorem eX2_isNeighbour_66 : DC mX2_isNeighbour 66 (.getfield 19) 3 69 := ⟨by decide +kernel, rfl⟩
theorem eX2_isNeighbour_69 : DC mX2_isNeighbour 69 (.iload_n 1) 1 70 := ⟨by decide +kernel, rfl⟩
theorem eX2_isNeighbour_70 : DC mX2_isNeighbour 70 (.invokevirtual 43) 3 73 := ⟨by decide +kernel, rfl⟩
theorem eX2_isNeighbour_73 : DC mX2_isNeighbour 73 (.invokevirtual 126) 3 76 := ⟨by decide +kernel, rfl⟩
theorem eX2_isNeighbour_76 : DJ mX2_isNeighbour 76 (.ifCond .eq) 81 79 := ⟨5, by decide +kernel, by decide, rfl⟩
theorem eX2_isNeighbour_79 : DC mX2_isNeighbour 79 (.iconst 1) 1 80 := ⟨by decide +kernel, rfl⟩
theorem eX2_isNeighbour_80 : DC mX2_isNeighbour 80 .ireturn 1 81 := ⟨by decide +kernel, rfl⟩
theorem eX2_isNeighbour_81 : DC mX2_isNeighbour 81 (.iinc 5 1) 3 84 := ⟨by decide +kernel, rfl⟩
theorem eX2_isNeighbour_84 : DJ mX2_isNeighbour 84 .goto 3 87 := ⟨(-81), by decide +kernel, by decide, rfl⟩
theorem eX2_isNeighbour_87 : DC mX2_isNeighbour 87 (.iconst 0) 1 88 := ⟨by decide +kernel, rfl⟩
theorem eX2_isNeighbour_88 : DC mX2_isNeighbour 88 .ireturn 1 89 := ⟨by decide +kernel, rfl⟩
theorem eX2_firstTaker_0 : DC mX2_firstTaker 0 (.iconst 0) 1 1 := ⟨by decide +kernel, rfl⟩
theorem eX2_firstTaker_1 : DC mX2_firstTaker 1 (.istore 4) 2 3 := ⟨by decide +kernel, rfl⟩
theorem eX2_firstTaker_3 : DC mX2_firstTaker 3 (.iload 4) 2 5 := ⟨by decide +kernel, rfl⟩
theorem eX2_firstTaker_5 : DC mX2_firstTaker 5 (.aload_n 0) 1 6 := ⟨by decide +kernel, rfl⟩
theorem eX2_firstTaker_6 : DC mX2_firstTaker 6 (.getfield 19) 3 9 := ⟨by decide +kernel, rfl⟩
theorem eX2_firstTaker_9 : DC mX2_firstTaker 9 (.getfield 104) 3 12 := ⟨by decide +kernel, rfl⟩
theorem eX2_firstTaker_12 : DJ mX2_firstTaker 12 (.if_icmp .ge) 97 15 := ⟨85, by decide +kernel, by decide, rfl⟩
theorem eX2_firstTaker_15 : DC mX2_firstTaker 15 (.iconst 0) 1 16 := ⟨by decide +kernel, rfl⟩
theorem eX2_firstTaker_16 : DC mX2_firstTaker 16 (.istore 5) 2 18 := ⟨by decide +kernel, rfl⟩
theorem eX2_firstTaker_18 : DC mX2_firstTaker 18 (.aload_n 0) 1 19 := ⟨by decide +kernel, rfl⟩
theorem eX2_firstTaker_19 : DC mX2_firstTaker 19 (.iload 4) 2 21 := ⟨by decide +kernel, rfl⟩
theorem eX2_firstTaker_21 : DC mX2_firstTaker 21 (.invokevirtual 107) 3 24 := ⟨by decide +kernel, rfl⟩
theorem eX2_firstTaker_24 : DJ mX2_firstTaker 24 (.ifCond .eq) 91 27 := ⟨67, by decide +kernel, by decide, rfl⟩
theorem eX2_firstTaker_27 : DC mX2_firstTaker 27 (.iload 5) 2 29 := ⟨by decide +kernel, rfl⟩
theorem eX2_firstTaker_29 : DC mX2_firstTaker 29 (.aload_n 0) 1 30 := ⟨by decide +kernel, rfl⟩
theorem eX2_firstTaker_30 : DC mX2_firstTaker 30 (.getfield 19) 3 33 := ⟨by decide +kernel, rfl⟩
theorem eX2_firstTaker_33 : DC mX2_firstTaker 33 (.getfield 113) 3 36 := ⟨by decide +kernel, rfl⟩
theorem eX2_firstTaker_36 : DC mX2_firstTaker 36 (.iload 4) 2 38 := ⟨by decide +kernel, rfl⟩
theorem eX2_firstTaker_38 : DC mX2_firstTaker 38 .iaload 1 39 := ⟨by decide +kernel, rfl⟩
theorem eX2_firstTaker_39 : DJ mX2_firstTaker 39 (.if_icmp .ge) 91 42 := ⟨52, by decide +kernel, by decide, rfl⟩
theorem eX2_firstTaker_42 : DC mX2_firstTaker 42 (.aload_n 0) 1 43 := ⟨by decide +kernel, rfl⟩
theorem eX2_firstTaker_43 : DC mX2_firstTaker 43 (.getfield 19) 3 46 := ⟨by decide +kernel, rfl⟩
theorem eX2_firstTaker_46 : DC mX2_firstTaker 46 (.iload 4) 2 48 := ⟨by decide +kernel, rfl⟩
theorem eX2_firstTaker_48 : DC mX2_firstTaker 48 (.iload 5) 2 50 := ⟨by decide +kernel, rfl⟩
theorem eX2_firstTaker_50 : DC mX2_firstTaker 50 (.iload_n 1) 1 51 := ⟨by decide +kernel, rfl⟩
theorem eX2_firstTaker_51 : DC mX2_firstTaker 51 (.iload_n 2) 1 52 := ⟨by decide +kernel, rfl⟩
theorem eX2_firstTaker_52 : DC mX2_firstTaker 52 (.iload_n 3) 1 53 := ⟨by decide +kernel, rfl⟩
theorem eX2_firstTaker_53 : DC mX2_firstTaker 53 (.invokevirtual 129) 3 56 := ⟨by decide +kernel, rfl⟩
theorem eX2_firstTaker_56 : DJ mX2_firstTaker 56 (.ifCond .eq) 85 59 := ⟨29, by decide +kernel, by decide, rfl⟩
theorem eX2_firstTaker_59 : DC mX2_firstTaker 59 (.aload_n 0) 1 60 := ⟨by decide +kernel, rfl⟩
theorem eX2_firstTaker_60 : DC mX2_firstTaker 60 (.iload 4) 2 62 := ⟨by decide +kernel, rfl⟩
theorem eX2_firstTaker_62 : DC mX2_firstTaker 62 (.iload_n 1) 1 63 := ⟨by decide +kernel, rfl⟩
theorem eX2_firstTaker_63 : DC mX2_firstTaker 63 (.invokevirtual 133) 3 66 := ⟨by decide +kernel, rfl⟩
theorem eX2_firstTaker_66 : DJ mX2_firstTaker 66 (.ifCond .eq) 82 69 := ⟨16, by decide +kernel, by decide, rfl⟩
theorem eX2_firstTaker_69 : DC mX2_firstTaker 69 (.aload_n 0) 1 70 := ⟨by decide +kernel, rfl⟩
theorem eX2_firstTaker_70 : DC mX2_firstTaker 70 (.iload 4) 2 72 := ⟨by decide +kernel, rfl⟩
theorem eX2_firstTaker_72 : DC mX2_firstTaker 72 (.iload 5) 2 74 := ⟨by decide +kernel, rfl⟩
theorem eX2_firstTaker_74 : DC mX2_firstTaker 74 (.iload_n 2) 1 75 := ⟨by decide +kernel, rfl⟩
theorem eX2_firstTaker_75 : DC mX2_firstTaker 75 (.iload_n 3) 1 76 := ⟨by decide +kernel, rfl⟩
theorem eX2_firstTaker_76 : DC mX2_firstTaker 76 (.invokevirtual 137) 3 79 := ⟨by decide +kernel, rfl⟩
theorem eX2_firstTaker_79 : DJ mX2_firstTaker 79 (.ifCond .eq) 85 82 := ⟨6, by decide +kernel, by decide, rfl⟩
theorem eX2_firstTaker_82 : DC mX2_firstTaker 82 (.iload 4) 2 84 := ⟨by decide +kernel, rfl⟩
theorem eX2_firstTaker_84 : DC mX2_firstTaker 84 .ireturn 1 85 := ⟨by decide +kernel, rfl⟩
theorem eX2_firstTaker_85 : DC mX2_firstTaker 85 (.iinc 5 1) 3 88 := ⟨by decide +kernel, rfl⟩
theorem eX2_firstTaker_88 : DJ mX2_firstTaker 88 .goto 18 91 := ⟨(-70), by decide +kernel, by decide, rfl⟩
theorem eX2_firstTaker_91 : DC mX2_firstTaker 91 (.iinc 4 1) 3 94 := ⟨by decide +kernel, rfl⟩
theorem eX2_firstTaker_94 : DJ mX2_firstTaker 94 .goto 3 97 := ⟨(-91), by decide +kernel, by decide, rfl⟩
theorem eX2_firstTaker_97 : DC mX2_firstTaker 97 (.iconst (-1)) 1 98 := ⟨by decide +kernel, rfl⟩
theorem eX2_firstTaker_98 : DC mX2_firstTaker 98 .ireturn 1 99 := ⟨by decide +kernel, rfl⟩
theorem eX2_mayShare_0 : DC mX2_mayShare 0 (.aload_n 0) 1 1 := ⟨by decide +kernel, rfl⟩
theorem eX2_mayShare_1 : DC mX2_mayShare 1 (.getfield 15) 3 4 := ⟨by decide +kernel, rfl⟩
theorem eX2_mayShare_4 : DC mX2_mayShare 4 (.iload_n 2) 1 5 := ⟨by decide +kernel, rfl⟩
theorem eX2_mayShare_5 : DC mX2_mayShare 5 (.invokevirtual 140) 3 8 := ⟨by decide +kernel, rfl⟩
theorem eX2_mayShare_8 : DC mX2_mayShare 8 (.istore_n 3) 1 9 := ⟨by decide +kernel, rfl⟩
theorem eX2_mayShare_9 : DC mX2_mayShare 9 (.aload_n 0) 1 10 := ⟨by decide +kernel, rfl⟩
theorem eX2_mayShare_10 : DC mX2_mayShare 10 (.getfield 15) 3 13 := ⟨by decide +kernel, rfl⟩
theorem eX2_mayShare_13 : DC mX2_mayShare 13 (.getfield 77) 3 16 := ⟨by decide +kernel, rfl⟩
theorem eX2_mayShare_16 : DC mX2_mayShare 16 (.iload_n 2) 1 17 := ⟨by decide +kernel, rfl⟩
theorem eX2_mayShare_17 : DC mX2_mayShare 17 .iaload 1 18 := ⟨by decide +kernel, rfl⟩
theorem eX2_mayShare_18 : DC mX2_mayShare 18 (.iconst 3) 1 19 := ⟨by decide +kernel, rfl⟩
theorem eX2_mayShare_19 : DJ mX2_mayShare 19 (.if_icmp .ne) 46 22 := ⟨27, by decide +kernel, by decide, rfl⟩
theorem eX2_mayShare_22 : DC mX2_mayShare 22 (.aload_n 0) 1 23 := ⟨by decide +kernel, rfl⟩
theorem eX2_mayShare_23 : DC mX2_mayShare 23 (.getfield 46) 3 26 := ⟨by decide +kernel, rfl⟩
theorem eX2_mayShare_26 : DC mX2_mayShare 26 (.iload_n 3) 1 27 := ⟨by decide +kernel, rfl⟩
theorem eX2_mayShare_27 : DJ mX2_mayShare 27 (.if_icmp .gt) 46 30 := ⟨19, by decide +kernel, by decide, rfl⟩
theorem eX2_mayShare_30 : DC mX2_mayShare 30 (.aload_n 0) 1 31 := ⟨by decide +kernel, rfl⟩
theorem eX2_mayShare_31 : DC mX2_mayShare 31 (.getfield 19) 3 34 := ⟨by decide +kernel, rfl⟩
theorem eX2_mayShare_34 : DC mX2_mayShare 34 (.iload_n 1) 1 35 := ⟨by decide +kernel, rfl⟩
theorem eX2_mayShare_35 : DC mX2_mayShare 35 (.invokevirtual 43) 3 38 := ⟨by decide +kernel, rfl⟩
theorem eX2_mayShare_38 : DC mX2_mayShare 38 (.iload_n 3) 1 39 := ⟨by decide +kernel, rfl⟩
theorem eX2_mayShare_39 : DJ mX2_mayShare 39 (.if_icmp .gt) 46 42 := ⟨7, by decide +kernel, by decide, rfl⟩
theorem eX2_mayShare_42 : DC mX2_mayShare 42 (.iconst 1) 1 43 := ⟨by decide +kernel, rfl⟩
theorem eX2_mayShare_43 : DJ mX2_mayShare 43 .goto 47 46 := ⟨4, by decide +kernel, by decide, rfl⟩
theorem eX2_mayShare_46 : DC mX2_mayShare 46 (.iconst 0) 1 47 := ⟨by decide +kernel, rfl⟩
theorem eX2_mayShare_47 : DC mX2_mayShare 47 .ireturn 1 48 := ⟨by decide +kernel, rfl⟩
theorem eX2_isThirdThere_0 : DC mX2_isThirdThere 0 (.aload_n 0) 1 1 := ⟨by decide +kernel, rfl⟩
theorem eX2_isThirdThere_1 : DC mX2_isThirdThere 1 (.getfield 19) 3 4 := ⟨by decide +kernel, rfl⟩
theorem eX2_isThirdThere_4 : DC mX2_isThirdThere 4 (.iload_n 1) 1 5 := ⟨by decide +kernel, rfl⟩
theorem eX2_isThirdThere_5 : DC mX2_isThirdThere 5 (.iload_n 2) 1 6 := ⟨by decide +kernel, rfl⟩
theorem eX2_isThirdThere_6 : DC mX2_isThirdThere 6 (.invokevirtual 123) 3 9 := ⟨by decide +kernel, rfl⟩
theorem eX2_isThirdThere_9 : DC mX2_isThirdThere 9 (.istore 5) 2 11 := ⟨by decide +kernel, rfl⟩
theorem eX2_isThirdThere_11 : DC mX2_isThirdThere 11 (.iload_n 3) 1 12 := ⟨by decide +kernel, rfl⟩
theorem eX2_isThirdThere_12 : DC mX2_isThirdThere 12 (.aload_n 0) 1 13 := ⟨by decide +kernel, rfl⟩
theorem eX2_isThirdThere_13 : DC mX2_isThirdThere 13 (.getfield 19) 3 16 := ⟨by decide +kernel, rfl⟩
theorem eX2_isThirdThere_16 : DC mX2_isThirdThere 16 (.iload_n 1) 1 17 := ⟨by decide +kernel, rfl⟩
theorem eX2_isThirdThere_17 : DC mX2_isThirdThere 17 (.iload_n 2) 1 18 := ⟨by decide +kernel, rfl⟩
theorem eX2_isThirdThere_18 : DC mX2_isThirdThere 18 (.invokevirtual 116) 3 21 := ⟨by decide +kernel, rfl⟩
theorem eX2_isThirdThere_21 : DC mX2_isThirdThere 21 (.invokestatic 143) 3 24 := ⟨by decide +kernel, rfl⟩
theorem eX2_isThirdThere_24 : DC mX2_isThirdThere 24 (.istore 6) 2 26 := ⟨by decide +kernel, rfl⟩
theorem eX2_isThirdThere_26 : DC mX2_isThirdThere 26 (.iload 4) 2 28 := ⟨by decide +kernel, rfl⟩
theorem eX2_isThirdThere_28 : DC mX2_isThirdThere 28 (.aload_n 0) 1 29 := ⟨by decide +kernel, rfl⟩
theorem eX2_isThirdThere_29 : DC mX2_isThirdThere 29 (.getfield 19) 3 32 := ⟨by decide +kernel, rfl⟩
theorem eX2_isThirdThere_32 : DC mX2_isThirdThere 32 (.iload_n 1) 1 33 := ⟨by decide +kernel, rfl⟩
theorem eX2_isThirdThere_33 : DC mX2_isThirdThere 33 (.iload_n 2) 1 34 := ⟨by decide +kernel, rfl⟩
theorem eX2_isThirdThere_34 : DC mX2_isThirdThere 34 (.invokevirtual 120) 3 37 := ⟨by decide +kernel, rfl⟩
theorem eX2_isThirdThere_37 : DC mX2_isThirdThere 37 (.invokestatic 148) 3 40 := ⟨by decide +kernel, rfl⟩
theorem eX2_isThirdThere_40 : DC mX2_isThirdThere 40 (.istore 7) 2 42 := ⟨by decide +kernel, rfl⟩
theorem eX2_isThirdThere_42 : DC mX2_isThirdThere 42 (.iconst 0) 1 43 := ⟨by decide +kernel, rfl⟩
theorem eX2_isThirdThere_43 : DC mX2_isThirdThere 43 (.istore 8) 2 45 := ⟨by decide +kernel, rfl⟩
theorem eX2_isThirdThere_45 : DC mX2_isThirdThere 45 (.iload 8) 2 47 := ⟨by decide +kernel, rfl⟩
theorem eX2_isThirdThere_47 : DC mX2_isThirdThere 47 (.aload_n 0) 1 48 := ⟨by decide +kernel, rfl⟩
theorem eX2_isThirdThere_48 : DC mX2_isThirdThere 48 (.getfield 19) 3 51 := ⟨by decide +kernel, rfl⟩
theorem eX2_isThirdThere_51 : DC mX2_isThirdThere 51 (.getfield 104) 3 54 := ⟨by decide +kernel, rfl⟩
theorem eX2_isThirdThere_54 : DJ mX2_isThirdThere 54 (.if_icmp .ge) 124 57 := ⟨70, by decide +kernel, by decide, rfl⟩
theorem eX2_isThirdThere_57 : DC mX2_isThirdThere 57 (.iconst 0) 1 58 := ⟨by decide +kernel, rfl⟩
theorem eX2_isThirdThere_58 : DC mX2_isThirdThere 58 (.istore 9) 2 60 := ⟨by decide +kernel, rfl⟩
theorem eX2_isThirdThere_60 : DC mX2_isThirdThere 60 (.iload 8) 2 62 := ⟨by decide +kernel, rfl⟩
theorem eX2_isThirdThere_62 : DC mX2_isThirdThere 62 (.iload_n 1) 1 63 := ⟨by decide +kernel, rfl⟩
theorem eX2_isThirdThere_63 : DJ mX2_isThirdThere 63 (.if_icmp .eq) 118 66 := ⟨55, by decide +kernel, by decide, rfl⟩
theorem eX2_isThirdThere_66 : DC mX2_isThirdThere 66 (.aload_n 0) 1 67 := ⟨by decide +kernel, rfl⟩
theorem eX2_isThirdThere_67 : DC mX2_isThirdThere 67 (.iload 8) 2 69 := ⟨by decide +kernel, rfl⟩
theorem eX2_isThirdThere_69 : DC mX2_isThirdThere 69 (.invokevirtual 107) 3 72 := ⟨by decide +kernel, rfl⟩
theorem eX2_isThirdThere_72 : DJ mX2_isThirdThere 72 (.ifCond .eq) 118 75 := ⟨46, by decide +kernel, by decide, rfl⟩
theorem eX2_isThirdThere_75 : DC mX2_isThirdThere 75 (.iload 9) 2 77 := ⟨by decide +kernel, rfl⟩
theorem eX2_isThirdThere_77 : DC mX2_isThirdThere 77 (.aload_n 0) 1 78 := ⟨by decide +kernel, rfl⟩
theorem eX2_isThirdThere_78 : DC mX2_isThirdThere 78 (.getfield 19) 3 81 := ⟨by decide +kernel, rfl⟩
theorem eX2_isThirdThere_81 : DC mX2_isThirdThere 81 (.getfield 113) 3 84 := ⟨by decide +kernel, rfl⟩
theorem eX2_isThirdThere_84 : DC mX2_isThirdThere 84 (.iload 8) 2 86 := ⟨by decide +kernel, rfl⟩
theorem eX2_isThirdThere_86 : DC mX2_isThirdThere 86 .iaload 1 87 := ⟨by decide +kernel, rfl⟩
theorem eX2_isThirdThere_87 : DJ mX2_isThirdThere 87 (.if_icmp .ge) 118 90 := ⟨31, by decide +kernel, by decide, rfl⟩
theorem eX2_isThirdThere_90 : DC mX2_isThirdThere 90 (.aload_n 0) 1 91 := ⟨by decide +kernel, rfl⟩
theorem eX2_isThirdThere_91 : DC mX2_isThirdThere 91 (.getfield 19) 3 94 := ⟨by decide +kernel, rfl⟩
theorem eX2_isThirdThere_94 : DC mX2_isThirdThere 94 (.iload 8) 2 96 := ⟨by decide +kernel, rfl⟩
theorem eX2_isThirdThere_96 : DC mX2_isThirdThere 96 (.iload 9) 2 98 := ⟨by decide +kernel, rfl⟩
theorem eX2_isThirdThere_98 : DC mX2_isThirdThere 98 (.iload 5) 2 100 := ⟨by decide +kernel, rfl⟩
theorem eX2_isThirdThere_100 : DC mX2_isThirdThere 100 (.iload 6) 2 102 := ⟨by decide +kernel, rfl⟩
theorem eX2_isThirdThere_102 : DC mX2_isThirdThere 102 (.iload 7) 2 104 := ⟨by decide +kernel, rfl⟩
theorem eX2_isThirdThere_104 : DC mX2_isThirdThere 104 (.invokevirtual 129) 3 107 := ⟨by decide +kernel, rfl⟩
theorem eX2_isThirdThere_107 : DJ mX2_isThirdThere 107 (.ifCond .eq) 112 110 := ⟨5, by decide +kernel, by decide, rfl⟩
theorem eX2_isThirdThere_110 : DC mX2_isThirdThere 110 (.iconst 1) 1 111 := ⟨by decide +kernel, rfl⟩
theorem eX2_isThirdThere_111 : DC mX2_isThirdThere 111 .ireturn 1 112 := ⟨by decide +kernel, rfl⟩
theorem eX2_isThirdThere_112 : DC mX2_isThirdThere 112 (.iinc 9 1) 3 115 := ⟨by decide +kernel, rfl⟩
theorem eX2_isThirdThere_115 : DJ mX2_isThirdThere 115 .goto 60 118 := ⟨(-55), by decide +kernel, by decide, rfl⟩
theorem eX2_isThirdThere_118 : DC mX2_isThirdThere 118 (.iinc 8 1) 3 121 := ⟨by decide +kernel, rfl⟩
theorem eX2_isThirdThere_121 : DJ mX2_isThirdThere 121 .goto 45 124 := ⟨(-76), by decide +kernel, by decide, rfl⟩
theorem eX2_isThirdThere_124 : DC mX2_isThirdThere 124 (.iconst 0) 1 125 := ⟨by decide +kernel, rfl⟩
theorem eX2_isThirdThere_125 : DC mX2_isThirdThere 125 .ireturn 1 126 := ⟨by decide +kernel, rfl⟩
theorem eX2_isOther_0 : DC mX2_isOther 0 (.iload_n 1) 1 1 := ⟨by decide +kernel, rfl⟩
theorem eX2_isOther_1 : DC mX2_isOther 1 (.aload_n 0) 1 2 := ⟨by decide +kernel, rfl⟩
theorem eX2_isOther_2 : DC mX2_isOther 2 (.getfield 33) 3 5 := ⟨by decide +kernel, rfl⟩
theorem eX2_isOther_5 : DJ mX2_isOther 5 (.if_icmp .eq) 21 8 := ⟨16, by decide +kernel, by decide, rfl⟩
theorem eX2_isOther_8 : DC mX2_isOther 8 (.aload_n 0) 1 9 := ⟨by decide +kernel, rfl⟩
theorem eX2_isOther_9 : DC mX2_isOther 9 (.getfield 9) 3 12 := ⟨by decide +kernel, rfl⟩
theorem eX2_isOther_12 : DC mX2_isOther 12 (.iload_n 1) 1 13 := ⟨by decide +kernel, rfl⟩
theorem eX2_isOther_13 : DC mX2_isOther 13 .baload 1 14 := ⟨by decide +kernel, rfl⟩
theorem eX2_isOther_14 : DJ mX2_isOther 14 (.ifCond .ne) 21 17 := ⟨7, by decide +kernel, by decide, rfl⟩
theorem eX2_isOther_17 : DC mX2_isOther 17 (.iconst 1) 1 18 := ⟨by decide +kernel, rfl⟩
theorem eX2_isOther_18 : DJ mX2_isOther 18 .goto 22 21 := ⟨4, by decide +kernel, by decide, rfl⟩
theorem eX2_isOther_21 : DC mX2_isOther 21 (.iconst 0) 1 22 := ⟨by decide +kernel, rfl⟩
theorem eX2_isOther_22 : DC mX2_isOther 22 .ireturn 1 23 := ⟨by decide +kernel, rfl⟩
theorem eX3_empty_0 : DC mX3_empty 0 (.aload_n 0) 1 1 := ⟨by decide +kernel, rfl⟩
theorem eX3_empty_1 : DC mX3_empty 1 (.iconst 0) 1 2 := ⟨by decide +kernel, rfl⟩
theorem eX3_empty_2 : DC mX3_empty 2 (.putfield 15) 3 5 := ⟨by decide +kernel, rfl⟩
theorem eX3_empty_5 : DC mX3_empty 5 .return_ 1 6 := ⟨by decide +kernel, rfl⟩
theorem eX3_memberAt_0 : DC mX3_memberAt 0 (.iload_n 1) 1 1 := ⟨by decide +kernel, rfl⟩
theorem eX3_memberAt_1 : DJ mX3_memberAt 1 (.ifCond .lt) 21 4 := ⟨20, by decide +kernel, by decide, rfl⟩
theorem eX3_memberAt_4 : DC mX3_memberAt 4 (.iload_n 1) 1 5 := ⟨by decide +kernel, rfl⟩
theorem eX3_memberAt_5 : DC mX3_memberAt 5 (.aload_n 0) 1 6 := ⟨by decide +kernel, rfl⟩
theorem eX3_memberAt_6 : DC mX3_memberAt 6 (.getfield 15) 3 9 := ⟨by decide +kernel, rfl⟩
theorem eX3_memberAt_9 : DJ mX3_memberAt 9 (.if_icmp .ge) 21 12 := ⟨12, by decide +kernel, by decide, rfl⟩
theorem eX3_memberAt_12 : DC mX3_memberAt 12 (.aload_n 0) 1 13 := ⟨by decide +kernel, rfl⟩
theorem eX3_memberAt_13 : DC mX3_memberAt 13 (.getfield 9) 3 16 := ⟨by decide +kernel, rfl⟩
theorem eX3_memberAt_16 : DC mX3_memberAt 16 (.iload_n 1) 1 17 := ⟨by decide +kernel, rfl⟩
theorem eX3_memberAt_17 : DC mX3_memberAt 17 .iaload 1 18 := ⟨by decide +kernel, rfl⟩
theorem eX3_memberAt_18 : DJ mX3_memberAt 18 .goto 22 21 := ⟨4, by decide +kernel, by decide, rfl⟩
theorem eX3_memberAt_21 : DC mX3_memberAt 21 (.iconst (-1)) 1 22 := ⟨by decide +kernel, rfl⟩
theorem eX3_memberAt_22 : DC mX3_memberAt 22 .ireturn 1 23 := ⟨by decide +kernel, rfl⟩
theorem eX3_join_0 : DC mX3_join 0 (.aload_n 0) 1 1 := ⟨by decide +kernel, rfl⟩
theorem eX3_join_1 : DC mX3_join 1 (.getfield 15) 3 4 := ⟨by decide +kernel, rfl⟩
theorem eX3_join_4 : DC mX3_join 4 (.bipush 40) 2 6 := ⟨by decide +kernel, rfl⟩
theorem eX3_join_6 : DJ mX3_join 6 (.if_icmp .ge) 29 9 := ⟨23, by decide +kernel, by decide, rfl⟩
theorem eX3_join_9 : DC mX3_join 9 (.aload_n 0) 1 10 := ⟨by decide +kernel, rfl⟩
theorem eX3_join_10 : DC mX3_join 10 (.getfield 9) 3 13 := ⟨by decide +kernel, rfl⟩
theorem eX3_join_13 : DC mX3_join 13 (.aload_n 0) 1 14 := ⟨by decide +kernel, rfl⟩
theorem eX3_join_14 : DC mX3_join 14 (.getfield 15) 3 17 := ⟨by decide +kernel, rfl⟩
theorem eX3_join_17 : DC mX3_join 17 (.iload_n 1) 1 18 := ⟨by decide +kernel, rfl⟩
theorem eX3_join_18 : DC mX3_join 18 .iastore 1 19 := ⟨by decide +kernel, rfl⟩
theorem eX3_join_19 : DC mX3_join 19 (.aload_n 0) 1 20 := ⟨by decide +kernel, rfl⟩
theorem eX3_join_20 : DC mX3_join 20 .dup 1 21 := ⟨by decide +kernel, rfl⟩
theorem eX3_join_21 : DC mX3_join 21 (.getfield 15) 3 24 := ⟨by decide +kernel, rfl⟩
theorem eX3_join_24 : DC mX3_join 24 (.iconst 1) 1 25 := ⟨by decide +kernel, rfl⟩
theorem eX3_join_25 : DC mX3_join 25 .iadd 1 26 := ⟨by decide +kernel, rfl⟩
theorem eX3_join_26 : DC mX3_join 26 (.putfield 15) 3 29 := ⟨by decide +kernel, rfl⟩
theorem eX3_join_29 : DC mX3_join 29 .return_ 1 30 := ⟨by decide +kernel, rfl⟩
theorem eX3_joinByIn_0 : DC mX3_joinByIn 0 (.aload_n 0) 1 1 := ⟨by decide +kernel, rfl⟩
theorem eX3_joinByIn_1 : DC mX3_joinByIn 1 (.getfield 15) 3 4 := ⟨by decide +kernel, rfl⟩
theorem eX3_joinByIn_4 : DC mX3_joinByIn 4 (.bipush 40) 2 6 := ⟨by decide +kernel, rfl⟩
theorem eX3_joinByIn_6 : DJ mX3_joinByIn 6 (.if_icmp .lt) 10 9 := ⟨4, by decide +kernel, by decide, rfl⟩
theorem eX3_joinByIn_9 : DC mX3_joinByIn 9 .return_ 1 10 := ⟨by decide +kernel, rfl⟩
theorem eX3_joinByIn_10 : DC mX3_joinByIn 10 (.aload_n 0) 1 11 := ⟨by decide +kernel, rfl⟩
theorem eX3_joinByIn_11 : DC mX3_joinByIn 11 (.getfield 15) 3 14 := ⟨by decide +kernel, rfl⟩
theorem eX3_joinByIn_14 : DC mX3_joinByIn 14 (.istore_n 3) 1 15 := ⟨by decide +kernel, rfl⟩
theorem eX3_joinByIn_15 : DC mX3_joinByIn 15 (.iload_n 3) 1 16 := ⟨by decide +kernel, rfl⟩
theorem eX3_joinByIn_16 : DJ mX3_joinByIn 16 (.ifCond .le) 59 19 := ⟨43, by decide +kernel, by decide, rfl⟩
theorem eX3_joinByIn_19 : DC mX3_joinByIn 19 (.aload_n 2) 1 20 := ⟨by decide +kernel, rfl⟩
theorem eX3_joinByIn_20 : DC mX3_joinByIn 20 (.aload_n 0) 1 21 := ⟨by decide +kernel, rfl⟩
theorem eX3_joinByIn_21 : DC mX3_joinByIn 21 (.getfield 9) 3 24 := ⟨by decide +kernel, rfl⟩
theorem eX3_joinByIn_24 : DC mX3_joinByIn 24 (.iload_n 3) 1 25 := ⟨by decide +kernel, rfl⟩
theorem eX3_joinByIn_25 : DC mX3_joinByIn 25 (.iconst 1) 1 26 := ⟨by decide +kernel, rfl⟩
theorem eX3_joinByIn_26 : DC mX3_joinByIn 26 .isub 1 27 := ⟨by decide +kernel, rfl⟩
theorem eX3_joinByIn_27 : DC mX3_joinByIn 27 .iaload 1 28 := ⟨by decide +kernel, rfl⟩
theorem eX3_joinByIn_28 : DC mX3_joinByIn 28 (.invokevirtual 19) 3 31 := ⟨by decide +kernel, rfl⟩
theorem eX3_joinByIn_31 : DC mX3_joinByIn 31 (.aload_n 2) 1 32 := ⟨by decide +kernel, rfl⟩
theorem eX3_joinByIn_32 : DC mX3_joinByIn 32 (.iload_n 1) 1 33 := ⟨by decide +kernel, rfl⟩
theorem eX3_joinByIn_33 : DC mX3_joinByIn 33 (.invokevirtual 19) 3 36 := ⟨by decide +kernel, rfl⟩
theorem eX3_joinByIn_36 : DJ mX3_joinByIn 36 (.if_icmp .le) 59 39 := ⟨23, by decide +kernel, by decide, rfl⟩
theorem eX3_joinByIn_39 : DC mX3_joinByIn 39 (.aload_n 0) 1 40 := ⟨by decide +kernel, rfl⟩
theorem eX3_joinByIn_40 : DC mX3_joinByIn 40 (.getfield 9) 3 43 := ⟨by decide +kernel, rfl⟩
theorem eX3_joinByIn_43 : DC mX3_joinByIn 43 (.iload_n 3) 1 44 := ⟨by decide +kernel, rfl⟩
theorem eX3_joinByIn_44 : DC mX3_joinByIn 44 (.aload_n 0) 1 45 := ⟨by decide +kernel, rfl⟩
theorem eX3_joinByIn_45 : DC mX3_joinByIn 45 (.getfield 9) 3 48 := ⟨by decide +kernel, rfl⟩
theorem eX3_joinByIn_48 : DC mX3_joinByIn 48 (.iload_n 3) 1 49 := ⟨by decide +kernel, rfl⟩
theorem eX3_joinByIn_49 : DC mX3_joinByIn 49 (.iconst 1) 1 50 := ⟨by decide +kernel, rfl⟩
theorem eX3_joinByIn_50 : DC mX3_joinByIn 50 .isub 1 51 := ⟨by decide +kernel, rfl⟩
theorem eX3_joinByIn_51 : DC mX3_joinByIn 51 .iaload 1 52 := ⟨by decide +kernel, rfl⟩
theorem eX3_joinByIn_52 : DC mX3_joinByIn 52 .iastore 1 53 := ⟨by decide +kernel, rfl⟩
theorem eX3_joinByIn_53 : DC mX3_joinByIn 53 (.iinc 3 (-1)) 3 56 := ⟨by decide +kernel, rfl⟩
theorem eX3_joinByIn_56 : DJ mX3_joinByIn 56 .goto 15 59 := ⟨(-41), by decide +kernel, by decide, rfl⟩
theorem eX3_joinByIn_59 : DC mX3_joinByIn 59 (.aload_n 0) 1 60 := ⟨by decide +kernel, rfl⟩
theorem eX3_joinByIn_60 : DC mX3_joinByIn 60 (.getfield 9) 3 63 := ⟨by decide +kernel, rfl⟩
theorem eX3_joinByIn_63 : DC mX3_joinByIn 63 (.iload_n 3) 1 64 := ⟨by decide +kernel, rfl⟩
theorem eX3_joinByIn_64 : DC mX3_joinByIn 64 (.iload_n 1) 1 65 := ⟨by decide +kernel, rfl⟩
theorem eX3_joinByIn_65 : DC mX3_joinByIn 65 .iastore 1 66 := ⟨by decide +kernel, rfl⟩
theorem eX3_joinByIn_66 : DC mX3_joinByIn 66 (.aload_n 0) 1 67 := ⟨by decide +kernel, rfl⟩
theorem eX3_joinByIn_67 : DC mX3_joinByIn 67 .dup 1 68 := ⟨by decide +kernel, rfl⟩
theorem eX3_joinByIn_68 : DC mX3_joinByIn 68 (.getfield 15) 3 71 := ⟨by decide +kernel, rfl⟩
theorem eX3_joinByIn_71 : DC mX3_joinByIn 71 (.iconst 1) 1 72 := ⟨by decide +kernel, rfl⟩
theorem eX3_joinByIn_72 : DC mX3_joinByIn 72 .iadd 1 73 := ⟨by decide +kernel, rfl⟩
theorem eX3_joinByIn_73 : DC mX3_joinByIn 73 (.putfield 15) 3 76 := ⟨by decide +kernel, rfl⟩
theorem eX3_joinByIn_76 : DC mX3_joinByIn 76 .return_ 1 77 := ⟨by decide +kernel, rfl⟩
theorem eX4_takeFirst_0 : DC mX4_takeFirst 0 (.aload_n 0) 1 1 := ⟨by decide +kernel, rfl⟩
theorem eX4_takeFirst_1 : DC mX4_takeFirst 1 (.invokevirtual 37) 3 4 := ⟨by decide +kernel, rfl⟩
theorem eX4_takeFirst_4 : DC mX4_takeFirst 4 (.aload_n 0) 1 5 := ⟨by decide +kernel, rfl⟩
theorem eX4_takeFirst_5 : DC mX4_takeFirst 5 (.getfield 12) 3 8 := ⟨by decide +kernel, rfl⟩
theorem eX4_takeFirst_8 : DC mX4_takeFirst 8 (.getfield 40) 3 11 := ⟨by decide +kernel, rfl⟩
theorem eX4_takeFirst_11 : DJ mX4_takeFirst 11 (.ifCond .ne) 18 14 := ⟨7, by decide +kernel, by decide, rfl⟩
theorem eX4_takeFirst_14 : DC mX4_takeFirst 14 (.iconst 0) 1 15 := ⟨by decide +kernel, rfl⟩
theorem eX4_takeFirst_15 : DJ mX4_takeFirst 15 .goto 22 18 := ⟨7, by decide +kernel, by decide, rfl⟩
theorem eX4_takeFirst_18 : DC mX4_takeFirst 18 (.aload_n 0) 1 19 := ⟨by decide +kernel, rfl⟩
theorem eX4_takeFirst_19 : DC mX4_takeFirst 19 (.invokevirtual 44) 3 22 := ⟨by decide +kernel, rfl⟩
theorem eX4_takeFirst_22 : DC mX4_takeFirst 22 (.istore_n 1) 1 23 := ⟨by decide +kernel, rfl⟩
theorem eX4_takeFirst_23 : DC mX4_takeFirst 23 (.iload_n 1) 1 24 := ⟨by decide +kernel, rfl⟩
theorem eX4_takeFirst_24 : DJ mX4_takeFirst 24 (.ifCond .eq) 31 27 := ⟨7, by decide +kernel, by decide, rfl⟩
theorem eX4_takeFirst_27 : DC mX4_takeFirst 27 (.aload_n 0) 1 28 := ⟨by decide +kernel, rfl⟩
theorem eX4_takeFirst_28 : DC mX4_takeFirst 28 (.invokevirtual 48) 3 31 := ⟨by decide +kernel, rfl⟩
theorem eX4_takeFirst_31 : DC mX4_takeFirst 31 (.iload_n 1) 1 32 := ⟨by decide +kernel, rfl⟩
theorem eX4_takeFirst_32 : DC mX4_takeFirst 32 .ireturn 1 33 := ⟨by decide +kernel, rfl⟩
theorem eX4_takeBest_0 : DC mX4_takeBest 0 (.aload_n 0) 1 1 := ⟨by decide +kernel, rfl⟩
theorem eX4_takeBest_1 : DC mX4_takeBest 1 (.invokevirtual 37) 3 4 := ⟨by decide +kernel, rfl⟩
theorem eX4_takeBest_4 : DC mX4_takeBest 4 (.aload_n 0) 1 5 := ⟨by decide +kernel, rfl⟩
theorem eX4_takeBest_5 : DC mX4_takeBest 5 (.getfield 12) 3 8 := ⟨by decide +kernel, rfl⟩
theorem eX4_takeBest_8 : DC mX4_takeBest 8 (.getfield 40) 3 11 := ⟨by decide +kernel, rfl⟩
theorem eX4_takeBest_11 : DJ mX4_takeBest 11 (.ifCond .ne) 21 14 := ⟨10, by decide +kernel, by decide, rfl⟩
theorem eX4_takeBest_14 : DC mX4_takeBest 14 (.aload_n 0) 1 15 := ⟨by decide +kernel, rfl⟩
theorem eX4_takeBest_15 : DC mX4_takeBest 15 (.iconst 0) 1 16 := ⟨by decide +kernel, rfl⟩
theorem eX4_takeBest_16 : DC mX4_takeBest 16 (.putfield 51) 3 19 := ⟨by decide +kernel, rfl⟩
theorem eX4_takeBest_19 : DC mX4_takeBest 19 (.iconst 0) 1 20 := ⟨by decide +kernel, rfl⟩
theorem eX4_takeBest_20 : DC mX4_takeBest 20 .ireturn 1 21 := ⟨by decide +kernel, rfl⟩
theorem eX4_takeBest_21 : DC mX4_takeBest 21 (.aload_n 0) 1 22 := ⟨by decide +kernel, rfl⟩
theorem eX4_takeBest_22 : DC mX4_takeBest 22 (.iconst (-1)) 1 23 := ⟨by decide +kernel, rfl⟩
theorem eX4_takeBest_23 : DC mX4_takeBest 23 (.putfield 51) 3 26 := ⟨by decide +kernel, rfl⟩
theorem eX4_takeBest_26 : DC mX4_takeBest 26 (.aload_n 0) 1 27 := ⟨by decide +kernel, rfl⟩
theorem eX4_takeBest_27 : DC mX4_takeBest 27 (.invokevirtual 44) 3 30 := ⟨by decide +kernel, rfl⟩
theorem eX4_takeBest_30 : DC mX4_takeBest 30 (.istore_n 1) 1 31 := ⟨by decide +kernel, rfl⟩
theorem eX4_takeBest_31 : DC mX4_takeBest 31 (.iconst 0) 1 32 := ⟨by decide +kernel, rfl⟩
theorem eX4_takeBest_32 : DC mX4_takeBest 32 (.istore_n 2) 1 33 := ⟨by decide +kernel, rfl⟩
theorem eX4_takeBest_33 : DC mX4_takeBest 33 (.iload_n 2) 1 34 := ⟨by decide +kernel, rfl⟩
theorem eX4_takeBest_34 : DC mX4_takeBest 34 (.sipush 5000) 3 37 := ⟨by decide +kernel, rfl⟩
theorem eX4_takeBest_37 : DJ mX4_takeBest 37 (.if_icmp .ge) 59 40 := ⟨22, by decide +kernel, by decide, rfl⟩
theorem eX4_takeBest_40 : DC mX4_takeBest 40 (.iload_n 1) 1 41 := ⟨by decide +kernel, rfl⟩
theorem eX4_takeBest_41 : DJ mX4_takeBest 41 (.ifCond .ne) 59 44 := ⟨18, by decide +kernel, by decide, rfl⟩
theorem eX4_takeBest_44 : DC mX4_takeBest 44 (.aload_n 0) 1 45 := ⟨by decide +kernel, rfl⟩
theorem eX4_takeBest_45 : DC mX4_takeBest 45 (.invokevirtual 54) 3 48 := ⟨by decide +kernel, rfl⟩
theorem eX4_takeBest_48 : DC mX4_takeBest 48 (.aload_n 0) 1 49 := ⟨by decide +kernel, rfl⟩
theorem eX4_takeBest_49 : DC mX4_takeBest 49 (.invokevirtual 44) 3 52 := ⟨by decide +kernel, rfl⟩
theorem eX4_takeBest_52 : DC mX4_takeBest 52 (.istore_n 1) 1 53 := ⟨by decide +kernel, rfl⟩
theorem eX4_takeBest_53 : DC mX4_takeBest 53 (.iinc 2 1) 3 56 := ⟨by decide +kernel, rfl⟩
theorem eX4_takeBest_56 : DJ mX4_takeBest 56 .goto 33 59 := ⟨(-23), by decide +kernel, by decide, rfl⟩
theorem eX4_takeBest_59 : DC mX4_takeBest 59 (.aload_n 0) 1 60 := ⟨by decide +kernel, rfl⟩
theorem eX4_takeBest_60 : DC mX4_takeBest 60 (.invokevirtual 48) 3 63 := ⟨by decide +kernel, rfl⟩
theorem eX4_takeBest_63 : DC mX4_takeBest 63 (.iload_n 1) 1 64 := ⟨by decide +kernel, rfl⟩
theorem eX4_takeBest_64 : DC mX4_takeBest 64 (.bipush 11) 2 66 := ⟨by decide +kernel, rfl⟩
theorem eX4_takeBest_66 : DJ mX4_takeBest 66 (.if_icmp .ne) 83 69 := ⟨17, by decide +kernel, by decide, rfl⟩
theorem eX4_takeBest_69 : DC mX4_takeBest 69 (.aload_n 0) 1 70 := ⟨by decide +kernel, rfl⟩
theorem eX4_takeBest_70 : DC mX4_takeBest 70 (.getfield 51) 3 73 := ⟨by decide +kernel, rfl⟩
theorem eX4_takeBest_73 : DC mX4_takeBest 73 (.iconst (-1)) 1 74 := ⟨by decide +kernel, rfl⟩
theorem eX4_takeBest_74 : DJ mX4_takeBest 74 (.if_icmp .eq) 83 77 := ⟨9, by decide +kernel, by decide, rfl⟩
theorem eX4_takeBest_77 : DC mX4_takeBest 77 (.aload_n 0) 1 78 := ⟨by decide +kernel, rfl⟩
theorem eX4_takeBest_78 : DC mX4_takeBest 78 (.invokevirtual 57) 3 81 := ⟨by decide +kernel, rfl⟩
theorem eX4_takeBest_81 : DC mX4_takeBest 81 (.iconst 0) 1 82 := ⟨by decide +kernel, rfl⟩
theorem eX4_takeBest_82 : DC mX4_takeBest 82 .ireturn 1 83 := ⟨by decide +kernel, rfl⟩
theorem eX4_takeBest_83 : DC mX4_takeBest 83 (.iload_n 1) 1 84 := ⟨by decide +kernel, rfl⟩
theorem eX4_takeBest_84 : DC mX4_takeBest 84 .ireturn 1 85 := ⟨by decide +kernel, rfl⟩
theorem eX4_begin_0 : DC mX4_begin 0 (.aload_n 0) 1 1 := ⟨by decide +kernel, rfl⟩
theorem eX4_begin_1 : DC mX4_begin 1 (.getfield 12) 3 4 := ⟨by decide +kernel, rfl⟩
theorem eX4_begin_4 : DC mX4_begin 4 (.invokevirtual 60) 3 7 := ⟨by decide +kernel, rfl⟩
theorem eX4_begin_7 : DC mX4_begin 7 (.iconst 0) 1 8 := ⟨by decide +kernel, rfl⟩
theorem eX4_begin_8 : DC mX4_begin 8 (.istore_n 1) 1 9 := ⟨by decide +kernel, rfl⟩
theorem eX4_begin_9 : DC mX4_begin 9 (.iload_n 1) 1 10 := ⟨by decide +kernel, rfl⟩
theorem eX4_begin_10 : DC mX4_begin 10 (.aload_n 0) 1 11 := ⟨by decide +kernel, rfl⟩
theorem eX4_begin_11 : DC mX4_begin 11 (.getfield 29) 3 14 := ⟨by decide +kernel, rfl⟩
theorem eX4_begin_14 : DC mX4_begin 14 (.getfield 63) 3 17 := ⟨by decide +kernel, rfl⟩
theorem eX4_begin_17 : DJ mX4_begin 17 (.if_icmp .ge) 45 20 := ⟨28, by decide +kernel, by decide, rfl⟩
theorem eX4_begin_20 : DC mX4_begin 20 (.aload_n 0) 1 21 := ⟨by decide +kernel, rfl⟩
theorem eX4_begin_21 : DC mX4_begin 21 (.getfield 29) 3 24 := ⟨by decide +kernel, rfl⟩
theorem eX4_begin_24 : DC mX4_begin 24 (.iload_n 1) 1 25 := ⟨by decide +kernel, rfl⟩
theorem eX4_begin_25 : DC mX4_begin 25 (.invokevirtual 68) 3 28 := ⟨by decide +kernel, rfl⟩
theorem eX4_begin_28 : DJ mX4_begin 28 (.ifCond .eq) 39 31 := ⟨11, by decide +kernel, by decide, rfl⟩
theorem eX4_begin_31 : DC mX4_begin 31 (.aload_n 0) 1 32 := ⟨by decide +kernel, rfl⟩
theorem eX4_begin_32 : DC mX4_begin 32 (.getfield 12) 3 35 := ⟨by decide +kernel, rfl⟩
theorem eX4_begin_35 : DC mX4_begin 35 (.iload_n 1) 1 36 := ⟨by decide +kernel, rfl⟩
theorem eX4_begin_36 : DC mX4_begin 36 (.invokevirtual 72) 3 39 := ⟨by decide +kernel, rfl⟩
theorem eX4_begin_39 : DC mX4_begin 39 (.iinc 1 1) 3 42 := ⟨by decide +kernel, rfl⟩
theorem eX4_begin_42 : DJ mX4_begin 42 .goto 9 45 := ⟨(-33), by decide +kernel, by decide, rfl⟩
theorem eX4_begin_45 : DC mX4_begin 45 (.aload_n 0) 1 46 := ⟨by decide +kernel, rfl⟩
theorem eX4_begin_46 : DC mX4_begin 46 (.iconst 0) 1 47 := ⟨by decide +kernel, rfl⟩
theorem eX4_begin_47 : DC mX4_begin 47 (.putfield 76) 3 50 := ⟨by decide +kernel, rfl⟩
theorem eX4_begin_50 : DC mX4_begin 50 (.aload_n 0) 1 51 := ⟨by decide +kernel, rfl⟩
theorem eX4_begin_51 : DC mX4_begin 51 (.iconst 0) 1 52 := ⟨by decide +kernel, rfl⟩
theorem eX4_begin_52 : DC mX4_begin 52 (.putfield 79) 3 55 := ⟨by decide +kernel, rfl⟩
theorem eX4_begin_55 : DC mX4_begin 55 (.aload_n 0) 1 56 := ⟨by decide +kernel, rfl⟩
theorem eX4_begin_56 : DC mX4_begin 56 (.getfield 18) 3 59 := ⟨by decide +kernel, rfl⟩
theorem eX4_begin_59 : DC mX4_begin 59 (.iconst 0) 1 60 := ⟨by decide +kernel, rfl⟩
theorem eX4_begin_60 : DC mX4_begin 60 (.iconst (-1)) 1 61 := ⟨by decide +kernel, rfl⟩
theorem eX4_begin_61 : DC mX4_begin 61 .iastore 1 62 := ⟨by decide +kernel, rfl⟩
theorem eX4_begin_62 : DC mX4_begin 62 .return_ 1 63 := ⟨by decide +kernel, rfl⟩
theorem eX4_goToNextWhole_0 : DC mX4_goToNextWhole 0 (.iconst 0) 1 1 := ⟨by decide +kernel, rfl⟩
theorem eX4_goToNextWhole_1 : DC mX4_goToNextWhole 1 (.istore_n 1) 1 2 := ⟨by decide +kernel, rfl⟩
theorem eX4_goToNextWhole_2 : DC mX4_goToNextWhole 2 (.iload_n 1) 1 3 := ⟨by decide +kernel, rfl⟩
theorem eX4_goToNextWhole_3 : DC mX4_goToNextWhole 3 (.sipush 15000) 3 6 := ⟨by decide +kernel, rfl⟩
theorem eX4_goToNextWhole_6 : DJ mX4_goToNextWhole 6 (.if_icmp .gt) 216 9 := ⟨210, by decide +kernel, by decide, rfl⟩
theorem eX4_goToNextWhole_9 : DC mX4_goToNextWhole 9 (.aload_n 0) 1 10 := ⟨by decide +kernel, rfl⟩
theorem eX4_goToNextWhole_10 : DC mX4_goToNextWhole 10 (.getfield 79) 3 13 := ⟨by decide +kernel, rfl⟩
theorem eX4_goToNextWhole_13 : DJ mX4_goToNextWhole 13 (.ifCond .ge) 19 16 := ⟨6, by decide +kernel, by decide, rfl⟩
theorem eX4_goToNextWhole_16 : DC mX4_goToNextWhole 16 (.bipush 11) 2 18 := ⟨by decide +kernel, rfl⟩
theorem eX4_goToNextWhole_18 : DC mX4_goToNextWhole 18 .ireturn 1 19 := ⟨by decide +kernel, rfl⟩
theorem eX4_goToNextWhole_19 : DC mX4_goToNextWhole 19 (.aload_n 0) 1 20 := ⟨by decide +kernel, rfl⟩
theorem eX4_goToNextWhole_20 : DC mX4_goToNextWhole 20 (.getfield 12) 3 23 := ⟨by decide +kernel, rfl⟩
theorem eX4_goToNextWhole_23 : DC mX4_goToNextWhole 23 (.getfield 82) 3 26 := ⟨by decide +kernel, rfl⟩
theorem eX4_goToNextWhole_26 : DC mX4_goToNextWhole 26 (.aload_n 0) 1 27 := ⟨by decide +kernel, rfl⟩
theorem eX4_goToNextWhole_27 : DC mX4_goToNextWhole 27 (.getfield 79) 3 30 := ⟨by decide +kernel, rfl⟩
theorem eX4_goToNextWhole_30 : DC mX4_goToNextWhole 30 .iaload 1 31 := ⟨by decide +kernel, rfl⟩
theorem eX4_goToNextWhole_31 : DC mX4_goToNextWhole 31 (.istore_n 2) 1 32 := ⟨by decide +kernel, rfl⟩
theorem eX4_goToNextWhole_32 : DC mX4_goToNextWhole 32 (.aload_n 0) 1 33 := ⟨by decide +kernel, rfl⟩
theorem eX4_goToNextWhole_33 : DC mX4_goToNextWhole 33 (.getfield 29) 3 36 := ⟨by decide +kernel, rfl⟩
theorem eX4_goToNextWhole_36 : DC mX4_goToNextWhole 36 (.iload_n 2) 1 37 := ⟨by decide +kernel, rfl⟩
theorem eX4_goToNextWhole_37 : DC mX4_goToNextWhole 37 (.invokevirtual 85) 3 40 := ⟨by decide +kernel, rfl⟩
theorem eX4_goToNextWhole_40 : DC mX4_goToNextWhole 40 (.aload_n 0) 1 41 := ⟨by decide +kernel, rfl⟩
theorem eX4_goToNextWhole_41 : DC mX4_goToNextWhole 41 (.getfield 18) 3 44 := ⟨by decide +kernel, rfl⟩
theorem eX4_goToNextWhole_44 : DC mX4_goToNextWhole 44 (.aload_n 0) 1 45 := ⟨by decide +kernel, rfl⟩
theorem eX4_goToNextWhole_45 : DC mX4_goToNextWhole 45 (.getfield 79) 3 48 := ⟨by decide +kernel, rfl⟩
theorem eX4_goToNextWhole_48 : DC mX4_goToNextWhole 48 .dup2 1 49 := ⟨by decide +kernel, rfl⟩
theorem eX4_goToNextWhole_49 : DC mX4_goToNextWhole 49 .iaload 1 50 := ⟨by decide +kernel, rfl⟩
theorem eX4_goToNextWhole_50 : DC mX4_goToNextWhole 50 (.iconst 1) 1 51 := ⟨by decide +kernel, rfl⟩
theorem eX4_goToNextWhole_51 : DC mX4_goToNextWhole 51 .iadd 1 52 := ⟨by decide +kernel, rfl⟩
theorem eX4_goToNextWhole_52 : DC mX4_goToNextWhole 52 .iastore 1 53 := ⟨by decide +kernel, rfl⟩
theorem eX4_goToNextWhole_53 : DC mX4_goToNextWhole 53 (.aload_n 0) 1 54 := ⟨by decide +kernel, rfl⟩
theorem eX4_goToNextWhole_54 : DC mX4_goToNextWhole 54 (.getfield 18) 3 57 := ⟨by decide +kernel, rfl⟩
theorem eX4_goToNextWhole_57 : DC mX4_goToNextWhole 57 (.aload_n 0) 1 58 := ⟨by decide +kernel, rfl⟩
theorem eX4_goToNextWhole_58 : DC mX4_goToNextWhole 58 (.getfield 79) 3 61 := ⟨by decide +kernel, rfl⟩
theorem eX4_goToNextWhole_61 : DC mX4_goToNextWhole 61 .iaload 1 62 := ⟨by decide +kernel, rfl⟩
theorem eX4_goToNextWhole_62 : DC mX4_goToNextWhole 62 (.aload_n 0) 1 63 := ⟨by decide +kernel, rfl⟩
theorem eX4_goToNextWhole_63 : DC mX4_goToNextWhole 63 (.getfield 25) 3 66 := ⟨by decide +kernel, rfl⟩
theorem eX4_goToNextWhole_66 : DC mX4_goToNextWhole 66 (.getfield 88) 3 69 := ⟨by decide +kernel, rfl⟩
theorem eX4_goToNextWhole_69 : DJ mX4_goToNextWhole 69 (.if_icmp .lt) 85 72 := ⟨16, by decide +kernel, by decide, rfl⟩
theorem eX4_goToNextWhole_72 : DC mX4_goToNextWhole 72 (.aload_n 0) 1 73 := ⟨by decide +kernel, rfl⟩
theorem eX4_goToNextWhole_73 : DC mX4_goToNextWhole 73 .dup 1 74 := ⟨by decide +kernel, rfl⟩
theorem eX4_goToNextWhole_74 : DC mX4_goToNextWhole 74 (.getfield 79) 3 77 := ⟨by decide +kernel, rfl⟩
theorem eX4_goToNextWhole_77 : DC mX4_goToNextWhole 77 (.iconst 1) 1 78 := ⟨by decide +kernel, rfl⟩
theorem eX4_goToNextWhole_78 : DC mX4_goToNextWhole 78 .isub 1 79 := ⟨by decide +kernel, rfl⟩
theorem eX4_goToNextWhole_79 : DC mX4_goToNextWhole 79 (.putfield 79) 3 82 := ⟨by decide +kernel, rfl⟩
theorem eX4_goToNextWhole_82 : DJ mX4_goToNextWhole 82 .goto 210 85 := ⟨128, by decide +kernel, by decide, rfl⟩
theorem eX4_goToNextWhole_85 : DC mX4_goToNextWhole 85 (.aload_n 0) 1 86 := ⟨by decide +kernel, rfl⟩
theorem eX4_goToNextWhole_86 : DC mX4_goToNextWhole 86 (.getfield 76) 3 89 := ⟨by decide +kernel, rfl⟩
theorem eX4_goToNextWhole_89 : DC mX4_goToNextWhole 89 (.sipush 5000) 3 92 := ⟨by decide +kernel, rfl⟩
theorem eX4_goToNextWhole_92 : DJ mX4_goToNextWhole 92 (.if_icmp .lt) 98 95 := ⟨6, by decide +kernel, by decide, rfl⟩
theorem eX4_goToNextWhole_95 : DC mX4_goToNextWhole 95 (.bipush 10) 2 97 := ⟨by decide +kernel, rfl⟩
theorem eX4_goToNextWhole_97 : DC mX4_goToNextWhole 97 .ireturn 1 98 := ⟨by decide +kernel, rfl⟩
theorem eX4_goToNextWhole_98 : DC mX4_goToNextWhole 98 (.aload_n 0) 1 99 := ⟨by decide +kernel, rfl⟩
theorem eX4_goToNextWhole_99 : DC mX4_goToNextWhole 99 .dup 1 100 := ⟨by decide +kernel, rfl⟩
theorem eX4_goToNextWhole_100 : DC mX4_goToNextWhole 100 (.getfield 76) 3 103 := ⟨by decide +kernel, rfl⟩
theorem eX4_goToNextWhole_103 : DC mX4_goToNextWhole 103 (.iconst 1) 1 104 := ⟨by decide +kernel, rfl⟩
theorem eX4_goToNextWhole_104 : DC mX4_goToNextWhole 104 .iadd 1 105 := ⟨by decide +kernel, rfl⟩
theorem eX4_goToNextWhole_105 : DC mX4_goToNextWhole 105 (.putfield 76) 3 108 := ⟨by decide +kernel, rfl⟩
theorem eX4_goToNextWhole_108 : DC mX4_goToNextWhole 108 (.aload_n 0) 1 109 := ⟨by decide +kernel, rfl⟩
theorem eX4_goToNextWhole_109 : DC mX4_goToNextWhole 109 (.getfield 33) 3 112 := ⟨by decide +kernel, rfl⟩
theorem eX4_goToNextWhole_112 : DC mX4_goToNextWhole 112 (.iload_n 2) 1 113 := ⟨by decide +kernel, rfl⟩
theorem eX4_goToNextWhole_113 : DC mX4_goToNextWhole 113 (.invokevirtual 93) 3 116 := ⟨by decide +kernel, rfl⟩
theorem eX4_goToNextWhole_116 : DC mX4_goToNextWhole 116 (.aload_n 0) 1 117 := ⟨by decide +kernel, rfl⟩
theorem eX4_goToNextWhole_117 : DC mX4_goToNextWhole 117 (.getfield 29) 3 120 := ⟨by decide +kernel, rfl⟩
theorem eX4_goToNextWhole_120 : DC mX4_goToNextWhole 120 (.iload_n 2) 1 121 := ⟨by decide +kernel, rfl⟩
theorem eX4_goToNextWhole_121 : DC mX4_goToNextWhole 121 (.invokevirtual 98) 3 124 := ⟨by decide +kernel, rfl⟩
theorem eX4_goToNextWhole_124 : DC mX4_goToNextWhole 124 (.istore_n 3) 1 125 := ⟨by decide +kernel, rfl⟩
theorem eX4_goToNextWhole_125 : DC mX4_goToNextWhole 125 (.aload_n 0) 1 126 := ⟨by decide +kernel, rfl⟩
theorem eX4_goToNextWhole_126 : DC mX4_goToNextWhole 126 (.getfield 33) 3 129 := ⟨by decide +kernel, rfl⟩
theorem eX4_goToNextWhole_129 : DC mX4_goToNextWhole 129 (.aload_n 0) 1 130 := ⟨by decide +kernel, rfl⟩
theorem eX4_goToNextWhole_130 : DC mX4_goToNextWhole 130 (.getfield 18) 3 133 := ⟨by decide +kernel, rfl⟩
theorem eX4_goToNextWhole_133 : DC mX4_goToNextWhole 133 (.aload_n 0) 1 134 := ⟨by decide +kernel, rfl⟩
theorem eX4_goToNextWhole_134 : DC mX4_goToNextWhole 134 (.getfield 79) 3 137 := ⟨by decide +kernel, rfl⟩
theorem eX4_goToNextWhole_137 : DC mX4_goToNextWhole 137 .iaload 1 138 := ⟨by decide +kernel, rfl⟩
theorem eX4_goToNextWhole_138 : DC mX4_goToNextWhole 138 (.iload_n 3) 1 139 := ⟨by decide +kernel, rfl⟩
theorem eX4_goToNextWhole_139 : DC mX4_goToNextWhole 139 (.aload_n 0) 1 140 := ⟨by decide +kernel, rfl⟩
theorem eX4_goToNextWhole_140 : DC mX4_goToNextWhole 140 (.getfield 29) 3 143 := ⟨by decide +kernel, rfl⟩
theorem eX4_goToNextWhole_143 : DC mX4_goToNextWhole 143 (.iload_n 2) 1 144 := ⟨by decide +kernel, rfl⟩
theorem eX4_goToNextWhole_144 : DC mX4_goToNextWhole 144 (.invokevirtual 102) 3 147 := ⟨by decide +kernel, rfl⟩
theorem eX4_goToNextWhole_147 : DC mX4_goToNextWhole 147 (.invokevirtual 105) 3 150 := ⟨by decide +kernel, rfl⟩
theorem eX4_goToNextWhole_150 : DJ mX4_goToNextWhole 150 (.ifCond .ne) 210 153 := ⟨60, by decide +kernel, by decide, rfl⟩
theorem eX4_goToNextWhole_153 : DC mX4_goToNextWhole 153 (.aload_n 0) 1 154 := ⟨by decide +kernel, rfl⟩
theorem eX4_goToNextWhole_154 : DC mX4_goToNextWhole 154 (.getfield 29) 3 157 := ⟨by decide +kernel, rfl⟩
theorem eX4_goToNextWhole_157 : DC mX4_goToNextWhole 157 (.iload_n 2) 1 158 := ⟨by decide +kernel, rfl⟩
theorem eX4_goToNextWhole_158 : DC mX4_goToNextWhole 158 (.aload_n 0) 1 159 := ⟨by decide +kernel, rfl⟩
theorem eX4_goToNextWhole_159 : DC mX4_goToNextWhole 159 (.getfield 18) 3 162 := ⟨by decide +kernel, rfl⟩
theorem eX4_goToNextWhole_162 : DC mX4_goToNextWhole 162 (.aload_n 0) 1 163 := ⟨by decide +kernel, rfl⟩
theorem eX4_goToNextWhole_163 : DC mX4_goToNextWhole 163 (.getfield 79) 3 166 := ⟨by decide +kernel, rfl⟩
theorem eX4_goToNextWhole_166 : DC mX4_goToNextWhole 166 .iaload 1 167 := ⟨by decide +kernel, rfl⟩
theorem eX4_goToNextWhole_167 : DC mX4_goToNextWhole 167 (.iload_n 3) 1 168 := ⟨by decide +kernel, rfl⟩
theorem eX4_goToNextWhole_168 : DC mX4_goToNextWhole 168 (.invokevirtual 109) 3 171 := ⟨by decide +kernel, rfl⟩
theorem eX4_goToNextWhole_171 : DC mX4_goToNextWhole 171 .pop 1 172 := ⟨by decide +kernel, rfl⟩
theorem eX4_goToNextWhole_172 : DC mX4_goToNextWhole 172 (.aload_n 0) 1 173 := ⟨by decide +kernel, rfl⟩
theorem eX4_goToNextWhole_173 : DC mX4_goToNextWhole 173 (.getfield 79) 3 176 := ⟨by decide +kernel, rfl⟩
theorem eX4_goToNextWhole_176 : DC mX4_goToNextWhole 176 (.aload_n 0) 1 177 := ⟨by decide +kernel, rfl⟩
theorem eX4_goToNextWhole_177 : DC mX4_goToNextWhole 177 (.getfield 12) 3 180 := ⟨by decide +kernel, rfl⟩
theorem eX4_goToNextWhole_180 : DC mX4_goToNextWhole 180 (.getfield 40) 3 183 := ⟨by decide +kernel, rfl⟩
theorem eX4_goToNextWhole_183 : DC mX4_goToNextWhole 183 (.iconst 1) 1 184 := ⟨by decide +kernel, rfl⟩
theorem eX4_goToNextWhole_184 : DC mX4_goToNextWhole 184 .isub 1 185 := ⟨by decide +kernel, rfl⟩
theorem eX4_goToNextWhole_185 : DJ mX4_goToNextWhole 185 (.if_icmp .ne) 190 188 := ⟨5, by decide +kernel, by decide, rfl⟩
theorem eX4_goToNextWhole_188 : DC mX4_goToNextWhole 188 (.iconst 0) 1 189 := ⟨by decide +kernel, rfl⟩
theorem eX4_goToNextWhole_189 : DC mX4_goToNextWhole 189 .ireturn 1 190 := ⟨by decide +kernel, rfl⟩
theorem eX4_goToNextWhole_190 : DC mX4_goToNextWhole 190 (.aload_n 0) 1 191 := ⟨by decide +kernel, rfl⟩
theorem eX4_goToNextWhole_191 : DC mX4_goToNextWhole 191 .dup 1 192 := ⟨by decide +kernel, rfl⟩
theorem eX4_goToNextWhole_192 : DC mX4_goToNextWhole 192 (.getfield 79) 3 195 := ⟨by decide +kernel, rfl⟩
theorem eX4_goToNextWhole_195 : DC mX4_goToNextWhole 195 (.iconst 1) 1 196 := ⟨by decide +kernel, rfl⟩
theorem eX4_goToNextWhole_196 : DC mX4_goToNextWhole 196 .iadd 1 197 := ⟨by decide +kernel, rfl⟩
theorem eX4_goToNextWhole_197 : DC mX4_goToNextWhole 197 (.putfield 79) 3 200 := ⟨by decide +kernel, rfl⟩
theorem eX4_goToNextWhole_200 : DC mX4_goToNextWhole 200 (.aload_n 0) 1 201 := ⟨by decide +kernel, rfl⟩
theorem eX4_goToNextWhole_201 : DC mX4_goToNextWhole 201 (.getfield 18) 3 204 := ⟨by decide +kernel, rfl⟩
theorem eX4_goToNextWhole_204 : DC mX4_goToNextWhole 204 (.aload_n 0) 1 205 := ⟨by decide +kernel, rfl⟩
theorem eX4_goToNextWhole_205 : DC mX4_goToNextWhole 205 (.getfield 79) 3 208 := ⟨by decide +kernel, rfl⟩
theorem eX4_goToNextWhole_208 : DC mX4_goToNextWhole 208 (.iconst (-1)) 1 209 := ⟨by decide +kernel, rfl⟩
theorem eX4_goToNextWhole_209 : DC mX4_goToNextWhole 209 .iastore 1 210 := ⟨by decide +kernel, rfl⟩
theorem eX4_goToNextWhole_210 : DC mX4_goToNextWhole 210 (.iinc 1 1) 3 213 := ⟨by decide +kernel, rfl⟩
theorem eX4_goToNextWhole_213 : DJ mX4_goToNextWhole 213 .goto 2 216 := ⟨(-211), by decide +kernel, by decide, rfl⟩
theorem eX4_goToNextWhole_216 : DC mX4_goToNextWhole 216 (.bipush 10) 2 218 := ⟨by decide +kernel, rfl⟩
theorem eX4_goToNextWhole_218 : DC mX4_goToNextWhole 218 .ireturn 1 219 := ⟨by decide +kernel, rfl⟩
theorem eX4_keepIfBetter_0 : DC mX4_keepIfBetter 0 (.iconst 0) 1 1 := ⟨by decide +kernel, rfl⟩
theorem eX4_keepIfBetter_1 : DC mX4_keepIfBetter 1 (.istore_n 1) 1 2 := ⟨by decide +kernel, rfl⟩
theorem eX4_keepIfBetter_2 : DC mX4_keepIfBetter 2 (.iconst 0) 1 3 := ⟨by decide +kernel, rfl⟩
theorem eX4_keepIfBetter_3 : DC mX4_keepIfBetter 3 (.istore_n 2) 1 4 := ⟨by decide +kernel, rfl⟩
theorem eX4_keepIfBetter_4 : DC mX4_keepIfBetter 4 (.iload_n 2) 1 5 := ⟨by decide +kernel, rfl⟩
theorem eX4_keepIfBetter_5 : DC mX4_keepIfBetter 5 (.aload_n 0) 1 6 := ⟨by decide +kernel, rfl⟩
theorem eX4_keepIfBetter_6 : DC mX4_keepIfBetter 6 (.getfield 12) 3 9 := ⟨by decide +kernel, rfl⟩
theorem eX4_keepIfBetter_9 : DC mX4_keepIfBetter 9 (.getfield 40) 3 12 := ⟨by decide +kernel, rfl⟩
theorem eX4_keepIfBetter_12 : DJ mX4_keepIfBetter 12 (.if_icmp .ge) 40 15 := ⟨28, by decide +kernel, by decide, rfl⟩
theorem eX4_keepIfBetter_15 : DC mX4_keepIfBetter 15 (.aload_n 0) 1 16 := ⟨by decide +kernel, rfl⟩
theorem eX4_keepIfBetter_16 : DC mX4_keepIfBetter 16 (.getfield 25) 3 19 := ⟨by decide +kernel, rfl⟩
theorem eX4_keepIfBetter_19 : DC mX4_keepIfBetter 19 (.aload_n 0) 1 20 := ⟨by decide +kernel, rfl⟩
theorem eX4_keepIfBetter_20 : DC mX4_keepIfBetter 20 (.getfield 18) 3 23 := ⟨by decide +kernel, rfl⟩
theorem eX4_keepIfBetter_23 : DC mX4_keepIfBetter 23 (.iload_n 2) 1 24 := ⟨by decide +kernel, rfl⟩
theorem eX4_keepIfBetter_24 : DC mX4_keepIfBetter 24 .iaload 1 25 := ⟨by decide +kernel, rfl⟩
theorem eX4_keepIfBetter_25 : DC mX4_keepIfBetter 25 (.invokevirtual 113) 3 28 := ⟨by decide +kernel, rfl⟩
theorem eX4_keepIfBetter_28 : DJ mX4_keepIfBetter 28 (.ifCond .eq) 34 31 := ⟨6, by decide +kernel, by decide, rfl⟩
theorem eX4_keepIfBetter_31 : DC mX4_keepIfBetter 31 (.iinc 1 1) 3 34 := ⟨by decide +kernel, rfl⟩
theorem eX4_keepIfBetter_34 : DC mX4_keepIfBetter 34 (.iinc 2 1) 3 37 := ⟨by decide +kernel, rfl⟩
theorem eX4_keepIfBetter_37 : DJ mX4_keepIfBetter 37 .goto 4 40 := ⟨(-33), by decide +kernel, by decide, rfl⟩
theorem eX4_keepIfBetter_40 : DC mX4_keepIfBetter 40 (.iload_n 1) 1 41 := ⟨by decide +kernel, rfl⟩
theorem eX4_keepIfBetter_41 : DC mX4_keepIfBetter 41 (.aload_n 0) 1 42 := ⟨by decide +kernel, rfl⟩
theorem eX4_keepIfBetter_42 : DC mX4_keepIfBetter 42 (.getfield 51) 3 45 := ⟨by decide +kernel, rfl⟩
theorem eX4_keepIfBetter_45 : DJ mX4_keepIfBetter 45 (.if_icmp .le) 73 48 := ⟨28, by decide +kernel, by decide, rfl⟩
theorem eX4_keepIfBetter_48 : DC mX4_keepIfBetter 48 (.aload_n 0) 1 49 := ⟨by decide +kernel, rfl⟩
theorem eX4_keepIfBetter_49 : DC mX4_keepIfBetter 49 (.iload_n 1) 1 50 := ⟨by decide +kernel, rfl⟩
theorem eX4_keepIfBetter_50 : DC mX4_keepIfBetter 50 (.putfield 51) 3 53 := ⟨by decide +kernel, rfl⟩
theorem eX4_keepIfBetter_53 : DC mX4_keepIfBetter 53 (.aload_n 0) 1 54 := ⟨by decide +kernel, rfl⟩
theorem eX4_keepIfBetter_54 : DC mX4_keepIfBetter 54 (.getfield 18) 3 57 := ⟨by decide +kernel, rfl⟩
theorem eX4_keepIfBetter_57 : DC mX4_keepIfBetter 57 (.iconst 0) 1 58 := ⟨by decide +kernel, rfl⟩
theorem eX4_keepIfBetter_58 : DC mX4_keepIfBetter 58 (.aload_n 0) 1 59 := ⟨by decide +kernel, rfl⟩
theorem eX4_keepIfBetter_59 : DC mX4_keepIfBetter 59 (.getfield 22) 3 62 := ⟨by decide +kernel, rfl⟩
theorem eX4_keepIfBetter_62 : DC mX4_keepIfBetter 62 (.iconst 0) 1 63 := ⟨by decide +kernel, rfl⟩
theorem eX4_keepIfBetter_63 : DC mX4_keepIfBetter 63 (.aload_n 0) 1 64 := ⟨by decide +kernel, rfl⟩
theorem eX4_keepIfBetter_64 : DC mX4_keepIfBetter 64 (.getfield 12) 3 67 := ⟨by decide +kernel, rfl⟩
theorem eX4_keepIfBetter_67 : DC mX4_keepIfBetter 67 (.getfield 40) 3 70 := ⟨by decide +kernel, rfl⟩
theorem eX4_keepIfBetter_70 : DC mX4_keepIfBetter 70 (.invokestatic 116) 3 73 := ⟨by decide +kernel, rfl⟩
theorem eX4_keepIfBetter_73 : DC mX4_keepIfBetter 73 .return_ 1 74 := ⟨by decide +kernel, rfl⟩
theorem eX4_putBest_0 : DC mX4_putBest 0 (.iconst 0) 1 1 := ⟨by decide +kernel, rfl⟩
theorem eX4_putBest_1 : DC mX4_putBest 1 (.istore_n 1) 1 2 := ⟨by decide +kernel, rfl⟩
theorem eX4_putBest_2 : DC mX4_putBest 2 (.iload_n 1) 1 3 := ⟨by decide +kernel, rfl⟩
theorem eX4_putBest_3 : DC mX4_putBest 3 (.aload_n 0) 1 4 := ⟨by decide +kernel, rfl⟩
theorem eX4_putBest_4 : DC mX4_putBest 4 (.getfield 12) 3 7 := ⟨by decide +kernel, rfl⟩
theorem eX4_putBest_7 : DC mX4_putBest 7 (.getfield 40) 3 10 := ⟨by decide +kernel, rfl⟩
theorem eX4_putBest_10 : DJ mX4_putBest 10 (.if_icmp .ge) 52 13 := ⟨42, by decide +kernel, by decide, rfl⟩
theorem eX4_putBest_13 : DC mX4_putBest 13 (.aload_n 0) 1 14 := ⟨by decide +kernel, rfl⟩
theorem eX4_putBest_14 : DC mX4_putBest 14 (.getfield 12) 3 17 := ⟨by decide +kernel, rfl⟩
theorem eX4_putBest_17 : DC mX4_putBest 17 (.getfield 82) 3 20 := ⟨by decide +kernel, rfl⟩
theorem eX4_putBest_20 : DC mX4_putBest 20 (.iload_n 1) 1 21 := ⟨by decide +kernel, rfl⟩
theorem eX4_putBest_21 : DC mX4_putBest 21 .iaload 1 22 := ⟨by decide +kernel, rfl⟩
theorem eX4_putBest_22 : DC mX4_putBest 22 (.istore_n 2) 1 23 := ⟨by decide +kernel, rfl⟩
theorem eX4_putBest_23 : DC mX4_putBest 23 (.aload_n 0) 1 24 := ⟨by decide +kernel, rfl⟩
theorem eX4_putBest_24 : DC mX4_putBest 24 (.getfield 29) 3 27 := ⟨by decide +kernel, rfl⟩
theorem eX4_putBest_27 : DC mX4_putBest 27 (.iload_n 2) 1 28 := ⟨by decide +kernel, rfl⟩
theorem eX4_putBest_28 : DC mX4_putBest 28 (.aload_n 0) 1 29 := ⟨by decide +kernel, rfl⟩
theorem eX4_putBest_29 : DC mX4_putBest 29 (.getfield 22) 3 32 := ⟨by decide +kernel, rfl⟩
theorem eX4_putBest_32 : DC mX4_putBest 32 (.iload_n 1) 1 33 := ⟨by decide +kernel, rfl⟩
theorem eX4_putBest_33 : DC mX4_putBest 33 .iaload 1 34 := ⟨by decide +kernel, rfl⟩
theorem eX4_putBest_34 : DC mX4_putBest 34 (.aload_n 0) 1 35 := ⟨by decide +kernel, rfl⟩
theorem eX4_putBest_35 : DC mX4_putBest 35 (.getfield 29) 3 38 := ⟨by decide +kernel, rfl⟩
theorem eX4_putBest_38 : DC mX4_putBest 38 (.iload_n 2) 1 39 := ⟨by decide +kernel, rfl⟩
theorem eX4_putBest_39 : DC mX4_putBest 39 (.invokevirtual 98) 3 42 := ⟨by decide +kernel, rfl⟩
theorem eX4_putBest_42 : DC mX4_putBest 42 (.invokevirtual 109) 3 45 := ⟨by decide +kernel, rfl⟩
theorem eX4_putBest_45 : DC mX4_putBest 45 .pop 1 46 := ⟨by decide +kernel, rfl⟩
theorem eX4_putBest_46 : DC mX4_putBest 46 (.iinc 1 1) 3 49 := ⟨by decide +kernel, rfl⟩
theorem eX4_putBest_49 : DJ mX4_putBest 49 .goto 2 52 := ⟨(-47), by decide +kernel, by decide, rfl⟩
theorem eX4_putBest_52 : DC mX4_putBest 52 .return_ 1 53 := ⟨by decide +kernel, rfl⟩
theorem eX4_takeAllOff_0 : DC mX4_takeAllOff 0 (.iconst 0) 1 1 := ⟨by decide +kernel, rfl⟩
theorem eX4_takeAllOff_1 : DC mX4_takeAllOff 1 (.istore_n 1) 1 2 := ⟨by decide +kernel, rfl⟩
theorem eX4_takeAllOff_2 : DC mX4_takeAllOff 2 (.iload_n 1) 1 3 := ⟨by decide +kernel, rfl⟩
theorem eX4_takeAllOff_3 : DC mX4_takeAllOff 3 (.aload_n 0) 1 4 := ⟨by decide +kernel, rfl⟩
theorem eX4_takeAllOff_4 : DC mX4_takeAllOff 4 (.getfield 12) 3 7 := ⟨by decide +kernel, rfl⟩
theorem eX4_takeAllOff_7 : DC mX4_takeAllOff 7 (.getfield 40) 3 10 := ⟨by decide +kernel, rfl⟩
theorem eX4_takeAllOff_10 : DJ mX4_takeAllOff 10 (.if_icmp .ge) 35 13 := ⟨25, by decide +kernel, by decide, rfl⟩
theorem eX4_takeAllOff_13 : DC mX4_takeAllOff 13 (.aload_n 0) 1 14 := ⟨by decide +kernel, rfl⟩
theorem eX4_takeAllOff_14 : DC mX4_takeAllOff 14 (.getfield 29) 3 17 := ⟨by decide +kernel, rfl⟩
theorem eX4_takeAllOff_17 : DC mX4_takeAllOff 17 (.aload_n 0) 1 18 := ⟨by decide +kernel, rfl⟩
theorem eX4_takeAllOff_18 : DC mX4_takeAllOff 18 (.getfield 12) 3 21 := ⟨by decide +kernel, rfl⟩
theorem eX4_takeAllOff_21 : DC mX4_takeAllOff 21 (.getfield 82) 3 24 := ⟨by decide +kernel, rfl⟩
theorem eX4_takeAllOff_24 : DC mX4_takeAllOff 24 (.iload_n 1) 1 25 := ⟨by decide +kernel, rfl⟩
theorem eX4_takeAllOff_25 : DC mX4_takeAllOff 25 .iaload 1 26 := ⟨by decide +kernel, rfl⟩
theorem eX4_takeAllOff_26 : DC mX4_takeAllOff 26 (.invokevirtual 85) 3 29 := ⟨by decide +kernel, rfl⟩
theorem eX4_takeAllOff_29 : DC mX4_takeAllOff 29 (.iinc 1 1) 3 32 := ⟨by decide +kernel, rfl⟩
theorem eX4_takeAllOff_32 : DJ mX4_takeAllOff 32 .goto 2 35 := ⟨(-30), by decide +kernel, by decide, rfl⟩
theorem eX4_takeAllOff_35 : DC mX4_takeAllOff 35 .return_ 1 36 := ⟨by decide +kernel, rfl⟩
theorem eX5_has_0 : DC mX5_has 0 (.iload_n 1) 1 1 := ⟨by decide +kernel, rfl⟩
theorem eX5_has_1 : DJ mX5_has 1 (.ifCond .lt) 16 4 := ⟨15, by decide +kernel, by decide, rfl⟩
theorem eX5_has_4 : DC mX5_has 4 (.iload_n 1) 1 5 := ⟨by decide +kernel, rfl⟩
theorem eX5_has_5 : DC mX5_has 5 (.aload_n 0) 1 6 := ⟨by decide +kernel, rfl⟩
theorem eX5_has_6 : DC mX5_has 6 (.getfield 30) 3 9 := ⟨by decide +kernel, rfl⟩
theorem eX5_has_9 : DJ mX5_has 9 (.if_icmp .ge) 16 12 := ⟨7, by decide +kernel, by decide, rfl⟩
theorem eX5_has_12 : DC mX5_has 12 (.iconst 1) 1 13 := ⟨by decide +kernel, rfl⟩
theorem eX5_has_13 : DJ mX5_has 13 .goto 17 16 := ⟨4, by decide +kernel, by decide, rfl⟩
theorem eX5_has_16 : DC mX5_has 16 (.iconst 0) 1 17 := ⟨by decide +kernel, rfl⟩
theorem eX5_has_17 : DC mX5_has 17 .ireturn 1 18 := ⟨by decide +kernel, rfl⟩
theorem eX5_add_0 : DC mX5_add 0 (.aload_n 0) 1 1 := ⟨by decide +kernel, rfl⟩
theorem eX5_add_1 : DC mX5_add 1 (.getfield 30) 3 4 := ⟨by decide +kernel, rfl⟩
theorem eX5_add_4 : DC mX5_add 4 (.iconst 5) 1 5 := ⟨by decide +kernel, rfl⟩
theorem eX5_add_5 : DC mX5_add 5 .imul 1 6 := ⟨by decide +kernel, rfl⟩
theorem eX5_add_6 : DC mX5_add 6 (.istore 6) 2 8 := ⟨by decide +kernel, rfl⟩
theorem eX5_add_8 : DC mX5_add 8 (.aload_n 0) 1 9 := ⟨by decide +kernel, rfl⟩
theorem eX5_add_9 : DC mX5_add 9 (.getfield 9) 3 12 := ⟨by decide +kernel, rfl⟩
theorem eX5_add_12 : DC mX5_add 12 (.iload 6) 2 14 := ⟨by decide +kernel, rfl⟩
theorem eX5_add_14 : DC mX5_add 14 (.iconst 0) 1 15 := ⟨by decide +kernel, rfl⟩
theorem eX5_add_15 : DC mX5_add 15 .iadd 1 16 := ⟨by decide +kernel, rfl⟩
theorem eX5_add_16 : DC mX5_add 16 (.iload_n 1) 1 17 := ⟨by decide +kernel, rfl⟩
theorem eX5_add_17 : DC mX5_add 17 .iastore 1 18 := ⟨by decide +kernel, rfl⟩
theorem eX5_add_18 : DC mX5_add 18 (.aload_n 0) 1 19 := ⟨by decide +kernel, rfl⟩
theorem eX5_add_19 : DC mX5_add 19 (.getfield 9) 3 22 := ⟨by decide +kernel, rfl⟩
theorem eX5_add_22 : DC mX5_add 22 (.iload 6) 2 24 := ⟨by decide +kernel, rfl⟩
theorem eX5_add_24 : DC mX5_add 24 (.iconst 1) 1 25 := ⟨by decide +kernel, rfl⟩
theorem eX5_add_25 : DC mX5_add 25 .iadd 1 26 := ⟨by decide +kernel, rfl⟩
theorem eX5_add_26 : DC mX5_add 26 (.iload_n 2) 1 27 := ⟨by decide +kernel, rfl⟩
theorem eX5_add_27 : DC mX5_add 27 .iastore 1 28 := ⟨by decide +kernel, rfl⟩
theorem eX5_add_28 : DC mX5_add 28 (.aload_n 0) 1 29 := ⟨by decide +kernel, rfl⟩
theorem eX5_add_29 : DC mX5_add 29 (.getfield 9) 3 32 := ⟨by decide +kernel, rfl⟩
theorem eX5_add_32 : DC mX5_add 32 (.iload 6) 2 34 := ⟨by decide +kernel, rfl⟩
theorem eX5_add_34 : DC mX5_add 34 (.iconst 2) 1 35 := ⟨by decide +kernel, rfl⟩
theorem eX5_add_35 : DC mX5_add 35 .iadd 1 36 := ⟨by decide +kernel, rfl⟩
theorem eX5_add_36 : DC mX5_add 36 (.iload_n 3) 1 37 := ⟨by decide +kernel, rfl⟩
theorem eX5_add_37 : DC mX5_add 37 .iastore 1 38 := ⟨by decide +kernel, rfl⟩
theorem eX5_add_38 : DC mX5_add 38 (.aload_n 0) 1 39 := ⟨by decide +kernel, rfl⟩
theorem eX5_add_39 : DC mX5_add 39 (.getfield 9) 3 42 := ⟨by decide +kernel, rfl⟩
theorem eX5_add_42 : DC mX5_add 42 (.iload 6) 2 44 := ⟨by decide +kernel, rfl⟩
theorem eX5_add_44 : DC mX5_add 44 (.iconst 3) 1 45 := ⟨by decide +kernel, rfl⟩
theorem eX5_add_45 : DC mX5_add 45 .iadd 1 46 := ⟨by decide +kernel, rfl⟩
theorem eX5_add_46 : DC mX5_add 46 (.iload 4) 2 48 := ⟨by decide +kernel, rfl⟩
theorem eX5_add_48 : DC mX5_add 48 .iastore 1 49 := ⟨by decide +kernel, rfl⟩
theorem eX5_add_49 : DC mX5_add 49 (.aload_n 0) 1 50 := ⟨by decide +kernel, rfl⟩
theorem eX5_add_50 : DC mX5_add 50 (.getfield 9) 3 53 := ⟨by decide +kernel, rfl⟩
theorem eX5_add_53 : DC mX5_add 53 (.iload 6) 2 55 := ⟨by decide +kernel, rfl⟩
theorem eX5_add_55 : DC mX5_add 55 (.iconst 4) 1 56 := ⟨by decide +kernel, rfl⟩
theorem eX5_add_56 : DC mX5_add 56 .iadd 1 57 := ⟨by decide +kernel, rfl⟩
theorem eX5_add_57 : DC mX5_add 57 (.iload 5) 2 59 := ⟨by decide +kernel, rfl⟩
theorem eX5_add_59 : DC mX5_add 59 .iastore 1 60 := ⟨by decide +kernel, rfl⟩
theorem eX5_add_60 : DC mX5_add 60 (.aload_n 0) 1 61 := ⟨by decide +kernel, rfl⟩
theorem eX5_add_61 : DC mX5_add 61 (.getfield 15) 3 64 := ⟨by decide +kernel, rfl⟩
theorem eX5_add_64 : DC mX5_add 64 (.aload_n 0) 1 65 := ⟨by decide +kernel, rfl⟩
theorem eX5_add_65 : DC mX5_add 65 (.getfield 30) 3 68 := ⟨by decide +kernel, rfl⟩
theorem eX5_add_68 : DC mX5_add 68 (.iconst 5) 1 69 := ⟨by decide +kernel, rfl⟩
theorem eX5_add_69 : DC mX5_add 69 .iastore 1 70 := ⟨by decide +kernel, rfl⟩
theorem eX5_add_70 : DC mX5_add 70 (.aload_n 0) 1 71 := ⟨by decide +kernel, rfl⟩
theorem eX5_add_71 : DC mX5_add 71 .dup 1 72 := ⟨by decide +kernel, rfl⟩
theorem eX5_add_72 : DC mX5_add 72 (.getfield 30) 3 75 := ⟨by decide +kernel, rfl⟩
theorem eX5_add_75 : DC mX5_add 75 (.iconst 1) 1 76 := ⟨by decide +kernel, rfl⟩
theorem eX5_add_76 : DC mX5_add 76 .iadd 1 77 := ⟨by decide +kernel, rfl⟩
theorem eX5_add_77 : DC mX5_add 77 (.putfield 30) 3 80 := ⟨by decide +kernel, rfl⟩
theorem eX5_add_80 : DC mX5_add 80 (.aload_n 0) 1 81 := ⟨by decide +kernel, rfl⟩
theorem eX5_add_81 : DC mX5_add 81 (.getfield 30) 3 84 := ⟨by decide +kernel, rfl⟩
theorem eX5_add_84 : DC mX5_add 84 (.iconst 1) 1 85 := ⟨by decide +kernel, rfl⟩
theorem eX5_add_85 : DC mX5_add 85 .isub 1 86 := ⟨by decide +kernel, rfl⟩
theorem eX5_add_86 : DC mX5_add 86 .ireturn 1 87 := ⟨by decide +kernel, rfl⟩
theorem eX5_kindOf_0 : DC mX5_kindOf 0 (.aload_n 0) 1 1 := ⟨by decide +kernel, rfl⟩
theorem eX5_kindOf_1 : DC mX5_kindOf 1 (.getfield 9) 3 4 := ⟨by decide +kernel, rfl⟩
theorem eX5_kindOf_4 : DC mX5_kindOf 4 (.iload_n 1) 1 5 := ⟨by decide +kernel, rfl⟩
theorem eX5_kindOf_5 : DC mX5_kindOf 5 (.iconst 5) 1 6 := ⟨by decide +kernel, rfl⟩
theorem eX5_kindOf_6 : DC mX5_kindOf 6 .imul 1 7 := ⟨by decide +kernel, rfl⟩
theorem eX5_kindOf_7 : DC mX5_kindOf 7 (.iconst 0) 1 8 := ⟨by decide +kernel, rfl⟩
theorem eX5_kindOf_8 : DC mX5_kindOf 8 .iadd 1 9 := ⟨by decide +kernel, rfl⟩
theorem eX5_kindOf_9 : DC mX5_kindOf 9 .iaload 1 10 := ⟨by decide +kernel, rfl⟩
theorem eX5_kindOf_10 : DC mX5_kindOf 10 .ireturn 1 11 := ⟨by decide +kernel, rfl⟩
theorem eX5_wingOf_0 : DC mX5_wingOf 0 (.aload_n 0) 1 1 := ⟨by decide +kernel, rfl⟩
theorem eX5_wingOf_1 : DC mX5_wingOf 1 (.getfield 9) 3 4 := ⟨by decide +kernel, rfl⟩
theorem eX5_wingOf_4 : DC mX5_wingOf 4 (.iload_n 1) 1 5 := ⟨by decide +kernel, rfl⟩
theorem eX5_wingOf_5 : DC mX5_wingOf 5 (.iconst 5) 1 6 := ⟨by decide +kernel, rfl⟩
theorem eX5_wingOf_6 : DC mX5_wingOf 6 .imul 1 7 := ⟨by decide +kernel, rfl⟩
theorem eX5_wingOf_7 : DC mX5_wingOf 7 (.iconst 1) 1 8 := ⟨by decide +kernel, rfl⟩
theorem eX5_wingOf_8 : DC mX5_wingOf 8 .iadd 1 9 := ⟨by decide +kernel, rfl⟩
theorem eX5_wingOf_9 : DC mX5_wingOf 9 .iaload 1 10 := ⟨by decide +kernel, rfl⟩
theorem eX5_wingOf_10 : DC mX5_wingOf 10 .ireturn 1 11 := ⟨by decide +kernel, rfl⟩
theorem eX5_inOf_0 : DC mX5_inOf 0 (.aload_n 0) 1 1 := ⟨by decide +kernel, rfl⟩
theorem eX5_inOf_1 : DC mX5_inOf 1 (.getfield 9) 3 4 := ⟨by decide +kernel, rfl⟩
theorem eX5_inOf_4 : DC mX5_inOf 4 (.iload_n 1) 1 5 := ⟨by decide +kernel, rfl⟩
theorem eX5_inOf_5 : DC mX5_inOf 5 (.iconst 5) 1 6 := ⟨by decide +kernel, rfl⟩
theorem eX5_inOf_6 : DC mX5_inOf 6 .imul 1 7 := ⟨by decide +kernel, rfl⟩
theorem eX5_inOf_7 : DC mX5_inOf 7 (.iconst 2) 1 8 := ⟨by decide +kernel, rfl⟩
theorem eX5_inOf_8 : DC mX5_inOf 8 .iadd 1 9 := ⟨by decide +kernel, rfl⟩
theorem eX5_inOf_9 : DC mX5_inOf 9 .iaload 1 10 := ⟨by decide +kernel, rfl⟩
theorem eX5_inOf_10 : DC mX5_inOf 10 .ireturn 1 11 := ⟨by decide +kernel, rfl⟩
theorem eX5_outOf_0 : DC mX5_outOf 0 (.aload_n 0) 1 1 := ⟨by decide +kernel, rfl⟩
theorem eX5_outOf_1 : DC mX5_outOf 1 (.getfield 15) 3 4 := ⟨by decide +kernel, rfl⟩
theorem eX5_outOf_4 : DC mX5_outOf 4 (.iload_n 1) 1 5 := ⟨by decide +kernel, rfl⟩
theorem eX5_outOf_5 : DC mX5_outOf 5 .iaload 1 6 := ⟨by decide +kernel, rfl⟩
theorem eX5_outOf_6 : DC mX5_outOf 6 (.iconst 3) 1 7 := ⟨by decide +kernel, rfl⟩
theorem eX5_outOf_7 : DJ mX5_outOf 7 (.if_icmp .le) 23 10 := ⟨16, by decide +kernel, by decide, rfl⟩
theorem eX5_outOf_10 : DC mX5_outOf 10 (.aload_n 0) 1 11 := ⟨by decide +kernel, rfl⟩
theorem eX5_outOf_11 : DC mX5_outOf 11 (.getfield 9) 3 14 := ⟨by decide +kernel, rfl⟩
theorem eX5_outOf_14 : DC mX5_outOf 14 (.iload_n 1) 1 15 := ⟨by decide +kernel, rfl⟩
theorem eX5_outOf_15 : DC mX5_outOf 15 (.iconst 5) 1 16 := ⟨by decide +kernel, rfl⟩
theorem eX5_outOf_16 : DC mX5_outOf 16 .imul 1 17 := ⟨by decide +kernel, rfl⟩
theorem eX5_outOf_17 : DC mX5_outOf 17 (.iconst 3) 1 18 := ⟨by decide +kernel, rfl⟩
theorem eX5_outOf_18 : DC mX5_outOf 18 .iadd 1 19 := ⟨by decide +kernel, rfl⟩
theorem eX5_outOf_19 : DC mX5_outOf 19 .iaload 1 20 := ⟨by decide +kernel, rfl⟩
theorem eX5_outOf_20 : DJ mX5_outOf 20 .goto 26 23 := ⟨6, by decide +kernel, by decide, rfl⟩
theorem eX5_outOf_23 : DC mX5_outOf 23 (.sipush 2880) 3 26 := ⟨by decide +kernel, rfl⟩
theorem eX5_outOf_26 : DC mX5_outOf 26 .ireturn 1 27 := ⟨by decide +kernel, rfl⟩
theorem eX5_needOf_0 : DC mX5_needOf 0 (.aload_n 0) 1 1 := ⟨by decide +kernel, rfl⟩
theorem eX5_needOf_1 : DC mX5_needOf 1 (.getfield 15) 3 4 := ⟨by decide +kernel, rfl⟩
theorem eX5_needOf_4 : DC mX5_needOf 4 (.iload_n 1) 1 5 := ⟨by decide +kernel, rfl⟩
theorem eX5_needOf_5 : DC mX5_needOf 5 .iaload 1 6 := ⟨by decide +kernel, rfl⟩
theorem eX5_needOf_6 : DC mX5_needOf 6 (.iconst 4) 1 7 := ⟨by decide +kernel, rfl⟩
theorem eX5_needOf_7 : DJ mX5_needOf 7 (.if_icmp .le) 23 10 := ⟨16, by decide +kernel, by decide, rfl⟩
theorem eX5_needOf_10 : DC mX5_needOf 10 (.aload_n 0) 1 11 := ⟨by decide +kernel, rfl⟩
theorem eX5_needOf_11 : DC mX5_needOf 11 (.getfield 9) 3 14 := ⟨by decide +kernel, rfl⟩
theorem eX5_needOf_14 : DC mX5_needOf 14 (.iload_n 1) 1 15 := ⟨by decide +kernel, rfl⟩
theorem eX5_needOf_15 : DC mX5_needOf 15 (.iconst 5) 1 16 := ⟨by decide +kernel, rfl⟩
theorem eX5_needOf_16 : DC mX5_needOf 16 .imul 1 17 := ⟨by decide +kernel, rfl⟩
theorem eX5_needOf_17 : DC mX5_needOf 17 (.iconst 4) 1 18 := ⟨by decide +kernel, rfl⟩
theorem eX5_needOf_18 : DC mX5_needOf 18 .iadd 1 19 := ⟨by decide +kernel, rfl⟩
theorem eX5_needOf_19 : DC mX5_needOf 19 .iaload 1 20 := ⟨by decide +kernel, rfl⟩
theorem eX5_needOf_20 : DJ mX5_needOf 20 .goto 24 23 := ⟨4, by decide +kernel, by decide, rfl⟩
theorem eX5_needOf_23 : DC mX5_needOf 23 (.iconst 0) 1 24 := ⟨by decide +kernel, rfl⟩
theorem eX5_needOf_24 : DC mX5_needOf 24 .ireturn 1 25 := ⟨by decide +kernel, rfl⟩
theorem eX5_isUnknown_0 : DC mX5_isUnknown 0 (.aload_n 0) 1 1 := ⟨by decide +kernel, rfl⟩
theorem eX5_isUnknown_1 : DC mX5_isUnknown 1 (.getfield 15) 3 4 := ⟨by decide +kernel, rfl⟩
theorem eX5_isUnknown_4 : DC mX5_isUnknown 4 (.iload_n 1) 1 5 := ⟨by decide +kernel, rfl⟩
theorem eX5_isUnknown_5 : DC mX5_isUnknown 5 .iaload 1 6 := ⟨by decide +kernel, rfl⟩
theorem eX5_isUnknown_6 : DC mX5_isUnknown 6 (.iconst 2) 1 7 := ⟨by decide +kernel, rfl⟩
theorem eX5_isUnknown_7 : DJ mX5_isUnknown 7 (.if_icmp .gt) 14 10 := ⟨7, by decide +kernel, by decide, rfl⟩
theorem eX5_isUnknown_10 : DC mX5_isUnknown 10 (.iconst 1) 1 11 := ⟨by decide +kernel, rfl⟩
theorem eX5_isUnknown_11 : DJ mX5_isUnknown 11 .goto 15 14 := ⟨4, by decide +kernel, by decide, rfl⟩
theorem eX5_isUnknown_14 : DC mX5_isUnknown 14 (.iconst 0) 1 15 := ⟨by decide +kernel, rfl⟩
theorem eX5_isUnknown_15 : DC mX5_isUnknown 15 .ireturn 1 16 := ⟨by decide +kernel, rfl⟩
theorem eX5_hasBegun_0 : DC mX5_hasBegun 0 (.aload_n 0) 1 1 := ⟨by decide +kernel, rfl⟩
theorem eX5_hasBegun_1 : DC mX5_hasBegun 1 (.iload_n 1) 1 2 := ⟨by decide +kernel, rfl⟩
theorem eX5_hasBegun_2 : DC mX5_hasBegun 2 (.invokevirtual 34) 3 5 := ⟨by decide +kernel, rfl⟩
theorem eX5_hasBegun_5 : DJ mX5_hasBegun 5 (.ifCond .ne) 24 8 := ⟨19, by decide +kernel, by decide, rfl⟩
theorem eX5_hasBegun_8 : DC mX5_hasBegun 8 (.aload_n 0) 1 9 := ⟨by decide +kernel, rfl⟩
theorem eX5_hasBegun_9 : DC mX5_hasBegun 9 (.iload_n 1) 1 10 := ⟨by decide +kernel, rfl⟩
theorem eX5_hasBegun_10 : DC mX5_hasBegun 10 (.invokevirtual 38) 3 13 := ⟨by decide +kernel, rfl⟩
theorem eX5_hasBegun_13 : DC mX5_hasBegun 13 (.aload_n 0) 1 14 := ⟨by decide +kernel, rfl⟩
theorem eX5_hasBegun_14 : DC mX5_hasBegun 14 (.getfield 42) 3 17 := ⟨by decide +kernel, rfl⟩
theorem eX5_hasBegun_17 : DJ mX5_hasBegun 17 (.if_icmp .gt) 24 20 := ⟨7, by decide +kernel, by decide, rfl⟩
theorem eX5_hasBegun_20 : DC mX5_hasBegun 20 (.iconst 1) 1 21 := ⟨by decide +kernel, rfl⟩
theorem eX5_hasBegun_21 : DJ mX5_hasBegun 21 .goto 25 24 := ⟨4, by decide +kernel, by decide, rfl⟩
theorem eX5_hasBegun_24 : DC mX5_hasBegun 24 (.iconst 0) 1 25 := ⟨by decide +kernel, rfl⟩
theorem eX5_hasBegun_25 : DC mX5_hasBegun 25 .ireturn 1 26 := ⟨by decide +kernel, rfl⟩
theorem eX5_isPut_0 : DC mX5_isPut 0 (.aload_n 0) 1 1 := ⟨by decide +kernel, rfl⟩
theorem eX5_isPut_1 : DC mX5_isPut 1 (.getfield 18) 3 4 := ⟨by decide +kernel, rfl⟩
theorem eX5_isPut_4 : DC mX5_isPut 4 (.iload_n 1) 1 5 := ⟨by decide +kernel, rfl⟩
theorem eX5_isPut_5 : DC mX5_isPut 5 .iaload 1 6 := ⟨by decide +kernel, rfl⟩
theorem eX5_isPut_6 : DJ mX5_isPut 6 (.ifCond .le) 13 9 := ⟨7, by decide +kernel, by decide, rfl⟩
theorem eX5_isPut_9 : DC mX5_isPut 9 (.iconst 1) 1 10 := ⟨by decide +kernel, rfl⟩
theorem eX5_isPut_10 : DJ mX5_isPut 10 .goto 14 13 := ⟨4, by decide +kernel, by decide, rfl⟩
theorem eX5_isPut_13 : DC mX5_isPut 13 (.iconst 0) 1 14 := ⟨by decide +kernel, rfl⟩
theorem eX5_isPut_14 : DC mX5_isPut 14 .ireturn 1 15 := ⟨by decide +kernel, rfl⟩
theorem eX5_isToCome_0 : DC mX5_isToCome 0 (.aload_n 0) 1 1 := ⟨by decide +kernel, rfl⟩
theorem eX5_isToCome_1 : DC mX5_isToCome 1 (.iload_n 1) 1 2 := ⟨by decide +kernel, rfl⟩
theorem eX5_isToCome_2 : DC mX5_isToCome 2 (.invokevirtual 45) 3 5 := ⟨by decide +kernel, rfl⟩
theorem eX5_isToCome_5 : DJ mX5_isToCome 5 (.ifCond .ne) 28 8 := ⟨23, by decide +kernel, by decide, rfl⟩
theorem eX5_isToCome_8 : DC mX5_isToCome 8 (.aload_n 0) 1 9 := ⟨by decide +kernel, rfl⟩
theorem eX5_isToCome_9 : DC mX5_isToCome 9 (.iload_n 1) 1 10 := ⟨by decide +kernel, rfl⟩
theorem eX5_isToCome_10 : DC mX5_isToCome 10 (.invokevirtual 34) 3 13 := ⟨by decide +kernel, rfl⟩
theorem eX5_isToCome_13 : DJ mX5_isToCome 13 (.ifCond .ne) 28 16 := ⟨15, by decide +kernel, by decide, rfl⟩
theorem eX5_isToCome_16 : DC mX5_isToCome 16 (.aload_n 0) 1 17 := ⟨by decide +kernel, rfl⟩
theorem eX5_isToCome_17 : DC mX5_isToCome 17 (.iload_n 1) 1 18 := ⟨by decide +kernel, rfl⟩
theorem eX5_isToCome_18 : DC mX5_isToCome 18 (.invokevirtual 48) 3 21 := ⟨by decide +kernel, rfl⟩
theorem eX5_isToCome_21 : DJ mX5_isToCome 21 (.ifCond .ne) 28 24 := ⟨7, by decide +kernel, by decide, rfl⟩
theorem eX5_isToCome_24 : DC mX5_isToCome 24 (.iconst 1) 1 25 := ⟨by decide +kernel, rfl⟩
theorem eX5_isToCome_25 : DJ mX5_isToCome 25 .goto 29 28 := ⟨4, by decide +kernel, by decide, rfl⟩
theorem eX5_isToCome_28 : DC mX5_isToCome 28 (.iconst 0) 1 29 := ⟨by decide +kernel, rfl⟩
theorem eX5_isToCome_29 : DC mX5_isToCome 29 .ireturn 1 30 := ⟨by decide +kernel, rfl⟩
theorem eX5_isWaiting_0 : DC mX5_isWaiting 0 (.aload_n 0) 1 1 := ⟨by decide +kernel, rfl⟩
theorem eX5_isWaiting_1 : DC mX5_isWaiting 1 (.iload_n 1) 1 2 := ⟨by decide +kernel, rfl⟩
theorem eX5_isWaiting_2 : DC mX5_isWaiting 2 (.invokevirtual 45) 3 5 := ⟨by decide +kernel, rfl⟩
theorem eX5_isWaiting_5 : DJ mX5_isWaiting 5 (.ifCond .ne) 32 8 := ⟨27, by decide +kernel, by decide, rfl⟩
theorem eX5_isWaiting_8 : DC mX5_isWaiting 8 (.aload_n 0) 1 9 := ⟨by decide +kernel, rfl⟩
theorem eX5_isWaiting_9 : DC mX5_isWaiting 9 (.iload_n 1) 1 10 := ⟨by decide +kernel, rfl⟩
theorem eX5_isWaiting_10 : DC mX5_isWaiting 10 (.invokevirtual 48) 3 13 := ⟨by decide +kernel, rfl⟩
theorem eX5_isWaiting_13 : DJ mX5_isWaiting 13 (.ifCond .eq) 32 16 := ⟨19, by decide +kernel, by decide, rfl⟩
theorem eX5_isWaiting_16 : DC mX5_isWaiting 16 (.aload_n 0) 1 17 := ⟨by decide +kernel, rfl⟩
theorem eX5_isWaiting_17 : DC mX5_isWaiting 17 (.iload_n 1) 1 18 := ⟨by decide +kernel, rfl⟩
theorem eX5_isWaiting_18 : DC mX5_isWaiting 18 (.invokevirtual 51) 3 21 := ⟨by decide +kernel, rfl⟩
theorem eX5_isWaiting_21 : DC mX5_isWaiting 21 (.aload_n 0) 1 22 := ⟨by decide +kernel, rfl⟩
theorem eX5_isWaiting_22 : DC mX5_isWaiting 22 (.getfield 42) 3 25 := ⟨by decide +kernel, rfl⟩
theorem eX5_isWaiting_25 : DJ mX5_isWaiting 25 (.if_icmp .le) 32 28 := ⟨7, by decide +kernel, by decide, rfl⟩
theorem eX5_isWaiting_28 : DC mX5_isWaiting 28 (.iconst 1) 1 29 := ⟨by decide +kernel, rfl⟩
theorem eX5_isWaiting_29 : DJ mX5_isWaiting 29 .goto 33 32 := ⟨4, by decide +kernel, by decide, rfl⟩
theorem eX5_isWaiting_32 : DC mX5_isWaiting 32 (.iconst 0) 1 33 := ⟨by decide +kernel, rfl⟩
theorem eX5_isWaiting_33 : DC mX5_isWaiting 33 .ireturn 1 34 := ⟨by decide +kernel, rfl⟩
theorem eX5_standOf_0 : DC mX5_standOf 0 (.aload_n 0) 1 1 := ⟨by decide +kernel, rfl⟩
theorem eX5_standOf_1 : DC mX5_standOf 1 (.getfield 21) 3 4 := ⟨by decide +kernel, rfl⟩
theorem eX5_standOf_4 : DC mX5_standOf 4 (.iload_n 1) 1 5 := ⟨by decide +kernel, rfl⟩
theorem eX5_standOf_5 : DC mX5_standOf 5 (.bipush 8) 2 7 := ⟨by decide +kernel, rfl⟩
theorem eX5_standOf_7 : DC mX5_standOf 7 .imul 1 8 := ⟨by decide +kernel, rfl⟩
theorem eX5_standOf_8 : DC mX5_standOf 8 (.iload_n 2) 1 9 := ⟨by decide +kernel, rfl⟩
theorem eX5_standOf_9 : DC mX5_standOf 9 .iadd 1 10 := ⟨by decide +kernel, rfl⟩
theorem eX5_standOf_10 : DC mX5_standOf 10 .iaload 1 11 := ⟨by decide +kernel, rfl⟩
theorem eX5_standOf_11 : DC mX5_standOf 11 .ireturn 1 12 := ⟨by decide +kernel, rfl⟩
theorem eX5_fromOf_0 : DC mX5_fromOf 0 (.aload_n 0) 1 1 := ⟨by decide +kernel, rfl⟩
theorem eX5_fromOf_1 : DC mX5_fromOf 1 (.getfield 24) 3 4 := ⟨by decide +kernel, rfl⟩
theorem eX5_fromOf_4 : DC mX5_fromOf 4 (.iload_n 1) 1 5 := ⟨by decide +kernel, rfl⟩
theorem eX5_fromOf_5 : DC mX5_fromOf 5 (.bipush 8) 2 7 := ⟨by decide +kernel, rfl⟩
theorem eX5_fromOf_7 : DC mX5_fromOf 7 .imul 1 8 := ⟨by decide +kernel, rfl⟩
theorem eX5_fromOf_8 : DC mX5_fromOf 8 (.iload_n 2) 1 9 := ⟨by decide +kernel, rfl⟩
theorem eX5_fromOf_9 : DC mX5_fromOf 9 .iadd 1 10 := ⟨by decide +kernel, rfl⟩
theorem eX5_fromOf_10 : DC mX5_fromOf 10 .iaload 1 11 := ⟨by decide +kernel, rfl⟩
theorem eX5_fromOf_11 : DC mX5_fromOf 11 .ireturn 1 12 := ⟨by decide +kernel, rfl⟩
theorem eX5_endOf_0 : DC mX5_endOf 0 (.aload_n 0) 1 1 := ⟨by decide +kernel, rfl⟩
theorem eX5_endOf_1 : DC mX5_endOf 1 (.getfield 27) 3 4 := ⟨by decide +kernel, rfl⟩
theorem eX5_endOf_4 : DC mX5_endOf 4 (.iload_n 1) 1 5 := ⟨by decide +kernel, rfl⟩
theorem eX5_endOf_5 : DC mX5_endOf 5 (.bipush 8) 2 7 := ⟨by decide +kernel, rfl⟩
theorem eX5_endOf_7 : DC mX5_endOf 7 .imul 1 8 := ⟨by decide +kernel, rfl⟩
theorem eX5_endOf_8 : DC mX5_endOf 8 (.iload_n 2) 1 9 := ⟨by decide +kernel, rfl⟩
theorem eX5_endOf_9 : DC mX5_endOf 9 .iadd 1 10 := ⟨by decide +kernel, rfl⟩
theorem eX5_endOf_10 : DC mX5_endOf 10 .iaload 1 11 := ⟨by decide +kernel, rfl⟩
theorem eX5_endOf_11 : DC mX5_endOf 11 .ireturn 1 12 := ⟨by decide +kernel, rfl⟩
theorem eX5_isStayAt_0 : DC mX5_isStayAt 0 (.iload_n 1) 1 1 := ⟨by decide +kernel, rfl⟩
theorem eX5_isStayAt_1 : DC mX5_isStayAt 1 (.bipush 8) 2 3 := ⟨by decide +kernel, rfl⟩
theorem eX5_isStayAt_3 : DC mX5_isStayAt 3 .imul 1 4 := ⟨by decide +kernel, rfl⟩
theorem eX5_isStayAt_4 : DC mX5_isStayAt 4 (.iload_n 2) 1 5 := ⟨by decide +kernel, rfl⟩
theorem eX5_isStayAt_5 : DC mX5_isStayAt 5 .iadd 1 6 := ⟨by decide +kernel, rfl⟩
theorem eX5_isStayAt_6 : DC mX5_isStayAt 6 (.istore 6) 2 8 := ⟨by decide +kernel, rfl⟩
theorem eX5_isStayAt_8 : DC mX5_isStayAt 8 (.aload_n 0) 1 9 := ⟨by decide +kernel, rfl⟩
theorem eX5_isStayAt_9 : DC mX5_isStayAt 9 (.getfield 21) 3 12 := ⟨by decide +kernel, rfl⟩
theorem eX5_isStayAt_12 : DC mX5_isStayAt 12 (.iload 6) 2 14 := ⟨by decide +kernel, rfl⟩
theorem eX5_isStayAt_14 : DC mX5_isStayAt 14 .iaload 1 15 := ⟨by decide +kernel, rfl⟩
theorem eX5_isStayAt_15 : DC mX5_isStayAt 15 (.iload_n 3) 1 16 := ⟨by decide +kernel, rfl⟩
theorem eX5_isStayAt_16 : DJ mX5_isStayAt 16 (.if_icmp .ne) 47 19 := ⟨31, by decide +kernel, by decide, rfl⟩
theorem eX5_isStayAt_19 : DC mX5_isStayAt 19 (.aload_n 0) 1 20 := ⟨by decide +kernel, rfl⟩
theorem eX5_isStayAt_20 : DC mX5_isStayAt 20 (.getfield 24) 3 23 := ⟨by decide +kernel, rfl⟩
theorem eX5_isStayAt_23 : DC mX5_isStayAt 23 (.iload 6) 2 25 := ⟨by decide +kernel, rfl⟩
theorem eX5_isStayAt_25 : DC mX5_isStayAt 25 .iaload 1 26 := ⟨by decide +kernel, rfl⟩
theorem eX5_isStayAt_26 : DC mX5_isStayAt 26 (.iload 5) 2 28 := ⟨by decide +kernel, rfl⟩
theorem eX5_isStayAt_28 : DJ mX5_isStayAt 28 (.if_icmp .ge) 47 31 := ⟨19, by decide +kernel, by decide, rfl⟩
theorem eX5_isStayAt_31 : DC mX5_isStayAt 31 (.iload 4) 2 33 := ⟨by decide +kernel, rfl⟩
theorem eX5_isStayAt_33 : DC mX5_isStayAt 33 (.aload_n 0) 1 34 := ⟨by decide +kernel, rfl⟩
theorem eX5_isStayAt_34 : DC mX5_isStayAt 34 (.getfield 27) 3 37 := ⟨by decide +kernel, rfl⟩
theorem eX5_isStayAt_37 : DC mX5_isStayAt 37 (.iload 6) 2 39 := ⟨by decide +kernel, rfl⟩
theorem eX5_isStayAt_39 : DC mX5_isStayAt 39 .iaload 1 40 := ⟨by decide +kernel, rfl⟩
theorem eX5_isStayAt_40 : DJ mX5_isStayAt 40 (.if_icmp .ge) 47 43 := ⟨7, by decide +kernel, by decide, rfl⟩
theorem eX5_isStayAt_43 : DC mX5_isStayAt 43 (.iconst 1) 1 44 := ⟨by decide +kernel, rfl⟩
theorem eX5_isStayAt_44 : DJ mX5_isStayAt 44 .goto 48 47 := ⟨4, by decide +kernel, by decide, rfl⟩
theorem eX5_isStayAt_47 : DC mX5_isStayAt 47 (.iconst 0) 1 48 := ⟨by decide +kernel, rfl⟩
theorem eX5_isStayAt_48 : DC mX5_isStayAt 48 .ireturn 1 49 := ⟨by decide +kernel, rfl⟩
theorem eX5_isThere_0 : DC mX5_isThere 0 (.iconst 0) 1 1 := ⟨by decide +kernel, rfl⟩
theorem eX5_isThere_1 : DC mX5_isThere 1 (.istore 5) 2 3 := ⟨by decide +kernel, rfl⟩
theorem eX5_isThere_3 : DC mX5_isThere 3 (.iload 5) 2 5 := ⟨by decide +kernel, rfl⟩
theorem eX5_isThere_5 : DC mX5_isThere 5 (.aload_n 0) 1 6 := ⟨by decide +kernel, rfl⟩
theorem eX5_isThere_6 : DC mX5_isThere 6 (.getfield 18) 3 9 := ⟨by decide +kernel, rfl⟩
theorem eX5_isThere_9 : DC mX5_isThere 9 (.iload_n 1) 1 10 := ⟨by decide +kernel, rfl⟩
theorem eX5_isThere_10 : DC mX5_isThere 10 .iaload 1 11 := ⟨by decide +kernel, rfl⟩
theorem eX5_isThere_11 : DJ mX5_isThere 11 (.if_icmp .ge) 36 14 := ⟨25, by decide +kernel, by decide, rfl⟩
theorem eX5_isThere_14 : DC mX5_isThere 14 (.aload_n 0) 1 15 := ⟨by decide +kernel, rfl⟩
theorem eX5_isThere_15 : DC mX5_isThere 15 (.iload_n 1) 1 16 := ⟨by decide +kernel, rfl⟩
theorem eX5_isThere_16 : DC mX5_isThere 16 (.iload 5) 2 18 := ⟨by decide +kernel, rfl⟩
theorem eX5_isThere_18 : DC mX5_isThere 18 (.iload_n 2) 1 19 := ⟨by decide +kernel, rfl⟩
theorem eX5_isThere_19 : DC mX5_isThere 19 (.iload_n 3) 1 20 := ⟨by decide +kernel, rfl⟩
theorem eX5_isThere_20 : DC mX5_isThere 20 (.iload 4) 2 22 := ⟨by decide +kernel, rfl⟩
theorem eX5_isThere_22 : DC mX5_isThere 22 (.invokevirtual 54) 3 25 := ⟨by decide +kernel, rfl⟩
theorem eX5_isThere_25 : DJ mX5_isThere 25 (.ifCond .eq) 30 28 := ⟨5, by decide +kernel, by decide, rfl⟩
theorem eX5_isThere_28 : DC mX5_isThere 28 (.iconst 1) 1 29 := ⟨by decide +kernel, rfl⟩
theorem eX5_isThere_29 : DC mX5_isThere 29 .ireturn 1 30 := ⟨by decide +kernel, rfl⟩
theorem eX5_isThere_30 : DC mX5_isThere 30 (.iinc 5 1) 3 33 := ⟨by decide +kernel, rfl⟩
theorem eX5_isThere_33 : DJ mX5_isThere 33 .goto 3 36 := ⟨(-30), by decide +kernel, by decide, rfl⟩
theorem eX5_isThere_36 : DC mX5_isThere 36 (.iconst 0) 1 37 := ⟨by decide +kernel, rfl⟩
theorem eX5_isThere_37 : DC mX5_isThere 37 .ireturn 1 38 := ⟨by decide +kernel, rfl⟩
theorem eX5_place_0 : DC mX5_place 0 (.iload_n 2) 1 1 := ⟨by decide +kernel, rfl⟩
theorem eX5_place_1 : DC mX5_place 1 (.iconst (-1)) 1 2 := ⟨by decide +kernel, rfl⟩
theorem eX5_place_2 : DJ mX5_place 2 (.if_icmp .ne) 7 5 := ⟨5, by decide +kernel, by decide, rfl⟩
theorem eX5_place_5 : DC mX5_place 5 (.iconst 0) 1 6 := ⟨by decide +kernel, rfl⟩
theorem eX5_place_6 : DC mX5_place 6 .ireturn 1 7 := ⟨by decide +kernel, rfl⟩
theorem eX5_place_7 : DC mX5_place 7 (.aload_n 0) 1 8 := ⟨by decide +kernel, rfl⟩
theorem eX5_place_8 : DC mX5_place 8 (.getfield 18) 3 11 := ⟨by decide +kernel, rfl⟩
theorem eX5_place_11 : DC mX5_place 11 (.iload_n 1) 1 12 := ⟨by decide +kernel, rfl⟩
theorem eX5_place_12 : DC mX5_place 12 (.iconst 0) 1 13 := ⟨by decide +kernel, rfl⟩
theorem eX5_place_13 : DC mX5_place 13 .iastore 1 14 := ⟨by decide +kernel, rfl⟩
theorem eX5_place_14 : DC mX5_place 14 (.aload_n 0) 1 15 := ⟨by decide +kernel, rfl⟩
theorem eX5_place_15 : DC mX5_place 15 (.iload_n 1) 1 16 := ⟨by decide +kernel, rfl⟩
theorem eX5_place_16 : DC mX5_place 16 (.iload_n 2) 1 17 := ⟨by decide +kernel, rfl⟩
theorem eX5_place_17 : DC mX5_place 17 (.iload_n 3) 1 18 := ⟨by decide +kernel, rfl⟩
theorem eX5_place_18 : DC mX5_place 18 (.invokevirtual 58) 3 21 := ⟨by decide +kernel, rfl⟩
theorem eX5_place_21 : DC mX5_place 21 (.iconst 1) 1 22 := ⟨by decide +kernel, rfl⟩
theorem eX5_place_22 : DC mX5_place 22 .ireturn 1 23 := ⟨by decide +kernel, rfl⟩
theorem eX5_addStay_0 : DC mX5_addStay 0 (.iload_n 1) 1 1 := ⟨by decide +kernel, rfl⟩
theorem eX5_addStay_1 : DC mX5_addStay 1 (.bipush 8) 2 3 := ⟨by decide +kernel, rfl⟩
theorem eX5_addStay_3 : DC mX5_addStay 3 .imul 1 4 := ⟨by decide +kernel, rfl⟩
theorem eX5_addStay_4 : DC mX5_addStay 4 (.aload_n 0) 1 5 := ⟨by decide +kernel, rfl⟩
theorem eX5_addStay_5 : DC mX5_addStay 5 (.getfield 18) 3 8 := ⟨by decide +kernel, rfl⟩
theorem eX5_addStay_8 : DC mX5_addStay 8 (.iload_n 1) 1 9 := ⟨by decide +kernel, rfl⟩
theorem eX5_addStay_9 : DC mX5_addStay 9 .iaload 1 10 := ⟨by decide +kernel, rfl⟩
theorem eX5_addStay_10 : DC mX5_addStay 10 .iadd 1 11 := ⟨by decide +kernel, rfl⟩
theorem eX5_addStay_11 : DC mX5_addStay 11 (.istore 4) 2 13 := ⟨by decide +kernel, rfl⟩
theorem eX5_addStay_13 : DC mX5_addStay 13 (.aload_n 0) 1 14 := ⟨by decide +kernel, rfl⟩
theorem eX5_addStay_14 : DC mX5_addStay 14 (.getfield 21) 3 17 := ⟨by decide +kernel, rfl⟩
theorem eX5_addStay_17 : DC mX5_addStay 17 (.iload 4) 2 19 := ⟨by decide +kernel, rfl⟩
theorem eX5_addStay_19 : DC mX5_addStay 19 (.iload_n 2) 1 20 := ⟨by decide +kernel, rfl⟩
theorem eX5_addStay_20 : DC mX5_addStay 20 .iastore 1 21 := ⟨by decide +kernel, rfl⟩
theorem eX5_addStay_21 : DC mX5_addStay 21 (.aload_n 0) 1 22 := ⟨by decide +kernel, rfl⟩
theorem eX5_addStay_22 : DC mX5_addStay 22 (.getfield 24) 3 25 := ⟨by decide +kernel, rfl⟩
theorem eX5_addStay_25 : DC mX5_addStay 25 (.iload 4) 2 27 := ⟨by decide +kernel, rfl⟩
theorem eX5_addStay_27 : DC mX5_addStay 27 (.iload_n 3) 1 28 := ⟨by decide +kernel, rfl⟩
theorem eX5_addStay_28 : DC mX5_addStay 28 .iastore 1 29 := ⟨by decide +kernel, rfl⟩
theorem eX5_addStay_29 : DC mX5_addStay 29 (.aload_n 0) 1 30 := ⟨by decide +kernel, rfl⟩
theorem eX5_addStay_30 : DC mX5_addStay 30 (.getfield 27) 3 33 := ⟨by decide +kernel, rfl⟩
theorem eX5_addStay_33 : DC mX5_addStay 33 (.iload 4) 2 35 := ⟨by decide +kernel, rfl⟩
theorem eX5_addStay_35 : DC mX5_addStay 35 (.aload_n 0) 1 36 := ⟨by decide +kernel, rfl⟩
theorem eX5_addStay_36 : DC mX5_addStay 36 (.iload_n 1) 1 37 := ⟨by decide +kernel, rfl⟩
theorem eX5_addStay_37 : DC mX5_addStay 37 (.invokevirtual 51) 3 40 := ⟨by decide +kernel, rfl⟩
theorem eX5_addStay_40 : DC mX5_addStay 40 .iastore 1 41 := ⟨by decide +kernel, rfl⟩
theorem eX5_addStay_41 : DC mX5_addStay 41 (.aload_n 0) 1 42 := ⟨by decide +kernel, rfl⟩
theorem eX5_addStay_42 : DC mX5_addStay 42 (.getfield 18) 3 45 := ⟨by decide +kernel, rfl⟩
theorem eX5_addStay_45 : DC mX5_addStay 45 (.iload_n 1) 1 46 := ⟨by decide +kernel, rfl⟩
theorem eX5_addStay_46 : DC mX5_addStay 46 .dup2 1 47 := ⟨by decide +kernel, rfl⟩
theorem eX5_addStay_47 : DC mX5_addStay 47 .iaload 1 48 := ⟨by decide +kernel, rfl⟩
theorem eX5_addStay_48 : DC mX5_addStay 48 (.iconst 1) 1 49 := ⟨by decide +kernel, rfl⟩
theorem eX5_addStay_49 : DC mX5_addStay 49 .iadd 1 50 := ⟨by decide +kernel, rfl⟩
theorem eX5_addStay_50 : DC mX5_addStay 50 .iastore 1 51 := ⟨by decide +kernel, rfl⟩
theorem eX5_addStay_51 : DC mX5_addStay 51 .return_ 1 52 := ⟨by decide +kernel, rfl⟩
theorem eX5_endLastStay_0 : DC mX5_endLastStay 0 (.aload_n 0) 1 1 := ⟨by decide +kernel, rfl⟩
theorem eX5_endLastStay_1 : DC mX5_endLastStay 1 (.getfield 27) 3 4 := ⟨by decide +kernel, rfl⟩
theorem eX5_endLastStay_4 : DC mX5_endLastStay 4 (.iload_n 1) 1 5 := ⟨by decide +kernel, rfl⟩
theorem eX5_endLastStay_5 : DC mX5_endLastStay 5 (.bipush 8) 2 7 := ⟨by decide +kernel, rfl⟩
theorem eX5_endLastStay_7 : DC mX5_endLastStay 7 .imul 1 8 := ⟨by decide +kernel, rfl⟩
theorem eX5_endLastStay_8 : DC mX5_endLastStay 8 (.aload_n 0) 1 9 := ⟨by decide +kernel, rfl⟩
theorem eX5_endLastStay_9 : DC mX5_endLastStay 9 (.getfield 18) 3 12 := ⟨by decide +kernel, rfl⟩
theorem eX5_endLastStay_12 : DC mX5_endLastStay 12 (.iload_n 1) 1 13 := ⟨by decide +kernel, rfl⟩
theorem eX5_endLastStay_13 : DC mX5_endLastStay 13 .iaload 1 14 := ⟨by decide +kernel, rfl⟩
theorem eX5_endLastStay_14 : DC mX5_endLastStay 14 .iadd 1 15 := ⟨by decide +kernel, rfl⟩
theorem eX5_endLastStay_15 : DC mX5_endLastStay 15 (.iconst 1) 1 16 := ⟨by decide +kernel, rfl⟩
theorem eX5_endLastStay_16 : DC mX5_endLastStay 16 .isub 1 17 := ⟨by decide +kernel, rfl⟩
theorem eX5_endLastStay_17 : DC mX5_endLastStay 17 (.iload_n 2) 1 18 := ⟨by decide +kernel, rfl⟩
theorem eX5_endLastStay_18 : DC mX5_endLastStay 18 .iastore 1 19 := ⟨by decide +kernel, rfl⟩
theorem eX5_endLastStay_19 : DC mX5_endLastStay 19 .return_ 1 20 := ⟨by decide +kernel, rfl⟩
theorem eX5_moveFirstStay_0 : DC mX5_moveFirstStay 0 (.aload_n 0) 1 1 := ⟨by decide +kernel, rfl⟩
theorem eX5_moveFirstStay_1 : DC mX5_moveFirstStay 1 (.getfield 21) 3 4 := ⟨by decide +kernel, rfl⟩
theorem eX5_moveFirstStay_4 : DC mX5_moveFirstStay 4 (.iload_n 1) 1 5 := ⟨by decide +kernel, rfl⟩
theorem eX5_moveFirstStay_5 : DC mX5_moveFirstStay 5 (.bipush 8) 2 7 := ⟨by decide +kernel, rfl⟩
theorem eX5_moveFirstStay_7 : DC mX5_moveFirstStay 7 .imul 1 8 := ⟨by decide +kernel, rfl⟩
theorem eX5_moveFirstStay_8 : DC mX5_moveFirstStay 8 (.iload_n 2) 1 9 := ⟨by decide +kernel, rfl⟩
theorem eX5_moveFirstStay_9 : DC mX5_moveFirstStay 9 .iastore 1 10 := ⟨by decide +kernel, rfl⟩
theorem eX5_moveFirstStay_10 : DC mX5_moveFirstStay 10 .return_ 1 11 := ⟨by decide +kernel, rfl⟩
theorem eX5_takeOff_0 : DC mX5_takeOff 0 (.aload_n 0) 1 1 := ⟨by decide +kernel, rfl⟩
theorem eX5_takeOff_1 : DC mX5_takeOff 1 (.getfield 18) 3 4 := ⟨by decide +kernel, rfl⟩
theorem eX5_takeOff_4 : DC mX5_takeOff 4 (.iload_n 1) 1 5 := ⟨by decide +kernel, rfl⟩
theorem eX5_takeOff_5 : DC mX5_takeOff 5 (.iconst 0) 1 6 := ⟨by decide +kernel, rfl⟩
theorem eX5_takeOff_6 : DC mX5_takeOff 6 .iastore 1 7 := ⟨by decide +kernel, rfl⟩
theorem eX5_takeOff_7 : DC mX5_takeOff 7 .return_ 1 8 := ⟨by decide +kernel, rfl⟩
theorem eX5_makeLate_0 : DC mX5_makeLate 0 (.aload_n 0) 1 1 := ⟨by decide +kernel, rfl⟩
theorem eX5_makeLate_1 : DC mX5_makeLate 1 (.getfield 9) 3 4 := ⟨by decide +kernel, rfl⟩
theorem eX5_makeLate_4 : DC mX5_makeLate 4 (.iload_n 1) 1 5 := ⟨by decide +kernel, rfl⟩
theorem eX5_makeLate_5 : DC mX5_makeLate 5 (.iconst 5) 1 6 := ⟨by decide +kernel, rfl⟩
theorem eX5_makeLate_6 : DC mX5_makeLate 6 .imul 1 7 := ⟨by decide +kernel, rfl⟩
theorem eX5_makeLate_7 : DC mX5_makeLate 7 (.iconst 3) 1 8 := ⟨by decide +kernel, rfl⟩
theorem eX5_makeLate_8 : DC mX5_makeLate 8 .iadd 1 9 := ⟨by decide +kernel, rfl⟩
theorem eX5_makeLate_9 : DC mX5_makeLate 9 (.iload_n 2) 1 10 := ⟨by decide +kernel, rfl⟩
theorem eX5_makeLate_10 : DC mX5_makeLate 10 .iastore 1 11 := ⟨by decide +kernel, rfl⟩
theorem eX5_makeLate_11 : DC mX5_makeLate 11 (.aload_n 0) 1 12 := ⟨by decide +kernel, rfl⟩
theorem eX5_makeLate_12 : DC mX5_makeLate 12 (.iload_n 1) 1 13 := ⟨by decide +kernel, rfl⟩
theorem eX5_makeLate_13 : DC mX5_makeLate 13 (.iload_n 2) 1 14 := ⟨by decide +kernel, rfl⟩
theorem eX5_makeLate_14 : DC mX5_makeLate 14 (.invokevirtual 62) 3 17 := ⟨by decide +kernel, rfl⟩
theorem eX5_makeLate_17 : DC mX5_makeLate 17 .return_ 1 18 := ⟨by decide +kernel, rfl⟩
theorem eX6_status_0 : DC mX6_status 0 (.aload_n 0) 1 1 := ⟨by decide +kernel, rfl⟩
theorem eX6_status_1 : DC mX6_status 1 (.getfield 61) 3 4 := ⟨by decide +kernel, rfl⟩
theorem eX6_status_4 : DC mX6_status 4 .ireturn 1 5 := ⟨by decide +kernel, rfl⟩
theorem eX6_reason_0 : DC mX6_reason 0 (.iload_n 1) 1 1 := ⟨by decide +kernel, rfl⟩
theorem eX6_reason_1 : DJ mX6_reason 1 (.ifCond .ne) 9 4 := ⟨8, by decide +kernel, by decide, rfl⟩
theorem eX6_reason_4 : DC mX6_reason 4 (.aload_n 0) 1 5 := ⟨by decide +kernel, rfl⟩
theorem eX6_reason_5 : DC mX6_reason 5 (.getfield 64) 3 8 := ⟨by decide +kernel, rfl⟩
theorem eX6_reason_8 : DC mX6_reason 8 .ireturn 1 9 := ⟨by decide +kernel, rfl⟩
theorem eX6_reason_9 : DC mX6_reason 9 (.iload_n 1) 1 10 := ⟨by decide +kernel, rfl⟩
theorem eX6_reason_10 : DC mX6_reason 10 (.iconst 1) 1 11 := ⟨by decide +kernel, rfl⟩
theorem eX6_reason_11 : DJ mX6_reason 11 (.if_icmp .ne) 21 14 := ⟨10, by decide +kernel, by decide, rfl⟩
theorem eX6_reason_14 : DC mX6_reason 14 (.aload_n 0) 1 15 := ⟨by decide +kernel, rfl⟩
theorem eX6_reason_15 : DC mX6_reason 15 (.getfield 67) 3 18 := ⟨by decide +kernel, rfl⟩
theorem eX6_reason_18 : DJ mX6_reason 18 .goto 22 21 := ⟨4, by decide +kernel, by decide, rfl⟩
theorem eX6_reason_21 : DC mX6_reason 21 (.iconst (-1)) 1 22 := ⟨by decide +kernel, rfl⟩
theorem eX6_reason_22 : DC mX6_reason 22 .ireturn 1 23 := ⟨by decide +kernel, rfl⟩
theorem eX6_stand_0 : DC mX6_stand 0 (.iload_n 1) 1 1 := ⟨by decide +kernel, rfl⟩
theorem eX6_stand_1 : DC mX6_stand 1 (.iconst 1) 1 2 := ⟨by decide +kernel, rfl⟩
theorem eX6_stand_2 : DC mX6_stand 2 (.iconst 5) 1 3 := ⟨by decide +kernel, rfl⟩
theorem eX6_stand_3 : DC mX6_stand 3 (.invokestatic 70) 3 6 := ⟨by decide +kernel, rfl⟩
theorem eX6_stand_6 : DJ mX6_stand 6 (.ifCond .eq) 21 9 := ⟨15, by decide +kernel, by decide, rfl⟩
theorem eX6_stand_9 : DC mX6_stand 9 (.iload_n 2) 1 10 := ⟨by decide +kernel, rfl⟩
theorem eX6_stand_10 : DC mX6_stand 10 (.bipush 10) 2 12 := ⟨by decide +kernel, rfl⟩
theorem eX6_stand_12 : DC mX6_stand 12 (.sipush 200) 3 15 := ⟨by decide +kernel, rfl⟩
theorem eX6_stand_15 : DC mX6_stand 15 (.invokestatic 70) 3 18 := ⟨by decide +kernel, rfl⟩
theorem eX6_stand_18 : DJ mX6_stand 18 (.ifCond .ne) 27 21 := ⟨9, by decide +kernel, by decide, rfl⟩
theorem eX6_stand_21 : DC mX6_stand 21 (.aload_n 0) 1 22 := ⟨by decide +kernel, rfl⟩
theorem eX6_stand_22 : DC mX6_stand 22 (.iconst 3) 1 23 := ⟨by decide +kernel, rfl⟩
theorem eX6_stand_23 : DC mX6_stand 23 (.invokevirtual 74) 3 26 := ⟨by decide +kernel, rfl⟩
theorem eX6_stand_26 : DC mX6_stand 26 .ireturn 1 27 := ⟨by decide +kernel, rfl⟩
theorem eX6_stand_27 : DC mX6_stand 27 (.aload_n 0) 1 28 := ⟨by decide +kernel, rfl⟩
theorem eX6_stand_28 : DC mX6_stand 28 (.getfield 10) 3 31 := ⟨by decide +kernel, rfl⟩
theorem eX6_stand_31 : DC mX6_stand 31 (.getfield 78) 3 34 := ⟨by decide +kernel, rfl⟩
theorem eX6_stand_34 : DC mX6_stand 34 (.bipush 24) 2 36 := ⟨by decide +kernel, rfl⟩
theorem eX6_stand_36 : DJ mX6_stand 36 (.if_icmp .lt) 45 39 := ⟨9, by decide +kernel, by decide, rfl⟩
theorem eX6_stand_39 : DC mX6_stand 39 (.aload_n 0) 1 40 := ⟨by decide +kernel, rfl⟩
theorem eX6_stand_40 : DC mX6_stand 40 (.iconst 4) 1 41 := ⟨by decide +kernel, rfl⟩
theorem eX6_stand_41 : DC mX6_stand 41 (.invokevirtual 74) 3 44 := ⟨by decide +kernel, rfl⟩
theorem eX6_stand_44 : DC mX6_stand 44 .ireturn 1 45 := ⟨by decide +kernel, rfl⟩
theorem eX6_stand_45 : DC mX6_stand 45 (.aload_n 0) 1 46 := ⟨by decide +kernel, rfl⟩
theorem eX6_stand_46 : DC mX6_stand 46 (.aload_n 0) 1 47 := ⟨by decide +kernel, rfl⟩
theorem eX6_stand_47 : DC mX6_stand 47 (.getfield 10) 3 50 := ⟨by decide +kernel, rfl⟩
theorem eX6_stand_50 : DC mX6_stand 50 (.iload_n 1) 1 51 := ⟨by decide +kernel, rfl⟩
theorem eX6_stand_51 : DC mX6_stand 51 (.iload_n 2) 1 52 := ⟨by decide +kernel, rfl⟩
theorem eX6_stand_52 : DC mX6_stand 52 (.invokevirtual 81) 3 55 := ⟨by decide +kernel, rfl⟩
theorem eX6_stand_55 : DC mX6_stand 55 (.invokevirtual 85) 3 58 := ⟨by decide +kernel, rfl⟩
theorem eX6_stand_58 : DC mX6_stand 58 .ireturn 1 59 := ⟨by decide +kernel, rfl⟩
theorem eX6_ground_0 : DC mX6_ground 0 (.aload_n 0) 1 1 := ⟨by decide +kernel, rfl⟩
theorem eX6_ground_1 : DC mX6_ground 1 (.getfield 10) 3 4 := ⟨by decide +kernel, rfl⟩
theorem eX6_ground_4 : DC mX6_ground 4 (.iload_n 1) 1 5 := ⟨by decide +kernel, rfl⟩
theorem eX6_ground_5 : DC mX6_ground 5 (.invokevirtual 88) 3 8 := ⟨by decide +kernel, rfl⟩
theorem eX6_ground_8 : DJ mX6_ground 8 (.ifCond .ne) 17 11 := ⟨9, by decide +kernel, by decide, rfl⟩
theorem eX6_ground_11 : DC mX6_ground 11 (.aload_n 0) 1 12 := ⟨by decide +kernel, rfl⟩
theorem eX6_ground_12 : DC mX6_ground 12 (.iconst 1) 1 13 := ⟨by decide +kernel, rfl⟩
theorem eX6_ground_13 : DC mX6_ground 13 (.invokevirtual 74) 3 16 := ⟨by decide +kernel, rfl⟩
theorem eX6_ground_16 : DC mX6_ground 16 .ireturn 1 17 := ⟨by decide +kernel, rfl⟩
theorem eX6_ground_17 : DC mX6_ground 17 (.iload_n 2) 1 18 := ⟨by decide +kernel, rfl⟩
theorem eX6_ground_18 : DJ mX6_ground 18 (.ifCond .ne) 35 21 := ⟨17, by decide +kernel, by decide, rfl⟩
theorem eX6_ground_21 : DC mX6_ground 21 (.aload_n 0) 1 22 := ⟨by decide +kernel, rfl⟩
theorem eX6_ground_22 : DC mX6_ground 22 (.aload_n 0) 1 23 := ⟨by decide +kernel, rfl⟩
theorem eX6_ground_23 : DC mX6_ground 23 (.getfield 10) 3 26 := ⟨by decide +kernel, rfl⟩
theorem eX6_ground_26 : DC mX6_ground 26 (.getfield 92) 3 29 := ⟨by decide +kernel, rfl⟩
theorem eX6_ground_29 : DC mX6_ground 29 (.iload_n 1) 1 30 := ⟨by decide +kernel, rfl⟩
theorem eX6_ground_30 : DC mX6_ground 30 .iaload 1 31 := ⟨by decide +kernel, rfl⟩
theorem eX6_ground_31 : DC mX6_ground 31 (.invokevirtual 85) 3 34 := ⟨by decide +kernel, rfl⟩
theorem eX6_ground_34 : DC mX6_ground 34 .ireturn 1 35 := ⟨by decide +kernel, rfl⟩
theorem eX6_ground_35 : DC mX6_ground 35 (.iload_n 2) 1 36 := ⟨by decide +kernel, rfl⟩
theorem eX6_ground_36 : DC mX6_ground 36 (.iconst 1) 1 37 := ⟨by decide +kernel, rfl⟩
theorem eX6_ground_37 : DJ mX6_ground 37 (.if_icmp .ne) 56 40 := ⟨19, by decide +kernel, by decide, rfl⟩
theorem eX6_ground_40 : DC mX6_ground 40 (.aload_n 0) 1 41 := ⟨by decide +kernel, rfl⟩
theorem eX6_ground_41 : DC mX6_ground 41 (.aload_n 0) 1 42 := ⟨by decide +kernel, rfl⟩
theorem eX6_ground_42 : DC mX6_ground 42 (.getfield 10) 3 45 := ⟨by decide +kernel, rfl⟩
theorem eX6_ground_45 : DC mX6_ground 45 (.getfield 96) 3 48 := ⟨by decide +kernel, rfl⟩
theorem eX6_ground_48 : DC mX6_ground 48 (.iload_n 1) 1 49 := ⟨by decide +kernel, rfl⟩
theorem eX6_ground_49 : DC mX6_ground 49 .iaload 1 50 := ⟨by decide +kernel, rfl⟩
theorem eX6_ground_50 : DC mX6_ground 50 (.invokevirtual 85) 3 53 := ⟨by decide +kernel, rfl⟩
theorem eX6_ground_53 : DJ mX6_ground 53 .goto 61 56 := ⟨8, by decide +kernel, by decide, rfl⟩
theorem eX6_ground_56 : DC mX6_ground 56 (.aload_n 0) 1 57 := ⟨by decide +kernel, rfl⟩
theorem eX6_ground_57 : DC mX6_ground 57 (.iconst 3) 1 58 := ⟨by decide +kernel, rfl⟩
theorem eX6_ground_58 : DC mX6_ground 58 (.invokevirtual 74) 3 61 := ⟨by decide +kernel, rfl⟩
theorem eX6_ground_61 : DC mX6_ground 61 .ireturn 1 62 := ⟨by decide +kernel, rfl⟩
theorem eX6_near_0 : DC mX6_near 0 (.aload_n 0) 1 1 := ⟨by decide +kernel, rfl⟩
theorem eX6_near_1 : DC mX6_near 1 (.getfield 10) 3 4 := ⟨by decide +kernel, rfl⟩
theorem eX6_near_4 : DC mX6_near 4 (.iload_n 1) 1 5 := ⟨by decide +kernel, rfl⟩
theorem eX6_near_5 : DC mX6_near 5 (.invokevirtual 88) 3 8 := ⟨by decide +kernel, rfl⟩
theorem eX6_near_8 : DJ mX6_near 8 (.ifCond .eq) 22 11 := ⟨14, by decide +kernel, by decide, rfl⟩
theorem eX6_near_11 : DC mX6_near 11 (.aload_n 0) 1 12 := ⟨by decide +kernel, rfl⟩
theorem eX6_near_12 : DC mX6_near 12 (.getfield 10) 3 15 := ⟨by decide +kernel, rfl⟩
theorem eX6_near_15 : DC mX6_near 15 (.iload_n 2) 1 16 := ⟨by decide +kernel, rfl⟩
theorem eX6_near_16 : DC mX6_near 16 (.invokevirtual 88) 3 19 := ⟨by decide +kernel, rfl⟩
theorem eX6_near_19 : DJ mX6_near 19 (.ifCond .ne) 28 22 := ⟨9, by decide +kernel, by decide, rfl⟩
theorem eX6_near_22 : DC mX6_near 22 (.aload_n 0) 1 23 := ⟨by decide +kernel, rfl⟩
theorem eX6_near_23 : DC mX6_near 23 (.iconst 1) 1 24 := ⟨by decide +kernel, rfl⟩
theorem eX6_near_24 : DC mX6_near 24 (.invokevirtual 74) 3 27 := ⟨by decide +kernel, rfl⟩
theorem eX6_near_27 : DC mX6_near 27 .ireturn 1 28 := ⟨by decide +kernel, rfl⟩
theorem eX6_near_28 : DC mX6_near 28 (.iload_n 1) 1 29 := ⟨by decide +kernel, rfl⟩
theorem eX6_near_29 : DC mX6_near 29 (.iload_n 2) 1 30 := ⟨by decide +kernel, rfl⟩
theorem eX6_near_30 : DJ mX6_near 30 (.if_icmp .eq) 56 33 := ⟨26, by decide +kernel, by decide, rfl⟩
theorem eX6_near_33 : DC mX6_near 33 (.iload_n 3) 1 34 := ⟨by decide +kernel, rfl⟩
theorem eX6_near_34 : DC mX6_near 34 (.iconst 0) 1 35 := ⟨by decide +kernel, rfl⟩
theorem eX6_near_35 : DC mX6_near 35 (.sipush 200) 3 38 := ⟨by decide +kernel, rfl⟩
theorem eX6_near_38 : DC mX6_near 38 (.invokestatic 70) 3 41 := ⟨by decide +kernel, rfl⟩
theorem eX6_near_41 : DJ mX6_near 41 (.ifCond .eq) 56 44 := ⟨15, by decide +kernel, by decide, rfl⟩
theorem eX6_near_44 : DC mX6_near 44 (.iload 4) 2 46 := ⟨by decide +kernel, rfl⟩
theorem eX6_near_46 : DC mX6_near 46 (.iconst 0) 1 47 := ⟨by decide +kernel, rfl⟩
theorem eX6_near_47 : DC mX6_near 47 (.sipush 200) 3 50 := ⟨by decide +kernel, rfl⟩
theorem eX6_near_50 : DC mX6_near 50 (.invokestatic 70) 3 53 := ⟨by decide +kernel, rfl⟩
theorem eX6_near_53 : DJ mX6_near 53 (.ifCond .ne) 62 56 := ⟨9, by decide +kernel, by decide, rfl⟩
theorem eX6_near_56 : DC mX6_near 56 (.aload_n 0) 1 57 := ⟨by decide +kernel, rfl⟩
theorem eX6_near_57 : DC mX6_near 57 (.iconst 3) 1 58 := ⟨by decide +kernel, rfl⟩
theorem eX6_near_58 : DC mX6_near 58 (.invokevirtual 74) 3 61 := ⟨by decide +kernel, rfl⟩
theorem eX6_near_61 : DC mX6_near 61 .ireturn 1 62 := ⟨by decide +kernel, rfl⟩
theorem eX6_near_62 : DC mX6_near 62 (.aload_n 0) 1 63 := ⟨by decide +kernel, rfl⟩
theorem eX6_near_63 : DC mX6_near 63 (.getfield 10) 3 66 := ⟨by decide +kernel, rfl⟩
theorem eX6_near_66 : DC mX6_near 66 (.getfield 99) 3 69 := ⟨by decide +kernel, rfl⟩
theorem eX6_near_69 : DC mX6_near 69 (.bipush 40) 2 71 := ⟨by decide +kernel, rfl⟩
theorem eX6_near_71 : DJ mX6_near 71 (.if_icmp .lt) 80 74 := ⟨9, by decide +kernel, by decide, rfl⟩
theorem eX6_near_74 : DC mX6_near 74 (.aload_n 0) 1 75 := ⟨by decide +kernel, rfl⟩
theorem eX6_near_75 : DC mX6_near 75 (.iconst 4) 1 76 := ⟨by decide +kernel, rfl⟩
theorem eX6_near_76 : DC mX6_near 76 (.invokevirtual 74) 3 79 := ⟨by decide +kernel, rfl⟩
theorem eX6_near_79 : DC mX6_near 79 .ireturn 1 80 := ⟨by decide +kernel, rfl⟩
theorem eX6_near_80 : DC mX6_near 80 (.aload_n 0) 1 81 := ⟨by decide +kernel, rfl⟩
theorem eX6_near_81 : DC mX6_near 81 (.aload_n 0) 1 82 := ⟨by decide +kernel, rfl⟩
theorem eX6_near_82 : DC mX6_near 82 (.getfield 10) 3 85 := ⟨by decide +kernel, rfl⟩
theorem eX6_near_85 : DC mX6_near 85 (.iload_n 1) 1 86 := ⟨by decide +kernel, rfl⟩
theorem eX6_near_86 : DC mX6_near 86 (.iload_n 2) 1 87 := ⟨by decide +kernel, rfl⟩
theorem eX6_near_87 : DC mX6_near 87 (.iload_n 3) 1 88 := ⟨by decide +kernel, rfl⟩
theorem eX6_near_88 : DC mX6_near 88 (.iload 4) 2 90 := ⟨by decide +kernel, rfl⟩
theorem eX6_near_90 : DC mX6_near 90 (.invokevirtual 102) 3 93 := ⟨by decide +kernel, rfl⟩
theorem eX6_near_93 : DC mX6_near 93 (.invokevirtual 85) 3 96 := ⟨by decide +kernel, rfl⟩
theorem eX6_near_96 : DC mX6_near 96 .ireturn 1 97 := ⟨by decide +kernel, rfl⟩
theorem eX6_cone_0 : DC mX6_cone 0 (.aload_n 0) 1 1 := ⟨by decide +kernel, rfl⟩
theorem eX6_cone_1 : DC mX6_cone 1 (.getfield 10) 3 4 := ⟨by decide +kernel, rfl⟩
theorem eX6_cone_4 : DC mX6_cone 4 (.iload_n 1) 1 5 := ⟨by decide +kernel, rfl⟩
theorem eX6_cone_5 : DC mX6_cone 5 (.invokevirtual 88) 3 8 := ⟨by decide +kernel, rfl⟩
theorem eX6_cone_8 : DJ mX6_cone 8 (.ifCond .ne) 17 11 := ⟨9, by decide +kernel, by decide, rfl⟩
theorem eX6_cone_11 : DC mX6_cone 11 (.aload_n 0) 1 12 := ⟨by decide +kernel, rfl⟩
theorem eX6_cone_12 : DC mX6_cone 12 (.iconst 1) 1 13 := ⟨by decide +kernel, rfl⟩
theorem eX6_cone_13 : DC mX6_cone 13 (.invokevirtual 74) 3 16 := ⟨by decide +kernel, rfl⟩
theorem eX6_cone_16 : DC mX6_cone 16 .ireturn 1 17 := ⟨by decide +kernel, rfl⟩
theorem eX6_cone_17 : DC mX6_cone 17 (.iload_n 2) 1 18 := ⟨by decide +kernel, rfl⟩
theorem eX6_cone_18 : DC mX6_cone 18 (.iload_n 3) 1 19 := ⟨by decide +kernel, rfl⟩
theorem eX6_cone_19 : DC mX6_cone 19 (.invokestatic 106) 3 22 := ⟨by decide +kernel, rfl⟩
theorem eX6_cone_22 : DJ mX6_cone 22 (.ifCond .ne) 31 25 := ⟨9, by decide +kernel, by decide, rfl⟩
theorem eX6_cone_25 : DC mX6_cone 25 (.aload_n 0) 1 26 := ⟨by decide +kernel, rfl⟩
theorem eX6_cone_26 : DC mX6_cone 26 (.iconst 3) 1 27 := ⟨by decide +kernel, rfl⟩
theorem eX6_cone_27 : DC mX6_cone 27 (.invokevirtual 74) 3 30 := ⟨by decide +kernel, rfl⟩
theorem eX6_cone_30 : DC mX6_cone 30 .ireturn 1 31 := ⟨by decide +kernel, rfl⟩
theorem eX6_cone_31 : DC mX6_cone 31 (.aload_n 0) 1 32 := ⟨by decide +kernel, rfl⟩
theorem eX6_cone_32 : DC mX6_cone 32 (.getfield 10) 3 35 := ⟨by decide +kernel, rfl⟩
theorem eX6_cone_35 : DC mX6_cone 35 (.getfield 110) 3 38 := ⟨by decide +kernel, rfl⟩
theorem eX6_cone_38 : DC mX6_cone 38 (.bipush 20) 2 40 := ⟨by decide +kernel, rfl⟩
theorem eX6_cone_40 : DJ mX6_cone 40 (.if_icmp .lt) 49 43 := ⟨9, by decide +kernel, by decide, rfl⟩
theorem eX6_cone_43 : DC mX6_cone 43 (.aload_n 0) 1 44 := ⟨by decide +kernel, rfl⟩
theorem eX6_cone_44 : DC mX6_cone 44 (.iconst 4) 1 45 := ⟨by decide +kernel, rfl⟩
theorem eX6_cone_45 : DC mX6_cone 45 (.invokevirtual 74) 3 48 := ⟨by decide +kernel, rfl⟩
theorem eX6_cone_48 : DC mX6_cone 48 .ireturn 1 49 := ⟨by decide +kernel, rfl⟩
theorem eX6_cone_49 : DC mX6_cone 49 (.aload_n 0) 1 50 := ⟨by decide +kernel, rfl⟩
theorem eX6_cone_50 : DC mX6_cone 50 (.aload_n 0) 1 51 := ⟨by decide +kernel, rfl⟩
theorem eX6_cone_51 : DC mX6_cone 51 (.getfield 10) 3 54 := ⟨by decide +kernel, rfl⟩
theorem eX6_cone_54 : DC mX6_cone 54 (.iload_n 1) 1 55 := ⟨by decide +kernel, rfl⟩
theorem eX6_cone_55 : DC mX6_cone 55 (.iload_n 2) 1 56 := ⟨by decide +kernel, rfl⟩
theorem eX6_cone_56 : DC mX6_cone 56 (.iload_n 3) 1 57 := ⟨by decide +kernel, rfl⟩
theorem eX6_cone_57 : DC mX6_cone 57 (.invokevirtual 113) 3 60 := ⟨by decide +kernel, rfl⟩
theorem eX6_cone_60 : DC mX6_cone 60 (.invokevirtual 85) 3 63 := ⟨by decide +kernel, rfl⟩
theorem eX6_cone_63 : DC mX6_cone 63 .ireturn 1 64 := ⟨by decide +kernel, rfl⟩
theorem eX6_towtime_0 : DC mX6_towtime 0 (.iload_n 1) 1 1 := ⟨by decide +kernel, rfl⟩
theorem eX6_towtime_1 : DC mX6_towtime 1 (.iconst 1) 1 2 := ⟨by decide +kernel, rfl⟩
theorem eX6_towtime_2 : DC mX6_towtime 2 (.bipush 60) 2 4 := ⟨by decide +kernel, rfl⟩
theorem eX6_towtime_4 : DC mX6_towtime 4 (.invokestatic 70) 3 7 := ⟨by decide +kernel, rfl⟩
theorem eX6_towtime_7 : DJ mX6_towtime 7 (.ifCond .ne) 16 10 := ⟨9, by decide +kernel, by decide, rfl⟩
theorem eX6_towtime_10 : DC mX6_towtime 10 (.aload_n 0) 1 11 := ⟨by decide +kernel, rfl⟩
theorem eX6_towtime_11 : DC mX6_towtime 11 (.iconst 3) 1 12 := ⟨by decide +kernel, rfl⟩
theorem eX6_towtime_12 : DC mX6_towtime 12 (.invokevirtual 117) 3 15 := ⟨by decide +kernel, rfl⟩
theorem eX6_towtime_15 : DC mX6_towtime 15 .ireturn 1 16 := ⟨by decide +kernel, rfl⟩
theorem eX6_towtime_16 : DC mX6_towtime 16 (.aload_n 0) 1 17 := ⟨by decide +kernel, rfl⟩
theorem eX6_towtime_17 : DC mX6_towtime 17 (.iload_n 1) 1 18 := ⟨by decide +kernel, rfl⟩
theorem eX6_towtime_18 : DC mX6_towtime 18 (.putfield 57) 3 21 := ⟨by decide +kernel, rfl⟩
theorem eX6_towtime_21 : DC mX6_towtime 21 (.aload_n 0) 1 22 := ⟨by decide +kernel, rfl⟩
theorem eX6_towtime_22 : DC mX6_towtime 22 (.invokevirtual 120) 3 25 := ⟨by decide +kernel, rfl⟩
theorem eX6_towtime_25 : DC mX6_towtime 25 .ireturn 1 26 := ⟨by decide +kernel, rfl⟩
theorem eX6_visit_0 : DC mX6_visit 0 (.iload_n 1) 1 1 := ⟨by decide +kernel, rfl⟩
theorem eX6_visit_1 : DC mX6_visit 1 (.iconst 1) 1 2 := ⟨by decide +kernel, rfl⟩
theorem eX6_visit_2 : DC mX6_visit 2 (.iconst 4) 1 3 := ⟨by decide +kernel, rfl⟩
theorem eX6_visit_3 : DC mX6_visit 3 (.invokestatic 70) 3 6 := ⟨by decide +kernel, rfl⟩
theorem eX6_visit_6 : DJ mX6_visit 6 (.ifCond .eq) 21 9 := ⟨15, by decide +kernel, by decide, rfl⟩
theorem eX6_visit_9 : DC mX6_visit 9 (.iload_n 2) 1 10 := ⟨by decide +kernel, rfl⟩
theorem eX6_visit_10 : DC mX6_visit 10 (.bipush 10) 2 12 := ⟨by decide +kernel, rfl⟩
theorem eX6_visit_12 : DC mX6_visit 12 (.sipush 200) 3 15 := ⟨by decide +kernel, rfl⟩
theorem eX6_visit_15 : DC mX6_visit 15 (.invokestatic 70) 3 18 := ⟨by decide +kernel, rfl⟩
theorem eX6_visit_18 : DJ mX6_visit 18 (.ifCond .ne) 27 21 := ⟨9, by decide +kernel, by decide, rfl⟩
theorem eX6_visit_21 : DC mX6_visit 21 (.aload_n 0) 1 22 := ⟨by decide +kernel, rfl⟩
theorem eX6_visit_22 : DC mX6_visit 22 (.iconst 3) 1 23 := ⟨by decide +kernel, rfl⟩
theorem eX6_visit_23 : DC mX6_visit 23 (.invokevirtual 74) 3 26 := ⟨by decide +kernel, rfl⟩
theorem eX6_visit_26 : DC mX6_visit 26 .ireturn 1 27 := ⟨by decide +kernel, rfl⟩
theorem eX6_visit_27 : DC mX6_visit 27 (.iload_n 3) 1 28 := ⟨by decide +kernel, rfl⟩
theorem eX6_visit_28 : DC mX6_visit 28 (.iload 4) 2 30 := ⟨by decide +kernel, rfl⟩
theorem eX6_visit_30 : DC mX6_visit 30 (.invokestatic 106) 3 33 := ⟨by decide +kernel, rfl⟩
theorem eX6_visit_33 : DJ mX6_visit 33 (.ifCond .eq) 46 36 := ⟨13, by decide +kernel, by decide, rfl⟩
theorem eX6_visit_36 : DC mX6_visit 36 (.iload 5) 2 38 := ⟨by decide +kernel, rfl⟩
theorem eX6_visit_38 : DC mX6_visit 38 (.iconst 0) 1 39 := ⟨by decide +kernel, rfl⟩
theorem eX6_visit_39 : DC mX6_visit 39 (.iconst 2) 1 40 := ⟨by decide +kernel, rfl⟩
theorem eX6_visit_40 : DC mX6_visit 40 (.invokestatic 70) 3 43 := ⟨by decide +kernel, rfl⟩
theorem eX6_visit_43 : DJ mX6_visit 43 (.ifCond .ne) 52 46 := ⟨9, by decide +kernel, by decide, rfl⟩
theorem eX6_visit_46 : DC mX6_visit 46 (.aload_n 0) 1 47 := ⟨by decide +kernel, rfl⟩
theorem eX6_visit_47 : DC mX6_visit 47 (.iconst 3) 1 48 := ⟨by decide +kernel, rfl⟩
theorem eX6_visit_48 : DC mX6_visit 48 (.invokevirtual 74) 3 51 := ⟨by decide +kernel, rfl⟩
theorem eX6_visit_51 : DC mX6_visit 51 .ireturn 1 52 := ⟨by decide +kernel, rfl⟩
theorem eX6_visit_52 : DC mX6_visit 52 (.aload_n 0) 1 53 := ⟨by decide +kernel, rfl⟩
theorem eX6_visit_53 : DC mX6_visit 53 (.getfield 19) 3 56 := ⟨by decide +kernel, rfl⟩
theorem eX6_visit_56 : DC mX6_visit 56 (.getfield 124) 3 59 := ⟨by decide +kernel, rfl⟩
theorem eX6_visit_59 : DC mX6_visit 59 (.bipush 40) 2 61 := ⟨by decide +kernel, rfl⟩
theorem eX6_visit_61 : DJ mX6_visit 61 (.if_icmp .lt) 70 64 := ⟨9, by decide +kernel, by decide, rfl⟩
theorem eX6_visit_64 : DC mX6_visit 64 (.aload_n 0) 1 65 := ⟨by decide +kernel, rfl⟩
theorem eX6_visit_65 : DC mX6_visit 65 (.iconst 4) 1 66 := ⟨by decide +kernel, rfl⟩
theorem eX6_visit_66 : DC mX6_visit 66 (.invokevirtual 74) 3 69 := ⟨by decide +kernel, rfl⟩
theorem eX6_visit_69 : DC mX6_visit 69 .ireturn 1 70 := ⟨by decide +kernel, rfl⟩
theorem eX6_visit_70 : DC mX6_visit 70 (.aload_n 0) 1 71 := ⟨by decide +kernel, rfl⟩
theorem eX6_visit_71 : DC mX6_visit 71 (.aload_n 0) 1 72 := ⟨by decide +kernel, rfl⟩
theorem eX6_visit_72 : DC mX6_visit 72 (.getfield 19) 3 75 := ⟨by decide +kernel, rfl⟩
theorem eX6_visit_75 : DC mX6_visit 75 (.iload_n 1) 1 76 := ⟨by decide +kernel, rfl⟩
theorem eX6_visit_76 : DC mX6_visit 76 (.iload_n 2) 1 77 := ⟨by decide +kernel, rfl⟩
theorem eX6_visit_77 : DC mX6_visit 77 (.iload_n 3) 1 78 := ⟨by decide +kernel, rfl⟩
theorem eX6_visit_78 : DC mX6_visit 78 (.iload 4) 2 80 := ⟨by decide +kernel, rfl⟩
theorem eX6_visit_80 : DC mX6_visit 80 (.iload 5) 2 82 := ⟨by decide +kernel, rfl⟩
theorem eX6_visit_82 : DC mX6_visit 82 (.invokevirtual 127) 3 85 := ⟨by decide +kernel, rfl⟩
theorem eX6_visit_85 : DC mX6_visit 85 (.invokevirtual 85) 3 88 := ⟨by decide +kernel, rfl⟩
theorem eX6_visit_88 : DC mX6_visit 88 .ireturn 1 89 := ⟨by decide +kernel, rfl⟩
theorem eX6_tear_0 : DC mX6_tear 0 (.aload_n 0) 1 1 := ⟨by decide +kernel, rfl⟩
theorem eX6_tear_1 : DC mX6_tear 1 (.getfield 19) 3 4 := ⟨by decide +kernel, rfl⟩
theorem eX6_tear_4 : DC mX6_tear 4 (.iload_n 1) 1 5 := ⟨by decide +kernel, rfl⟩
theorem eX6_tear_5 : DC mX6_tear 5 (.invokevirtual 131) 3 8 := ⟨by decide +kernel, rfl⟩
theorem eX6_tear_8 : DJ mX6_tear 8 (.ifCond .ne) 17 11 := ⟨9, by decide +kernel, by decide, rfl⟩
theorem eX6_tear_11 : DC mX6_tear 11 (.aload_n 0) 1 12 := ⟨by decide +kernel, rfl⟩
theorem eX6_tear_12 : DC mX6_tear 12 (.iconst 2) 1 13 := ⟨by decide +kernel, rfl⟩
theorem eX6_tear_13 : DC mX6_tear 13 (.invokevirtual 117) 3 16 := ⟨by decide +kernel, rfl⟩
theorem eX6_tear_16 : DC mX6_tear 16 .ireturn 1 17 := ⟨by decide +kernel, rfl⟩
theorem eX6_tear_17 : DC mX6_tear 17 (.iload_n 2) 1 18 := ⟨by decide +kernel, rfl⟩
theorem eX6_tear_18 : DC mX6_tear 18 (.iconst 0) 1 19 := ⟨by decide +kernel, rfl⟩
theorem eX6_tear_19 : DC mX6_tear 19 (.aload_n 0) 1 20 := ⟨by decide +kernel, rfl⟩
theorem eX6_tear_20 : DC mX6_tear 20 (.getfield 19) 3 23 := ⟨by decide +kernel, rfl⟩
theorem eX6_tear_23 : DC mX6_tear 23 (.getfield 134) 3 26 := ⟨by decide +kernel, rfl⟩
theorem eX6_tear_26 : DC mX6_tear 26 (.iload_n 1) 1 27 := ⟨by decide +kernel, rfl⟩
theorem eX6_tear_27 : DC mX6_tear 27 .iaload 1 28 := ⟨by decide +kernel, rfl⟩
theorem eX6_tear_28 : DC mX6_tear 28 (.invokestatic 70) 3 31 := ⟨by decide +kernel, rfl⟩
theorem eX6_tear_31 : DJ mX6_tear 31 (.ifCond .ne) 40 34 := ⟨9, by decide +kernel, by decide, rfl⟩
theorem eX6_tear_34 : DC mX6_tear 34 (.aload_n 0) 1 35 := ⟨by decide +kernel, rfl⟩
theorem eX6_tear_35 : DC mX6_tear 35 (.iconst 3) 1 36 := ⟨by decide +kernel, rfl⟩
theorem eX6_tear_36 : DC mX6_tear 36 (.invokevirtual 117) 3 39 := ⟨by decide +kernel, rfl⟩
theorem eX6_tear_39 : DC mX6_tear 39 .ireturn 1 40 := ⟨by decide +kernel, rfl⟩
theorem eX6_tear_40 : DC mX6_tear 40 (.aload_n 0) 1 41 := ⟨by decide +kernel, rfl⟩
theorem eX6_tear_41 : DC mX6_tear 41 (.getfield 19) 3 44 := ⟨by decide +kernel, rfl⟩
theorem eX6_tear_44 : DC mX6_tear 44 (.iload_n 1) 1 45 := ⟨by decide +kernel, rfl⟩
theorem eX6_tear_45 : DC mX6_tear 45 (.invokevirtual 137) 3 48 := ⟨by decide +kernel, rfl⟩
theorem eX6_tear_48 : DJ mX6_tear 48 (.ifCond .eq) 58 51 := ⟨10, by decide +kernel, by decide, rfl⟩
theorem eX6_tear_51 : DC mX6_tear 51 (.aload_n 0) 1 52 := ⟨by decide +kernel, rfl⟩
theorem eX6_tear_52 : DC mX6_tear 52 (.bipush 6) 2 54 := ⟨by decide +kernel, rfl⟩
theorem eX6_tear_54 : DC mX6_tear 54 (.invokevirtual 117) 3 57 := ⟨by decide +kernel, rfl⟩
theorem eX6_tear_57 : DC mX6_tear 57 .ireturn 1 58 := ⟨by decide +kernel, rfl⟩
theorem eX6_tear_58 : DC mX6_tear 58 (.aload_n 0) 1 59 := ⟨by decide +kernel, rfl⟩
theorem eX6_tear_59 : DC mX6_tear 59 (.getfield 19) 3 62 := ⟨by decide +kernel, rfl⟩
theorem eX6_tear_62 : DC mX6_tear 62 (.getfield 134) 3 65 := ⟨by decide +kernel, rfl⟩
theorem eX6_tear_65 : DC mX6_tear 65 (.iload_n 1) 1 66 := ⟨by decide +kernel, rfl⟩
theorem eX6_tear_66 : DC mX6_tear 66 (.iload_n 2) 1 67 := ⟨by decide +kernel, rfl⟩
theorem eX6_tear_67 : DC mX6_tear 67 .iastore 1 68 := ⟨by decide +kernel, rfl⟩
theorem eX6_tear_68 : DC mX6_tear 68 (.aload_n 0) 1 69 := ⟨by decide +kernel, rfl⟩
theorem eX6_tear_69 : DC mX6_tear 69 (.invokevirtual 120) 3 72 := ⟨by decide +kernel, rfl⟩
theorem eX6_tear_72 : DC mX6_tear 72 .ireturn 1 73 := ⟨by decide +kernel, rfl⟩
theorem eX6_told_0 : DC mX6_told 0 (.aload_n 0) 1 1 := ⟨by decide +kernel, rfl⟩
theorem eX6_told_1 : DC mX6_told 1 (.getfield 19) 3 4 := ⟨by decide +kernel, rfl⟩
theorem eX6_told_4 : DC mX6_told 4 (.iload_n 1) 1 5 := ⟨by decide +kernel, rfl⟩
theorem eX6_told_5 : DC mX6_told 5 (.invokevirtual 131) 3 8 := ⟨by decide +kernel, rfl⟩
theorem eX6_told_8 : DJ mX6_told 8 (.ifCond .ne) 17 11 := ⟨9, by decide +kernel, by decide, rfl⟩
theorem eX6_told_11 : DC mX6_told 11 (.aload_n 0) 1 12 := ⟨by decide +kernel, rfl⟩
theorem eX6_told_12 : DC mX6_told 12 (.iconst 2) 1 13 := ⟨by decide +kernel, rfl⟩
theorem eX6_told_13 : DC mX6_told 13 (.invokevirtual 74) 3 16 := ⟨by decide +kernel, rfl⟩
theorem eX6_told_16 : DC mX6_told 16 .ireturn 1 17 := ⟨by decide +kernel, rfl⟩
theorem eX6_told_17 : DC mX6_told 17 (.iload_n 2) 1 18 := ⟨by decide +kernel, rfl⟩
theorem eX6_told_18 : DJ mX6_told 18 (.ifCond .lt) 34 21 := ⟨16, by decide +kernel, by decide, rfl⟩
theorem eX6_told_21 : DC mX6_told 21 (.iload_n 2) 1 22 := ⟨by decide +kernel, rfl⟩
theorem eX6_told_22 : DC mX6_told 22 (.aload_n 0) 1 23 := ⟨by decide +kernel, rfl⟩
theorem eX6_told_23 : DC mX6_told 23 (.getfield 19) 3 26 := ⟨by decide +kernel, rfl⟩
theorem eX6_told_26 : DC mX6_told 26 (.getfield 134) 3 29 := ⟨by decide +kernel, rfl⟩
theorem eX6_told_29 : DC mX6_told 29 (.iload_n 1) 1 30 := ⟨by decide +kernel, rfl⟩
theorem eX6_told_30 : DC mX6_told 30 .iaload 1 31 := ⟨by decide +kernel, rfl⟩
theorem eX6_told_31 : DJ mX6_told 31 (.if_icmp .lt) 40 34 := ⟨9, by decide +kernel, by decide, rfl⟩
theorem eX6_told_34 : DC mX6_told 34 (.aload_n 0) 1 35 := ⟨by decide +kernel, rfl⟩
theorem eX6_told_35 : DC mX6_told 35 (.iconst 3) 1 36 := ⟨by decide +kernel, rfl⟩
theorem eX6_told_36 : DC mX6_told 36 (.invokevirtual 74) 3 39 := ⟨by decide +kernel, rfl⟩
theorem eX6_told_39 : DC mX6_told 39 .ireturn 1 40 := ⟨by decide +kernel, rfl⟩
theorem eX6_told_40 : DC mX6_told 40 (.aload_n 0) 1 41 := ⟨by decide +kernel, rfl⟩
theorem eX6_told_41 : DC mX6_told 41 (.aload_n 0) 1 42 := ⟨by decide +kernel, rfl⟩
theorem eX6_told_42 : DC mX6_told 42 (.getfield 19) 3 45 := ⟨by decide +kernel, rfl⟩
theorem eX6_told_45 : DC mX6_told 45 (.getfield 140) 3 48 := ⟨by decide +kernel, rfl⟩
theorem eX6_told_48 : DC mX6_told 48 (.iload_n 1) 1 49 := ⟨by decide +kernel, rfl⟩
theorem eX6_told_49 : DC mX6_told 49 (.iconst 5) 1 50 := ⟨by decide +kernel, rfl⟩
theorem eX6_told_50 : DC mX6_told 50 .imul 1 51 := ⟨by decide +kernel, rfl⟩
theorem eX6_told_51 : DC mX6_told 51 (.iload_n 2) 1 52 := ⟨by decide +kernel, rfl⟩
theorem eX6_told_52 : DC mX6_told 52 .iadd 1 53 := ⟨by decide +kernel, rfl⟩
theorem eX6_told_53 : DC mX6_told 53 .iaload 1 54 := ⟨by decide +kernel, rfl⟩
theorem eX6_told_54 : DC mX6_told 54 (.invokevirtual 85) 3 57 := ⟨by decide +kernel, rfl⟩
theorem eX6_told_57 : DC mX6_told 57 .ireturn 1 58 := ⟨by decide +kernel, rfl⟩
theorem eX6_put_0 : DC mX6_put 0 (.aload_n 0) 1 1 := ⟨by decide +kernel, rfl⟩
theorem eX6_put_1 : DC mX6_put 1 (.iload_n 1) 1 2 := ⟨by decide +kernel, rfl⟩
theorem eX6_put_2 : DC mX6_put 2 (.iload_n 2) 1 3 := ⟨by decide +kernel, rfl⟩
theorem eX6_put_3 : DC mX6_put 3 (.invokevirtual 143) 3 6 := ⟨by decide +kernel, rfl⟩
theorem eX6_put_6 : DC mX6_put 6 (.istore_n 3) 1 7 := ⟨by decide +kernel, rfl⟩
theorem eX6_put_7 : DC mX6_put 7 (.iload_n 3) 1 8 := ⟨by decide +kernel, rfl⟩
theorem eX6_put_8 : DJ mX6_put 8 (.ifCond .eq) 17 11 := ⟨9, by decide +kernel, by decide, rfl⟩
theorem eX6_put_11 : DC mX6_put 11 (.aload_n 0) 1 12 := ⟨by decide +kernel, rfl⟩
theorem eX6_put_12 : DC mX6_put 12 (.iload_n 3) 1 13 := ⟨by decide +kernel, rfl⟩
theorem eX6_put_13 : DC mX6_put 13 (.invokevirtual 117) 3 16 := ⟨by decide +kernel, rfl⟩
theorem eX6_put_16 : DC mX6_put 16 .ireturn 1 17 := ⟨by decide +kernel, rfl⟩
theorem eX6_put_17 : DC mX6_put 17 (.aload_n 0) 1 18 := ⟨by decide +kernel, rfl⟩
theorem eX6_put_18 : DC mX6_put 18 (.getfield 19) 3 21 := ⟨by decide +kernel, rfl⟩
theorem eX6_put_21 : DC mX6_put 21 (.iload_n 1) 1 22 := ⟨by decide +kernel, rfl⟩
theorem eX6_put_22 : DC mX6_put 22 (.invokevirtual 146) 3 25 := ⟨by decide +kernel, rfl⟩
theorem eX6_put_25 : DC mX6_put 25 (.istore 4) 2 27 := ⟨by decide +kernel, rfl⟩
theorem eX6_put_27 : DC mX6_put 27 (.aload_n 0) 1 28 := ⟨by decide +kernel, rfl⟩
theorem eX6_put_28 : DC mX6_put 28 (.iload_n 1) 1 29 := ⟨by decide +kernel, rfl⟩
theorem eX6_put_29 : DC mX6_put 29 (.iload_n 2) 1 30 := ⟨by decide +kernel, rfl⟩
theorem eX6_put_30 : DC mX6_put 30 (.iload 4) 2 32 := ⟨by decide +kernel, rfl⟩
theorem eX6_put_32 : DC mX6_put 32 (.aload_n 0) 1 33 := ⟨by decide +kernel, rfl⟩
theorem eX6_put_33 : DC mX6_put 33 (.getfield 19) 3 36 := ⟨by decide +kernel, rfl⟩
theorem eX6_put_36 : DC mX6_put 36 (.iload_n 1) 1 37 := ⟨by decide +kernel, rfl⟩
theorem eX6_put_37 : DC mX6_put 37 (.invokevirtual 149) 3 40 := ⟨by decide +kernel, rfl⟩
theorem eX6_put_40 : DC mX6_put 40 (.invokevirtual 152) 3 43 := ⟨by decide +kernel, rfl⟩
theorem eX6_put_43 : DJ mX6_put 43 (.ifCond .eq) 53 46 := ⟨10, by decide +kernel, by decide, rfl⟩
theorem eX6_put_46 : DC mX6_put 46 (.aload_n 0) 1 47 := ⟨by decide +kernel, rfl⟩
theorem eX6_put_47 : DC mX6_put 47 (.bipush 8) 2 49 := ⟨by decide +kernel, rfl⟩
theorem eX6_put_49 : DC mX6_put 49 (.invokevirtual 117) 3 52 := ⟨by decide +kernel, rfl⟩
theorem eX6_put_52 : DC mX6_put 52 .ireturn 1 53 := ⟨by decide +kernel, rfl⟩
theorem eX6_put_53 : DC mX6_put 53 (.aload_n 0) 1 54 := ⟨by decide +kernel, rfl⟩
theorem eX6_put_54 : DC mX6_put 54 (.getfield 19) 3 57 := ⟨by decide +kernel, rfl⟩
theorem eX6_put_57 : DC mX6_put 57 (.iload_n 1) 1 58 := ⟨by decide +kernel, rfl⟩
theorem eX6_put_58 : DC mX6_put 58 (.iload_n 2) 1 59 := ⟨by decide +kernel, rfl⟩
theorem eX6_put_59 : DC mX6_put 59 (.iload 4) 2 61 := ⟨by decide +kernel, rfl⟩
theorem eX6_put_61 : DC mX6_put 61 (.invokevirtual 156) 3 64 := ⟨by decide +kernel, rfl⟩
theorem eX6_put_64 : DC mX6_put 64 .pop 1 65 := ⟨by decide +kernel, rfl⟩
theorem eX6_put_65 : DC mX6_put 65 (.aload_n 0) 1 66 := ⟨by decide +kernel, rfl⟩
theorem eX6_put_66 : DC mX6_put 66 (.invokevirtual 120) 3 69 := ⟨by decide +kernel, rfl⟩
theorem eX6_put_69 : DC mX6_put 69 .ireturn 1 70 := ⟨by decide +kernel, rfl⟩
theorem eX6_why_0 : DC mX6_why 0 (.aload_n 0) 1 1 := ⟨by decide +kernel, rfl⟩
theorem eX6_why_1 : DC mX6_why 1 (.iload_n 1) 1 2 := ⟨by decide +kernel, rfl⟩
theorem eX6_why_2 : DC mX6_why 2 (.iload_n 2) 1 3 := ⟨by decide +kernel, rfl⟩
theorem eX6_why_3 : DC mX6_why 3 (.invokevirtual 159) 3 6 := ⟨by decide +kernel, rfl⟩
theorem eX6_why_6 : DC mX6_why 6 (.istore_n 3) 1 7 := ⟨by decide +kernel, rfl⟩
theorem eX6_why_7 : DC mX6_why 7 (.iload_n 3) 1 8 := ⟨by decide +kernel, rfl⟩
theorem eX6_why_8 : DJ mX6_why 8 (.ifCond .eq) 17 11 := ⟨9, by decide +kernel, by decide, rfl⟩
theorem eX6_why_11 : DC mX6_why 11 (.aload_n 0) 1 12 := ⟨by decide +kernel, rfl⟩
theorem eX6_why_12 : DC mX6_why 12 (.iload_n 3) 1 13 := ⟨by decide +kernel, rfl⟩
theorem eX6_why_13 : DC mX6_why 13 (.invokevirtual 74) 3 16 := ⟨by decide +kernel, rfl⟩
theorem eX6_why_16 : DC mX6_why 16 .ireturn 1 17 := ⟨by decide +kernel, rfl⟩
theorem eX6_why_17 : DC mX6_why 17 (.aload_n 0) 1 18 := ⟨by decide +kernel, rfl⟩
theorem eX6_why_18 : DC mX6_why 18 (.iload_n 1) 1 19 := ⟨by decide +kernel, rfl⟩
theorem eX6_why_19 : DC mX6_why 19 (.iload_n 2) 1 20 := ⟨by decide +kernel, rfl⟩
theorem eX6_why_20 : DC mX6_why 20 (.aload_n 0) 1 21 := ⟨by decide +kernel, rfl⟩
theorem eX6_why_21 : DC mX6_why 21 (.getfield 19) 3 24 := ⟨by decide +kernel, rfl⟩
theorem eX6_why_24 : DC mX6_why 24 (.iload_n 1) 1 25 := ⟨by decide +kernel, rfl⟩
theorem eX6_why_25 : DC mX6_why 25 (.invokevirtual 146) 3 28 := ⟨by decide +kernel, rfl⟩
theorem eX6_why_28 : DC mX6_why 28 (.aload_n 0) 1 29 := ⟨by decide +kernel, rfl⟩
theorem eX6_why_29 : DC mX6_why 29 (.getfield 19) 3 32 := ⟨by decide +kernel, rfl⟩
theorem eX6_why_32 : DC mX6_why 32 (.iload_n 1) 1 33 := ⟨by decide +kernel, rfl⟩
theorem eX6_why_33 : DC mX6_why 33 (.invokevirtual 149) 3 36 := ⟨by decide +kernel, rfl⟩
theorem eX6_why_36 : DC mX6_why 36 (.invokevirtual 152) 3 39 := ⟨by decide +kernel, rfl⟩
theorem eX6_why_39 : DJ mX6_why 39 (.ifCond .eq) 51 42 := ⟨12, by decide +kernel, by decide, rfl⟩
theorem eX6_why_42 : DC mX6_why 42 (.aload_n 0) 1 43 := ⟨by decide +kernel, rfl⟩
theorem eX6_why_43 : DC mX6_why 43 (.aload_n 0) 1 44 := ⟨by decide +kernel, rfl⟩
theorem eX6_why_44 : DC mX6_why 44 (.getfield 64) 3 47 := ⟨by decide +kernel, rfl⟩
theorem eX6_why_47 : DC mX6_why 47 (.invokevirtual 85) 3 50 := ⟨by decide +kernel, rfl⟩
theorem eX6_why_50 : DC mX6_why 50 .ireturn 1 51 := ⟨by decide +kernel, rfl⟩
theorem eX6_why_51 : DC mX6_why 51 (.aload_n 0) 1 52 := ⟨by decide +kernel, rfl⟩
theorem eX6_why_52 : DC mX6_why 52 (.iconst 0) 1 53 := ⟨by decide +kernel, rfl⟩
theorem eX6_why_53 : DC mX6_why 53 (.invokevirtual 85) 3 56 := ⟨by decide +kernel, rfl⟩
theorem eX6_why_56 : DC mX6_why 56 .ireturn 1 57 := ⟨by decide +kernel, rfl⟩
theorem eX6_off_0 : DC mX6_off 0 (.aload_n 0) 1 1 := ⟨by decide +kernel, rfl⟩
theorem eX6_off_1 : DC mX6_off 1 (.getfield 19) 3 4 := ⟨by decide +kernel, rfl⟩
theorem eX6_off_4 : DC mX6_off 4 (.iload_n 1) 1 5 := ⟨by decide +kernel, rfl⟩
theorem eX6_off_5 : DC mX6_off 5 (.invokevirtual 131) 3 8 := ⟨by decide +kernel, rfl⟩
theorem eX6_off_8 : DJ mX6_off 8 (.ifCond .ne) 17 11 := ⟨9, by decide +kernel, by decide, rfl⟩
theorem eX6_off_11 : DC mX6_off 11 (.aload_n 0) 1 12 := ⟨by decide +kernel, rfl⟩
theorem eX6_off_12 : DC mX6_off 12 (.iconst 2) 1 13 := ⟨by decide +kernel, rfl⟩
theorem eX6_off_13 : DC mX6_off 13 (.invokevirtual 117) 3 16 := ⟨by decide +kernel, rfl⟩
theorem eX6_off_16 : DC mX6_off 16 .ireturn 1 17 := ⟨by decide +kernel, rfl⟩
theorem eX6_off_17 : DC mX6_off 17 (.aload_n 0) 1 18 := ⟨by decide +kernel, rfl⟩
theorem eX6_off_18 : DC mX6_off 18 (.getfield 19) 3 21 := ⟨by decide +kernel, rfl⟩
theorem eX6_off_21 : DC mX6_off 21 (.iload_n 1) 1 22 := ⟨by decide +kernel, rfl⟩
theorem eX6_off_22 : DC mX6_off 22 (.invokevirtual 137) 3 25 := ⟨by decide +kernel, rfl⟩
theorem eX6_off_25 : DJ mX6_off 25 (.ifCond .ne) 35 28 := ⟨10, by decide +kernel, by decide, rfl⟩
theorem eX6_off_28 : DC mX6_off 28 (.aload_n 0) 1 29 := ⟨by decide +kernel, rfl⟩
theorem eX6_off_29 : DC mX6_off 29 (.bipush 6) 2 31 := ⟨by decide +kernel, rfl⟩
theorem eX6_off_31 : DC mX6_off 31 (.invokevirtual 117) 3 34 := ⟨by decide +kernel, rfl⟩
theorem eX6_off_34 : DC mX6_off 34 .ireturn 1 35 := ⟨by decide +kernel, rfl⟩
theorem eX6_off_35 : DC mX6_off 35 (.aload_n 0) 1 36 := ⟨by decide +kernel, rfl⟩
theorem eX6_off_36 : DC mX6_off 36 (.getfield 19) 3 39 := ⟨by decide +kernel, rfl⟩
theorem eX6_off_39 : DC mX6_off 39 (.iload_n 1) 1 40 := ⟨by decide +kernel, rfl⟩
theorem eX6_off_40 : DC mX6_off 40 (.invokevirtual 162) 3 43 := ⟨by decide +kernel, rfl⟩
theorem eX6_off_43 : DJ mX6_off 43 (.ifCond .eq) 53 46 := ⟨10, by decide +kernel, by decide, rfl⟩
theorem eX6_off_46 : DC mX6_off 46 (.aload_n 0) 1 47 := ⟨by decide +kernel, rfl⟩
theorem eX6_off_47 : DC mX6_off 47 (.bipush 7) 2 49 := ⟨by decide +kernel, rfl⟩
theorem eX6_off_49 : DC mX6_off 49 (.invokevirtual 117) 3 52 := ⟨by decide +kernel, rfl⟩
theorem eX6_off_52 : DC mX6_off 52 .ireturn 1 53 := ⟨by decide +kernel, rfl⟩
theorem eX6_off_53 : DC mX6_off 53 (.aload_n 0) 1 54 := ⟨by decide +kernel, rfl⟩
theorem eX6_off_54 : DC mX6_off 54 (.getfield 19) 3 57 := ⟨by decide +kernel, rfl⟩
theorem eX6_off_57 : DC mX6_off 57 (.iload_n 1) 1 58 := ⟨by decide +kernel, rfl⟩
theorem eX6_off_58 : DC mX6_off 58 (.invokevirtual 165) 3 61 := ⟨by decide +kernel, rfl⟩
theorem eX6_off_61 : DC mX6_off 61 (.aload_n 0) 1 62 := ⟨by decide +kernel, rfl⟩
theorem eX6_off_62 : DC mX6_off 62 (.invokevirtual 120) 3 65 := ⟨by decide +kernel, rfl⟩
theorem eX6_off_65 : DC mX6_off 65 .ireturn 1 66 := ⟨by decide +kernel, rfl⟩
theorem eX6_tow_0 : DC mX6_tow 0 (.aload_n 0) 1 1 := ⟨by decide +kernel, rfl⟩
theorem eX6_tow_1 : DC mX6_tow 1 (.iload_n 1) 1 2 := ⟨by decide +kernel, rfl⟩
theorem eX6_tow_2 : DC mX6_tow 2 (.iload_n 2) 1 3 := ⟨by decide +kernel, rfl⟩
theorem eX6_tow_3 : DC mX6_tow 3 (.iload_n 3) 1 4 := ⟨by decide +kernel, rfl⟩
theorem eX6_tow_4 : DC mX6_tow 4 (.invokevirtual 169) 3 7 := ⟨by decide +kernel, rfl⟩
theorem eX6_tow_7 : DC mX6_tow 7 (.istore 4) 2 9 := ⟨by decide +kernel, rfl⟩
theorem eX6_tow_9 : DC mX6_tow 9 (.iload 4) 2 11 := ⟨by decide +kernel, rfl⟩
theorem eX6_tow_11 : DJ mX6_tow 11 (.ifCond .eq) 21 14 := ⟨10, by decide +kernel, by decide, rfl⟩
theorem eX6_tow_14 : DC mX6_tow 14 (.aload_n 0) 1 15 := ⟨by decide +kernel, rfl⟩
theorem eX6_tow_15 : DC mX6_tow 15 (.iload 4) 2 17 := ⟨by decide +kernel, rfl⟩
theorem eX6_tow_17 : DC mX6_tow 17 (.invokevirtual 117) 3 20 := ⟨by decide +kernel, rfl⟩
theorem eX6_tow_20 : DC mX6_tow 20 .ireturn 1 21 := ⟨by decide +kernel, rfl⟩
theorem eX6_tow_21 : DC mX6_tow 21 (.aload_n 0) 1 22 := ⟨by decide +kernel, rfl⟩
theorem eX6_tow_22 : DC mX6_tow 22 (.iload_n 1) 1 23 := ⟨by decide +kernel, rfl⟩
theorem eX6_tow_23 : DC mX6_tow 23 (.iload_n 3) 1 24 := ⟨by decide +kernel, rfl⟩
theorem eX6_tow_24 : DC mX6_tow 24 (.iload_n 2) 1 25 := ⟨by decide +kernel, rfl⟩
theorem eX6_tow_25 : DC mX6_tow 25 (.aload_n 0) 1 26 := ⟨by decide +kernel, rfl⟩
theorem eX6_tow_26 : DC mX6_tow 26 (.getfield 19) 3 29 := ⟨by decide +kernel, rfl⟩
theorem eX6_tow_29 : DC mX6_tow 29 (.iload_n 1) 1 30 := ⟨by decide +kernel, rfl⟩
theorem eX6_tow_30 : DC mX6_tow 30 (.invokevirtual 149) 3 33 := ⟨by decide +kernel, rfl⟩
theorem eX6_tow_33 : DC mX6_tow 33 (.invokevirtual 152) 3 36 := ⟨by decide +kernel, rfl⟩
theorem eX6_tow_36 : DJ mX6_tow 36 (.ifCond .eq) 46 39 := ⟨10, by decide +kernel, by decide, rfl⟩
theorem eX6_tow_39 : DC mX6_tow 39 (.aload_n 0) 1 40 := ⟨by decide +kernel, rfl⟩
theorem eX6_tow_40 : DC mX6_tow 40 (.bipush 8) 2 42 := ⟨by decide +kernel, rfl⟩
theorem eX6_tow_42 : DC mX6_tow 42 (.invokevirtual 117) 3 45 := ⟨by decide +kernel, rfl⟩
theorem eX6_tow_45 : DC mX6_tow 45 .ireturn 1 46 := ⟨by decide +kernel, rfl⟩
theorem eX6_tow_46 : DC mX6_tow 46 (.aload_n 0) 1 47 := ⟨by decide +kernel, rfl⟩
theorem eX6_tow_47 : DC mX6_tow 47 (.getfield 19) 3 50 := ⟨by decide +kernel, rfl⟩
theorem eX6_tow_50 : DC mX6_tow 50 (.iload_n 1) 1 51 := ⟨by decide +kernel, rfl⟩
theorem eX6_tow_51 : DC mX6_tow 51 (.iload_n 2) 1 52 := ⟨by decide +kernel, rfl⟩
theorem eX6_tow_52 : DC mX6_tow 52 (.aload_n 0) 1 53 := ⟨by decide +kernel, rfl⟩
theorem eX6_tow_53 : DC mX6_tow 53 (.getfield 57) 3 56 := ⟨by decide +kernel, rfl⟩
theorem eX6_tow_56 : DC mX6_tow 56 .iadd 1 57 := ⟨by decide +kernel, rfl⟩
theorem eX6_tow_57 : DC mX6_tow 57 (.invokevirtual 172) 3 60 := ⟨by decide +kernel, rfl⟩
theorem eX6_tow_60 : DC mX6_tow 60 (.aload_n 0) 1 61 := ⟨by decide +kernel, rfl⟩
theorem eX6_tow_61 : DC mX6_tow 61 (.getfield 19) 3 64 := ⟨by decide +kernel, rfl⟩
theorem eX6_tow_64 : DC mX6_tow 64 (.iload_n 1) 1 65 := ⟨by decide +kernel, rfl⟩
theorem eX6_tow_65 : DC mX6_tow 65 (.iload_n 3) 1 66 := ⟨by decide +kernel, rfl⟩
theorem eX6_tow_66 : DC mX6_tow 66 (.iload_n 2) 1 67 := ⟨by decide +kernel, rfl⟩
theorem eX6_tow_67 : DC mX6_tow 67 (.invokevirtual 176) 3 70 := ⟨by decide +kernel, rfl⟩
theorem eX6_tow_70 : DC mX6_tow 70 (.aload_n 0) 1 71 := ⟨by decide +kernel, rfl⟩
theorem eX6_tow_71 : DC mX6_tow 71 (.invokevirtual 120) 3 74 := ⟨by decide +kernel, rfl⟩
theorem eX6_tow_74 : DC mX6_tow 74 .ireturn 1 75 := ⟨by decide +kernel, rfl⟩
theorem eX6_plan_0 : DC mX6_plan 0 (.aload_n 0) 1 1 := ⟨by decide +kernel, rfl⟩
theorem eX6_plan_1 : DC mX6_plan 1 (.getfield 53) 3 4 := ⟨by decide +kernel, rfl⟩
theorem eX6_plan_4 : DC mX6_plan 4 (.invokevirtual 180) 3 7 := ⟨by decide +kernel, rfl⟩
theorem eX6_plan_7 : DC mX6_plan 7 (.iconst 0) 1 8 := ⟨by decide +kernel, rfl⟩
theorem eX6_plan_8 : DC mX6_plan 8 (.istore_n 1) 1 9 := ⟨by decide +kernel, rfl⟩
theorem eX6_plan_9 : DC mX6_plan 9 (.iload_n 1) 1 10 := ⟨by decide +kernel, rfl⟩
theorem eX6_plan_10 : DC mX6_plan 10 (.aload_n 0) 1 11 := ⟨by decide +kernel, rfl⟩
theorem eX6_plan_11 : DC mX6_plan 11 (.getfield 19) 3 14 := ⟨by decide +kernel, rfl⟩
theorem eX6_plan_14 : DC mX6_plan 14 (.getfield 124) 3 17 := ⟨by decide +kernel, rfl⟩
theorem eX6_plan_17 : DJ mX6_plan 17 (.if_icmp .ge) 49 20 := ⟨32, by decide +kernel, by decide, rfl⟩
theorem eX6_plan_20 : DC mX6_plan 20 (.aload_n 0) 1 21 := ⟨by decide +kernel, rfl⟩
theorem eX6_plan_21 : DC mX6_plan 21 (.getfield 19) 3 24 := ⟨by decide +kernel, rfl⟩
theorem eX6_plan_24 : DC mX6_plan 24 (.iload_n 1) 1 25 := ⟨by decide +kernel, rfl⟩
theorem eX6_plan_25 : DC mX6_plan 25 (.invokevirtual 183) 3 28 := ⟨by decide +kernel, rfl⟩
theorem eX6_plan_28 : DJ mX6_plan 28 (.ifCond .eq) 43 31 := ⟨15, by decide +kernel, by decide, rfl⟩
theorem eX6_plan_31 : DC mX6_plan 31 (.aload_n 0) 1 32 := ⟨by decide +kernel, rfl⟩
theorem eX6_plan_32 : DC mX6_plan 32 (.getfield 53) 3 35 := ⟨by decide +kernel, rfl⟩
theorem eX6_plan_35 : DC mX6_plan 35 (.iload_n 1) 1 36 := ⟨by decide +kernel, rfl⟩
theorem eX6_plan_36 : DC mX6_plan 36 (.aload_n 0) 1 37 := ⟨by decide +kernel, rfl⟩
theorem eX6_plan_37 : DC mX6_plan 37 (.getfield 19) 3 40 := ⟨by decide +kernel, rfl⟩
theorem eX6_plan_40 : DC mX6_plan 40 (.invokevirtual 186) 3 43 := ⟨by decide +kernel, rfl⟩
theorem eX6_plan_43 : DC mX6_plan 43 (.iinc 1 1) 3 46 := ⟨by decide +kernel, rfl⟩
theorem eX6_plan_46 : DJ mX6_plan 46 .goto 9 49 := ⟨(-37), by decide +kernel, by decide, rfl⟩
theorem eX6_plan_49 : DC mX6_plan 49 (.aload_n 0) 1 50 := ⟨by decide +kernel, rfl⟩
theorem eX6_plan_50 : DC mX6_plan 50 (.aload_n 0) 1 51 := ⟨by decide +kernel, rfl⟩
theorem eX6_plan_51 : DC mX6_plan 51 (.getfield 53) 3 54 := ⟨by decide +kernel, rfl⟩
theorem eX6_plan_54 : DC mX6_plan 54 (.getfield 190) 3 57 := ⟨by decide +kernel, rfl⟩
theorem eX6_plan_57 : DC mX6_plan 57 (.aload_n 0) 1 58 := ⟨by decide +kernel, rfl⟩
theorem eX6_plan_58 : DC mX6_plan 58 (.invokevirtual 193) 3 61 := ⟨by decide +kernel, rfl⟩
theorem eX6_plan_61 : DC mX6_plan 61 .isub 1 62 := ⟨by decide +kernel, rfl⟩
theorem eX6_plan_62 : DC mX6_plan 62 (.invokevirtual 85) 3 65 := ⟨by decide +kernel, rfl⟩
theorem eX6_plan_65 : DC mX6_plan 65 .ireturn 1 66 := ⟨by decide +kernel, rfl⟩
theorem eX6_search_0 : DC mX6_search 0 (.aload_n 0) 1 1 := ⟨by decide +kernel, rfl⟩
theorem eX6_search_1 : DC mX6_search 1 (.getfield 37) 3 4 := ⟨by decide +kernel, rfl⟩
theorem eX6_search_4 : DC mX6_search 4 (.invokevirtual 197) 3 7 := ⟨by decide +kernel, rfl⟩
theorem eX6_search_7 : DC mX6_search 7 (.istore_n 1) 1 8 := ⟨by decide +kernel, rfl⟩
theorem eX6_search_8 : DC mX6_search 8 (.iload_n 1) 1 9 := ⟨by decide +kernel, rfl⟩
theorem eX6_search_9 : DJ mX6_search 9 (.ifCond .ne) 26 12 := ⟨17, by decide +kernel, by decide, rfl⟩
theorem eX6_search_12 : DC mX6_search 12 (.aload_n 0) 1 13 := ⟨by decide +kernel, rfl⟩
theorem eX6_search_13 : DC mX6_search 13 (.aload_n 0) 1 14 := ⟨by decide +kernel, rfl⟩
theorem eX6_search_14 : DC mX6_search 14 (.getfield 37) 3 17 := ⟨by decide +kernel, rfl⟩
theorem eX6_search_17 : DC mX6_search 17 (.getfield 200) 3 20 := ⟨by decide +kernel, rfl⟩
theorem eX6_search_20 : DC mX6_search 20 (.invokevirtual 85) 3 23 := ⟨by decide +kernel, rfl⟩
theorem eX6_search_23 : DJ mX6_search 23 .goto 31 26 := ⟨8, by decide +kernel, by decide, rfl⟩
theorem eX6_search_26 : DC mX6_search 26 (.aload_n 0) 1 27 := ⟨by decide +kernel, rfl⟩
theorem eX6_search_27 : DC mX6_search 27 (.iload_n 1) 1 28 := ⟨by decide +kernel, rfl⟩
theorem eX6_search_28 : DC mX6_search 28 (.invokevirtual 74) 3 31 := ⟨by decide +kernel, rfl⟩
theorem eX6_search_31 : DC mX6_search 31 .ireturn 1 32 := ⟨by decide +kernel, rfl⟩
theorem eX6_most_0 : DC mX6_most 0 (.aload_n 0) 1 1 := ⟨by decide +kernel, rfl⟩
theorem eX6_most_1 : DC mX6_most 1 (.getfield 37) 3 4 := ⟨by decide +kernel, rfl⟩
theorem eX6_most_4 : DC mX6_most 4 (.invokevirtual 203) 3 7 := ⟨by decide +kernel, rfl⟩
theorem eX6_most_7 : DC mX6_most 7 (.istore_n 1) 1 8 := ⟨by decide +kernel, rfl⟩
theorem eX6_most_8 : DC mX6_most 8 (.iload_n 1) 1 9 := ⟨by decide +kernel, rfl⟩
theorem eX6_most_9 : DJ mX6_most 9 (.ifCond .ne) 26 12 := ⟨17, by decide +kernel, by decide, rfl⟩
theorem eX6_most_12 : DC mX6_most 12 (.aload_n 0) 1 13 := ⟨by decide +kernel, rfl⟩
theorem eX6_most_13 : DC mX6_most 13 (.aload_n 0) 1 14 := ⟨by decide +kernel, rfl⟩
theorem eX6_most_14 : DC mX6_most 14 (.getfield 37) 3 17 := ⟨by decide +kernel, rfl⟩
theorem eX6_most_17 : DC mX6_most 17 (.getfield 206) 3 20 := ⟨by decide +kernel, rfl⟩
theorem eX6_most_20 : DC mX6_most 20 (.invokevirtual 85) 3 23 := ⟨by decide +kernel, rfl⟩
theorem eX6_most_23 : DJ mX6_most 23 .goto 31 26 := ⟨8, by decide +kernel, by decide, rfl⟩
theorem eX6_most_26 : DC mX6_most 26 (.aload_n 0) 1 27 := ⟨by decide +kernel, rfl⟩
theorem eX6_most_27 : DC mX6_most 27 (.iload_n 1) 1 28 := ⟨by decide +kernel, rfl⟩
theorem eX6_most_28 : DC mX6_most 28 (.invokevirtual 74) 3 31 := ⟨by decide +kernel, rfl⟩
theorem eX6_most_31 : DC mX6_most 31 .ireturn 1 32 := ⟨by decide +kernel, rfl⟩
theorem eX6_late_0 : DC mX6_late 0 (.aload_n 0) 1 1 := ⟨by decide +kernel, rfl⟩
theorem eX6_late_1 : DC mX6_late 1 (.getfield 19) 3 4 := ⟨by decide +kernel, rfl⟩
theorem eX6_late_4 : DC mX6_late 4 (.iload_n 1) 1 5 := ⟨by decide +kernel, rfl⟩
theorem eX6_late_5 : DC mX6_late 5 (.invokevirtual 131) 3 8 := ⟨by decide +kernel, rfl⟩
theorem eX6_late_8 : DJ mX6_late 8 (.ifCond .ne) 17 11 := ⟨9, by decide +kernel, by decide, rfl⟩
theorem eX6_late_11 : DC mX6_late 11 (.aload_n 0) 1 12 := ⟨by decide +kernel, rfl⟩
theorem eX6_late_12 : DC mX6_late 12 (.iconst 2) 1 13 := ⟨by decide +kernel, rfl⟩
theorem eX6_late_13 : DC mX6_late 13 (.invokevirtual 74) 3 16 := ⟨by decide +kernel, rfl⟩
theorem eX6_late_16 : DC mX6_late 16 .ireturn 1 17 := ⟨by decide +kernel, rfl⟩
theorem eX6_late_17 : DC mX6_late 17 (.aload_n 0) 1 18 := ⟨by decide +kernel, rfl⟩
theorem eX6_late_18 : DC mX6_late 18 (.getfield 19) 3 21 := ⟨by decide +kernel, rfl⟩
theorem eX6_late_21 : DC mX6_late 21 (.getfield 134) 3 24 := ⟨by decide +kernel, rfl⟩
theorem eX6_late_24 : DC mX6_late 24 (.iload_n 1) 1 25 := ⟨by decide +kernel, rfl⟩
theorem eX6_late_25 : DC mX6_late 25 .iaload 1 26 := ⟨by decide +kernel, rfl⟩
theorem eX6_late_26 : DC mX6_late 26 (.iconst 3) 1 27 := ⟨by decide +kernel, rfl⟩
theorem eX6_late_27 : DJ mX6_late 27 (.if_icmp .le) 49 30 := ⟨22, by decide +kernel, by decide, rfl⟩
theorem eX6_late_30 : DC mX6_late 30 (.iload_n 2) 1 31 := ⟨by decide +kernel, rfl⟩
theorem eX6_late_31 : DC mX6_late 31 (.aload_n 0) 1 32 := ⟨by decide +kernel, rfl⟩
theorem eX6_late_32 : DC mX6_late 32 (.getfield 19) 3 35 := ⟨by decide +kernel, rfl⟩
theorem eX6_late_35 : DC mX6_late 35 (.iload_n 1) 1 36 := ⟨by decide +kernel, rfl⟩
theorem eX6_late_36 : DC mX6_late 36 (.invokevirtual 149) 3 39 := ⟨by decide +kernel, rfl⟩
theorem eX6_late_39 : DJ mX6_late 39 (.if_icmp .le) 49 42 := ⟨10, by decide +kernel, by decide, rfl⟩
theorem eX6_late_42 : DC mX6_late 42 (.iload_n 2) 1 43 := ⟨by decide +kernel, rfl⟩
theorem eX6_late_43 : DC mX6_late 43 (.sipush 2880) 3 46 := ⟨by decide +kernel, rfl⟩
theorem eX6_late_46 : DJ mX6_late 46 (.if_icmp .le) 55 49 := ⟨9, by decide +kernel, by decide, rfl⟩
theorem eX6_late_49 : DC mX6_late 49 (.aload_n 0) 1 50 := ⟨by decide +kernel, rfl⟩
theorem eX6_late_50 : DC mX6_late 50 (.iconst 3) 1 51 := ⟨by decide +kernel, rfl⟩
theorem eX6_late_51 : DC mX6_late 51 (.invokevirtual 74) 3 54 := ⟨by decide +kernel, rfl⟩
theorem eX6_late_54 : DC mX6_late 54 .ireturn 1 55 := ⟨by decide +kernel, rfl⟩
theorem eX6_late_55 : DC mX6_late 55 (.aload_n 0) 1 56 := ⟨by decide +kernel, rfl⟩
theorem eX6_late_56 : DC mX6_late 56 (.getfield 19) 3 59 := ⟨by decide +kernel, rfl⟩
theorem eX6_late_59 : DC mX6_late 59 (.iload_n 1) 1 60 := ⟨by decide +kernel, rfl⟩
theorem eX6_late_60 : DC mX6_late 60 (.invokevirtual 137) 3 63 := ⟨by decide +kernel, rfl⟩
theorem eX6_late_63 : DJ mX6_late 63 (.ifCond .ne) 73 66 := ⟨10, by decide +kernel, by decide, rfl⟩
theorem eX6_late_66 : DC mX6_late 66 (.aload_n 0) 1 67 := ⟨by decide +kernel, rfl⟩
theorem eX6_late_67 : DC mX6_late 67 (.bipush 6) 2 69 := ⟨by decide +kernel, rfl⟩
theorem eX6_late_69 : DC mX6_late 69 (.invokevirtual 74) 3 72 := ⟨by decide +kernel, rfl⟩
theorem eX6_late_72 : DC mX6_late 72 .ireturn 1 73 := ⟨by decide +kernel, rfl⟩
theorem eX6_late_73 : DC mX6_late 73 (.aload_n 0) 1 74 := ⟨by decide +kernel, rfl⟩
theorem eX6_late_74 : DC mX6_late 74 (.getfield 46) 3 77 := ⟨by decide +kernel, rfl⟩
theorem eX6_late_77 : DC mX6_late 77 (.iload_n 1) 1 78 := ⟨by decide +kernel, rfl⟩
theorem eX6_late_78 : DC mX6_late 78 (.iload_n 2) 1 79 := ⟨by decide +kernel, rfl⟩
theorem eX6_late_79 : DC mX6_late 79 (.invokevirtual 209) 3 82 := ⟨by decide +kernel, rfl⟩
theorem eX6_late_82 : DC mX6_late 82 (.istore_n 3) 1 83 := ⟨by decide +kernel, rfl⟩
theorem eX6_late_83 : DC mX6_late 83 (.iload_n 3) 1 84 := ⟨by decide +kernel, rfl⟩
theorem eX6_late_84 : DJ mX6_late 84 (.ifCond .eq) 99 87 := ⟨15, by decide +kernel, by decide, rfl⟩
theorem eX6_late_87 : DC mX6_late 87 (.aload_n 0) 1 88 := ⟨by decide +kernel, rfl⟩
theorem eX6_late_88 : DC mX6_late 88 (.iload_n 3) 1 89 := ⟨by decide +kernel, rfl⟩
theorem eX6_late_89 : DC mX6_late 89 (.invokevirtual 212) 3 92 := ⟨by decide +kernel, rfl⟩
theorem eX6_late_92 : DC mX6_late 92 (.aload_n 0) 1 93 := ⟨by decide +kernel, rfl⟩
theorem eX6_late_93 : DC mX6_late 93 (.bipush 9) 2 95 := ⟨by decide +kernel, rfl⟩
theorem eX6_late_95 : DC mX6_late 95 (.invokevirtual 74) 3 98 := ⟨by decide +kernel, rfl⟩
theorem eX6_late_98 : DC mX6_late 98 .ireturn 1 99 := ⟨by decide +kernel, rfl⟩
theorem eX6_late_99 : DC mX6_late 99 (.aload_n 0) 1 100 := ⟨by decide +kernel, rfl⟩
theorem eX6_late_100 : DC mX6_late 100 (.aload_n 0) 1 101 := ⟨by decide +kernel, rfl⟩
theorem eX6_late_101 : DC mX6_late 101 (.getfield 46) 3 104 := ⟨by decide +kernel, rfl⟩
theorem eX6_late_104 : DC mX6_late 104 (.iload_n 1) 1 105 := ⟨by decide +kernel, rfl⟩
theorem eX6_late_105 : DC mX6_late 105 (.iload_n 2) 1 106 := ⟨by decide +kernel, rfl⟩
theorem eX6_late_106 : DC mX6_late 106 (.invokevirtual 215) 3 109 := ⟨by decide +kernel, rfl⟩
theorem eX6_late_109 : DC mX6_late 109 (.invokevirtual 85) 3 112 := ⟨by decide +kernel, rfl⟩
theorem eX6_late_112 : DC mX6_late 112 .ireturn 1 113 := ⟨by decide +kernel, rfl⟩
theorem eX6_changed_0 : DC mX6_changed 0 (.aload_n 0) 1 1 := ⟨by decide +kernel, rfl⟩
theorem eX6_changed_1 : DC mX6_changed 1 (.getfield 46) 3 4 := ⟨by decide +kernel, rfl⟩
theorem eX6_changed_4 : DC mX6_changed 4 (.getfield 218) 3 7 := ⟨by decide +kernel, rfl⟩
theorem eX6_changed_7 : DC mX6_changed 7 (.iload_n 1) 1 8 := ⟨by decide +kernel, rfl⟩
theorem eX6_changed_8 : DC mX6_changed 8 (.invokevirtual 221) 3 11 := ⟨by decide +kernel, rfl⟩
theorem eX6_changed_11 : DC mX6_changed 11 .ireturn 1 12 := ⟨by decide +kernel, rfl⟩
theorem eX6_now_0 : DC mX6_now 0 (.iload_n 1) 1 1 := ⟨by decide +kernel, rfl⟩
theorem eX6_now_1 : DC mX6_now 1 (.aload_n 0) 1 2 := ⟨by decide +kernel, rfl⟩
theorem eX6_now_2 : DC mX6_now 2 (.getfield 19) 3 5 := ⟨by decide +kernel, rfl⟩
theorem eX6_now_5 : DC mX6_now 5 (.getfield 224) 3 8 := ⟨by decide +kernel, rfl⟩
theorem eX6_now_8 : DC mX6_now 8 (.sipush 2879) 3 11 := ⟨by decide +kernel, rfl⟩
theorem eX6_now_11 : DC mX6_now 11 (.invokestatic 70) 3 14 := ⟨by decide +kernel, rfl⟩
theorem eX6_now_14 : DJ mX6_now 14 (.ifCond .ne) 23 17 := ⟨9, by decide +kernel, by decide, rfl⟩
theorem eX6_now_17 : DC mX6_now 17 (.aload_n 0) 1 18 := ⟨by decide +kernel, rfl⟩
theorem eX6_now_18 : DC mX6_now 18 (.iconst 3) 1 19 := ⟨by decide +kernel, rfl⟩
theorem eX6_now_19 : DC mX6_now 19 (.invokevirtual 74) 3 22 := ⟨by decide +kernel, rfl⟩
theorem eX6_now_22 : DC mX6_now 22 .ireturn 1 23 := ⟨by decide +kernel, rfl⟩
theorem eX6_now_23 : DC mX6_now 23 (.aload_n 0) 1 24 := ⟨by decide +kernel, rfl⟩
theorem eX6_now_24 : DC mX6_now 24 (.getfield 19) 3 27 := ⟨by decide +kernel, rfl⟩
theorem eX6_now_27 : DC mX6_now 27 (.iload_n 1) 1 28 := ⟨by decide +kernel, rfl⟩
theorem eX6_now_28 : DC mX6_now 28 (.putfield 224) 3 31 := ⟨by decide +kernel, rfl⟩
theorem eX6_now_31 : DC mX6_now 31 (.aload_n 0) 1 32 := ⟨by decide +kernel, rfl⟩
theorem eX6_now_32 : DC mX6_now 32 (.getfield 53) 3 35 := ⟨by decide +kernel, rfl⟩
theorem eX6_now_35 : DC mX6_now 35 (.invokevirtual 180) 3 38 := ⟨by decide +kernel, rfl⟩
theorem eX6_now_38 : DC mX6_now 38 (.iconst 0) 1 39 := ⟨by decide +kernel, rfl⟩
theorem eX6_now_39 : DC mX6_now 39 (.istore_n 2) 1 40 := ⟨by decide +kernel, rfl⟩
theorem eX6_now_40 : DC mX6_now 40 (.iload_n 2) 1 41 := ⟨by decide +kernel, rfl⟩
theorem eX6_now_41 : DC mX6_now 41 (.aload_n 0) 1 42 := ⟨by decide +kernel, rfl⟩
theorem eX6_now_42 : DC mX6_now 42 (.getfield 19) 3 45 := ⟨by decide +kernel, rfl⟩
theorem eX6_now_45 : DC mX6_now 45 (.getfield 124) 3 48 := ⟨by decide +kernel, rfl⟩
theorem eX6_now_48 : DJ mX6_now 48 (.if_icmp .ge) 80 51 := ⟨32, by decide +kernel, by decide, rfl⟩
theorem eX6_now_51 : DC mX6_now 51 (.aload_n 0) 1 52 := ⟨by decide +kernel, rfl⟩
theorem eX6_now_52 : DC mX6_now 52 (.getfield 19) 3 55 := ⟨by decide +kernel, rfl⟩
theorem eX6_now_55 : DC mX6_now 55 (.iload_n 2) 1 56 := ⟨by decide +kernel, rfl⟩
theorem eX6_now_56 : DC mX6_now 56 (.invokevirtual 227) 3 59 := ⟨by decide +kernel, rfl⟩
theorem eX6_now_59 : DJ mX6_now 59 (.ifCond .eq) 74 62 := ⟨15, by decide +kernel, by decide, rfl⟩
theorem eX6_now_62 : DC mX6_now 62 (.aload_n 0) 1 63 := ⟨by decide +kernel, rfl⟩
theorem eX6_now_63 : DC mX6_now 63 (.getfield 53) 3 66 := ⟨by decide +kernel, rfl⟩
theorem eX6_now_66 : DC mX6_now 66 (.iload_n 2) 1 67 := ⟨by decide +kernel, rfl⟩
theorem eX6_now_67 : DC mX6_now 67 (.aload_n 0) 1 68 := ⟨by decide +kernel, rfl⟩
theorem eX6_now_68 : DC mX6_now 68 (.getfield 19) 3 71 := ⟨by decide +kernel, rfl⟩
theorem eX6_now_71 : DC mX6_now 71 (.invokevirtual 186) 3 74 := ⟨by decide +kernel, rfl⟩
theorem eX6_now_74 : DC mX6_now 74 (.iinc 2 1) 3 77 := ⟨by decide +kernel, rfl⟩
theorem eX6_now_77 : DJ mX6_now 77 .goto 40 80 := ⟨(-37), by decide +kernel, by decide, rfl⟩
theorem eX6_now_80 : DC mX6_now 80 (.aload_n 0) 1 81 := ⟨by decide +kernel, rfl⟩
theorem eX6_now_81 : DC mX6_now 81 (.aload_n 0) 1 82 := ⟨by decide +kernel, rfl⟩
theorem eX6_now_82 : DC mX6_now 82 (.invokevirtual 193) 3 85 := ⟨by decide +kernel, rfl⟩
theorem eX6_now_85 : DC mX6_now 85 (.invokevirtual 85) 3 88 := ⟨by decide +kernel, rfl⟩
theorem eX6_now_88 : DC mX6_now 88 .ireturn 1 89 := ⟨by decide +kernel, rfl⟩
theorem eX6_waiting_0 : DC mX6_waiting 0 (.iconst 0) 1 1 := ⟨by decide +kernel, rfl⟩
theorem eX6_waiting_1 : DC mX6_waiting 1 (.istore_n 1) 1 2 := ⟨by decide +kernel, rfl⟩
theorem eX6_waiting_2 : DC mX6_waiting 2 (.iconst 0) 1 3 := ⟨by decide +kernel, rfl⟩
theorem eX6_waiting_3 : DC mX6_waiting 3 (.istore_n 2) 1 4 := ⟨by decide +kernel, rfl⟩
theorem eX6_waiting_4 : DC mX6_waiting 4 (.iload_n 2) 1 5 := ⟨by decide +kernel, rfl⟩
theorem eX6_waiting_5 : DC mX6_waiting 5 (.aload_n 0) 1 6 := ⟨by decide +kernel, rfl⟩
theorem eX6_waiting_6 : DC mX6_waiting 6 (.getfield 19) 3 9 := ⟨by decide +kernel, rfl⟩
theorem eX6_waiting_9 : DC mX6_waiting 9 (.getfield 124) 3 12 := ⟨by decide +kernel, rfl⟩
theorem eX6_waiting_12 : DJ mX6_waiting 12 (.if_icmp .ge) 35 15 := ⟨23, by decide +kernel, by decide, rfl⟩
theorem eX6_waiting_15 : DC mX6_waiting 15 (.aload_n 0) 1 16 := ⟨by decide +kernel, rfl⟩
theorem eX6_waiting_16 : DC mX6_waiting 16 (.getfield 19) 3 19 := ⟨by decide +kernel, rfl⟩
theorem eX6_waiting_19 : DC mX6_waiting 19 (.iload_n 2) 1 20 := ⟨by decide +kernel, rfl⟩
theorem eX6_waiting_20 : DC mX6_waiting 20 (.invokevirtual 227) 3 23 := ⟨by decide +kernel, rfl⟩
theorem eX6_waiting_23 : DJ mX6_waiting 23 (.ifCond .eq) 29 26 := ⟨6, by decide +kernel, by decide, rfl⟩
theorem eX6_waiting_26 : DC mX6_waiting 26 (.iinc 1 1) 3 29 := ⟨by decide +kernel, rfl⟩
theorem eX6_waiting_29 : DC mX6_waiting 29 (.iinc 2 1) 3 32 := ⟨by decide +kernel, rfl⟩
theorem eX6_waiting_32 : DJ mX6_waiting 32 .goto 4 35 := ⟨(-28), by decide +kernel, by decide, rfl⟩
theorem eX6_waiting_35 : DC mX6_waiting 35 (.iload_n 1) 1 36 := ⟨by decide +kernel, rfl⟩
theorem eX6_waiting_36 : DC mX6_waiting 36 .ireturn 1 37 := ⟨by decide +kernel, rfl⟩
theorem eX6_swap_0 : DC mX6_swap 0 (.aload_n 0) 1 1 := ⟨by decide +kernel, rfl⟩
theorem eX6_swap_1 : DC mX6_swap 1 (.iload_n 1) 1 2 := ⟨by decide +kernel, rfl⟩
theorem eX6_swap_2 : DC mX6_swap 2 (.iload_n 2) 1 3 := ⟨by decide +kernel, rfl⟩
theorem eX6_swap_3 : DC mX6_swap 3 (.invokevirtual 230) 3 6 := ⟨by decide +kernel, rfl⟩
theorem eX6_swap_6 : DC mX6_swap 6 (.istore_n 3) 1 7 := ⟨by decide +kernel, rfl⟩
theorem eX6_swap_7 : DC mX6_swap 7 (.iload_n 3) 1 8 := ⟨by decide +kernel, rfl⟩
theorem eX6_swap_8 : DJ mX6_swap 8 (.ifCond .eq) 17 11 := ⟨9, by decide +kernel, by decide, rfl⟩
theorem eX6_swap_11 : DC mX6_swap 11 (.aload_n 0) 1 12 := ⟨by decide +kernel, rfl⟩
theorem eX6_swap_12 : DC mX6_swap 12 (.iload_n 3) 1 13 := ⟨by decide +kernel, rfl⟩
theorem eX6_swap_13 : DC mX6_swap 13 (.invokevirtual 117) 3 16 := ⟨by decide +kernel, rfl⟩
theorem eX6_swap_16 : DC mX6_swap 16 .ireturn 1 17 := ⟨by decide +kernel, rfl⟩
theorem eX6_swap_17 : DC mX6_swap 17 (.aload_n 0) 1 18 := ⟨by decide +kernel, rfl⟩
theorem eX6_swap_18 : DC mX6_swap 18 (.getfield 19) 3 21 := ⟨by decide +kernel, rfl⟩
theorem eX6_swap_21 : DC mX6_swap 21 (.iload_n 1) 1 22 := ⟨by decide +kernel, rfl⟩
theorem eX6_swap_22 : DC mX6_swap 22 (.iconst 0) 1 23 := ⟨by decide +kernel, rfl⟩
theorem eX6_swap_23 : DC mX6_swap 23 (.invokevirtual 233) 3 26 := ⟨by decide +kernel, rfl⟩
theorem eX6_swap_26 : DC mX6_swap 26 (.istore 4) 2 28 := ⟨by decide +kernel, rfl⟩
theorem eX6_swap_28 : DC mX6_swap 28 (.aload_n 0) 1 29 := ⟨by decide +kernel, rfl⟩
theorem eX6_swap_29 : DC mX6_swap 29 (.getfield 19) 3 32 := ⟨by decide +kernel, rfl⟩
theorem eX6_swap_32 : DC mX6_swap 32 (.iload_n 2) 1 33 := ⟨by decide +kernel, rfl⟩
theorem eX6_swap_33 : DC mX6_swap 33 (.iconst 0) 1 34 := ⟨by decide +kernel, rfl⟩
theorem eX6_swap_34 : DC mX6_swap 34 (.invokevirtual 233) 3 37 := ⟨by decide +kernel, rfl⟩
theorem eX6_swap_37 : DC mX6_swap 37 (.istore 5) 2 39 := ⟨by decide +kernel, rfl⟩
theorem eX6_swap_39 : DC mX6_swap 39 (.aload_n 0) 1 40 := ⟨by decide +kernel, rfl⟩
theorem eX6_swap_40 : DC mX6_swap 40 (.getfield 28) 3 43 := ⟨by decide +kernel, rfl⟩
theorem eX6_swap_43 : DC mX6_swap 43 (.iload_n 2) 1 44 := ⟨by decide +kernel, rfl⟩
theorem eX6_swap_44 : DC mX6_swap 44 (.invokevirtual 236) 3 47 := ⟨by decide +kernel, rfl⟩
theorem eX6_swap_47 : DC mX6_swap 47 (.aload_n 0) 1 48 := ⟨by decide +kernel, rfl⟩
theorem eX6_swap_48 : DC mX6_swap 48 (.iload_n 1) 1 49 := ⟨by decide +kernel, rfl⟩
theorem eX6_swap_49 : DC mX6_swap 49 (.iload 5) 2 51 := ⟨by decide +kernel, rfl⟩
theorem eX6_swap_51 : DC mX6_swap 51 (.aload_n 0) 1 52 := ⟨by decide +kernel, rfl⟩
theorem eX6_swap_52 : DC mX6_swap 52 (.getfield 19) 3 55 := ⟨by decide +kernel, rfl⟩
theorem eX6_swap_55 : DC mX6_swap 55 (.iload_n 1) 1 56 := ⟨by decide +kernel, rfl⟩
theorem eX6_swap_56 : DC mX6_swap 56 (.iconst 0) 1 57 := ⟨by decide +kernel, rfl⟩
theorem eX6_swap_57 : DC mX6_swap 57 (.invokevirtual 239) 3 60 := ⟨by decide +kernel, rfl⟩
theorem eX6_swap_60 : DC mX6_swap 60 (.aload_n 0) 1 61 := ⟨by decide +kernel, rfl⟩
theorem eX6_swap_61 : DC mX6_swap 61 (.getfield 19) 3 64 := ⟨by decide +kernel, rfl⟩
theorem eX6_swap_64 : DC mX6_swap 64 (.iload_n 1) 1 65 := ⟨by decide +kernel, rfl⟩
theorem eX6_swap_65 : DC mX6_swap 65 (.iconst 0) 1 66 := ⟨by decide +kernel, rfl⟩
theorem eX6_swap_66 : DC mX6_swap 66 (.invokevirtual 242) 3 69 := ⟨by decide +kernel, rfl⟩
theorem eX6_swap_69 : DC mX6_swap 69 (.invokevirtual 152) 3 72 := ⟨by decide +kernel, rfl⟩
theorem eX6_swap_72 : DC mX6_swap 72 (.istore 6) 2 74 := ⟨by decide +kernel, rfl⟩
theorem eX6_swap_74 : DC mX6_swap 74 (.aload_n 0) 1 75 := ⟨by decide +kernel, rfl⟩
theorem eX6_swap_75 : DC mX6_swap 75 (.getfield 28) 3 78 := ⟨by decide +kernel, rfl⟩
theorem eX6_swap_78 : DC mX6_swap 78 (.invokevirtual 245) 3 81 := ⟨by decide +kernel, rfl⟩
theorem eX6_swap_81 : DC mX6_swap 81 (.iload 6) 2 83 := ⟨by decide +kernel, rfl⟩
theorem eX6_swap_83 : DJ mX6_swap 83 (.ifCond .eq) 93 86 := ⟨10, by decide +kernel, by decide, rfl⟩
theorem eX6_swap_86 : DC mX6_swap 86 (.aload_n 0) 1 87 := ⟨by decide +kernel, rfl⟩
theorem eX6_swap_87 : DC mX6_swap 87 (.bipush 8) 2 89 := ⟨by decide +kernel, rfl⟩
theorem eX6_swap_89 : DC mX6_swap 89 (.invokevirtual 117) 3 92 := ⟨by decide +kernel, rfl⟩
theorem eX6_swap_92 : DC mX6_swap 92 .ireturn 1 93 := ⟨by decide +kernel, rfl⟩
theorem eX6_swap_93 : DC mX6_swap 93 (.aload_n 0) 1 94 := ⟨by decide +kernel, rfl⟩
theorem eX6_swap_94 : DC mX6_swap 94 (.getfield 19) 3 97 := ⟨by decide +kernel, rfl⟩
theorem eX6_swap_97 : DC mX6_swap 97 (.iload_n 1) 1 98 := ⟨by decide +kernel, rfl⟩
theorem eX6_swap_98 : DC mX6_swap 98 (.iload 5) 2 100 := ⟨by decide +kernel, rfl⟩
theorem eX6_swap_100 : DC mX6_swap 100 (.invokevirtual 248) 3 103 := ⟨by decide +kernel, rfl⟩
theorem eX6_swap_103 : DC mX6_swap 103 (.aload_n 0) 1 104 := ⟨by decide +kernel, rfl⟩
theorem eX6_swap_104 : DC mX6_swap 104 (.iload_n 2) 1 105 := ⟨by decide +kernel, rfl⟩
theorem eX6_swap_105 : DC mX6_swap 105 (.iload 4) 2 107 := ⟨by decide +kernel, rfl⟩
theorem eX6_swap_107 : DC mX6_swap 107 (.aload_n 0) 1 108 := ⟨by decide +kernel, rfl⟩
theorem eX6_swap_108 : DC mX6_swap 108 (.getfield 19) 3 111 := ⟨by decide +kernel, rfl⟩
theorem eX6_swap_111 : DC mX6_swap 111 (.iload_n 2) 1 112 := ⟨by decide +kernel, rfl⟩
theorem eX6_swap_112 : DC mX6_swap 112 (.iconst 0) 1 113 := ⟨by decide +kernel, rfl⟩
theorem eX6_swap_113 : DC mX6_swap 113 (.invokevirtual 239) 3 116 := ⟨by decide +kernel, rfl⟩
theorem eX6_swap_116 : DC mX6_swap 116 (.aload_n 0) 1 117 := ⟨by decide +kernel, rfl⟩
theorem eX6_swap_117 : DC mX6_swap 117 (.getfield 19) 3 120 := ⟨by decide +kernel, rfl⟩
theorem eX6_swap_120 : DC mX6_swap 120 (.iload_n 2) 1 121 := ⟨by decide +kernel, rfl⟩
theorem eX6_swap_121 : DC mX6_swap 121 (.iconst 0) 1 122 := ⟨by decide +kernel, rfl⟩
theorem eX6_swap_122 : DC mX6_swap 122 (.invokevirtual 242) 3 125 := ⟨by decide +kernel, rfl⟩
theorem eX6_swap_125 : DC mX6_swap 125 (.invokevirtual 152) 3 128 := ⟨by decide +kernel, rfl⟩
theorem eX6_swap_128 : DJ mX6_swap 128 (.ifCond .eq) 148 131 := ⟨20, by decide +kernel, by decide, rfl⟩
theorem eX6_swap_131 : DC mX6_swap 131 (.aload_n 0) 1 132 := ⟨by decide +kernel, rfl⟩
theorem eX6_swap_132 : DC mX6_swap 132 (.getfield 19) 3 135 := ⟨by decide +kernel, rfl⟩
theorem eX6_swap_135 : DC mX6_swap 135 (.iload_n 1) 1 136 := ⟨by decide +kernel, rfl⟩
theorem eX6_swap_136 : DC mX6_swap 136 (.iload 4) 2 138 := ⟨by decide +kernel, rfl⟩
theorem eX6_swap_138 : DC mX6_swap 138 (.invokevirtual 248) 3 141 := ⟨by decide +kernel, rfl⟩
theorem eX6_swap_141 : DC mX6_swap 141 (.aload_n 0) 1 142 := ⟨by decide +kernel, rfl⟩
theorem eX6_swap_142 : DC mX6_swap 142 (.bipush 8) 2 144 := ⟨by decide +kernel, rfl⟩
theorem eX6_swap_144 : DC mX6_swap 144 (.invokevirtual 117) 3 147 := ⟨by decide +kernel, rfl⟩
theorem eX6_swap_147 : DC mX6_swap 147 .ireturn 1 148 := ⟨by decide +kernel, rfl⟩
theorem eX6_swap_148 : DC mX6_swap 148 (.aload_n 0) 1 149 := ⟨by decide +kernel, rfl⟩
theorem eX6_swap_149 : DC mX6_swap 149 (.getfield 19) 3 152 := ⟨by decide +kernel, rfl⟩
theorem eX6_swap_152 : DC mX6_swap 152 (.iload_n 2) 1 153 := ⟨by decide +kernel, rfl⟩
theorem eX6_swap_153 : DC mX6_swap 153 (.iload 4) 2 155 := ⟨by decide +kernel, rfl⟩
theorem eX6_swap_155 : DC mX6_swap 155 (.invokevirtual 248) 3 158 := ⟨by decide +kernel, rfl⟩
theorem eX6_swap_158 : DC mX6_swap 158 (.aload_n 0) 1 159 := ⟨by decide +kernel, rfl⟩
theorem eX6_swap_159 : DC mX6_swap 159 (.invokevirtual 120) 3 162 := ⟨by decide +kernel, rfl⟩
theorem eX6_swap_162 : DC mX6_swap 162 .ireturn 1 163 := ⟨by decide +kernel, rfl⟩
theorem eX6_stays_0 : DC mX6_stays 0 (.aload_n 0) 1 1 := ⟨by decide +kernel, rfl⟩
theorem eX6_stays_1 : DC mX6_stays 1 (.getfield 19) 3 4 := ⟨by decide +kernel, rfl⟩
theorem eX6_stays_4 : DC mX6_stays 4 (.iload_n 1) 1 5 := ⟨by decide +kernel, rfl⟩
theorem eX6_stays_5 : DC mX6_stays 5 (.invokevirtual 131) 3 8 := ⟨by decide +kernel, rfl⟩
theorem eX6_stays_8 : DJ mX6_stays 8 (.ifCond .eq) 27 11 := ⟨19, by decide +kernel, by decide, rfl⟩
theorem eX6_stays_11 : DC mX6_stays 11 (.aload_n 0) 1 12 := ⟨by decide +kernel, rfl⟩
theorem eX6_stays_12 : DC mX6_stays 12 (.aload_n 0) 1 13 := ⟨by decide +kernel, rfl⟩
theorem eX6_stays_13 : DC mX6_stays 13 (.getfield 19) 3 16 := ⟨by decide +kernel, rfl⟩
theorem eX6_stays_16 : DC mX6_stays 16 (.getfield 251) 3 19 := ⟨by decide +kernel, rfl⟩
theorem eX6_stays_19 : DC mX6_stays 19 (.iload_n 1) 1 20 := ⟨by decide +kernel, rfl⟩
theorem eX6_stays_20 : DC mX6_stays 20 .iaload 1 21 := ⟨by decide +kernel, rfl⟩
theorem eX6_stays_21 : DC mX6_stays 21 (.invokevirtual 85) 3 24 := ⟨by decide +kernel, rfl⟩
theorem eX6_stays_24 : DJ mX6_stays 24 .goto 32 27 := ⟨8, by decide +kernel, by decide, rfl⟩
theorem eX6_stays_27 : DC mX6_stays 27 (.aload_n 0) 1 28 := ⟨by decide +kernel, rfl⟩
theorem eX6_stays_28 : DC mX6_stays 28 (.iconst 2) 1 29 := ⟨by decide +kernel, rfl⟩
theorem eX6_stays_29 : DC mX6_stays 29 (.invokevirtual 74) 3 32 := ⟨by decide +kernel, rfl⟩
theorem eX6_stays_32 : DC mX6_stays 32 .ireturn 1 33 := ⟨by decide +kernel, rfl⟩
theorem eX6_stay_0 : DC mX6_stay 0 (.aload_n 0) 1 1 := ⟨by decide +kernel, rfl⟩
theorem eX6_stay_1 : DC mX6_stay 1 (.getfield 19) 3 4 := ⟨by decide +kernel, rfl⟩
theorem eX6_stay_4 : DC mX6_stay 4 (.iload_n 1) 1 5 := ⟨by decide +kernel, rfl⟩
theorem eX6_stay_5 : DC mX6_stay 5 (.invokevirtual 131) 3 8 := ⟨by decide +kernel, rfl⟩
theorem eX6_stay_8 : DJ mX6_stay 8 (.ifCond .ne) 17 11 := ⟨9, by decide +kernel, by decide, rfl⟩
theorem eX6_stay_11 : DC mX6_stay 11 (.aload_n 0) 1 12 := ⟨by decide +kernel, rfl⟩
theorem eX6_stay_12 : DC mX6_stay 12 (.iconst 2) 1 13 := ⟨by decide +kernel, rfl⟩
theorem eX6_stay_13 : DC mX6_stay 13 (.invokevirtual 74) 3 16 := ⟨by decide +kernel, rfl⟩
theorem eX6_stay_16 : DC mX6_stay 16 .ireturn 1 17 := ⟨by decide +kernel, rfl⟩
theorem eX6_stay_17 : DC mX6_stay 17 (.iload_n 2) 1 18 := ⟨by decide +kernel, rfl⟩
theorem eX6_stay_18 : DJ mX6_stay 18 (.ifCond .lt) 34 21 := ⟨16, by decide +kernel, by decide, rfl⟩
theorem eX6_stay_21 : DC mX6_stay 21 (.iload_n 2) 1 22 := ⟨by decide +kernel, rfl⟩
theorem eX6_stay_22 : DC mX6_stay 22 (.aload_n 0) 1 23 := ⟨by decide +kernel, rfl⟩
theorem eX6_stay_23 : DC mX6_stay 23 (.getfield 19) 3 26 := ⟨by decide +kernel, rfl⟩
theorem eX6_stay_26 : DC mX6_stay 26 (.getfield 251) 3 29 := ⟨by decide +kernel, rfl⟩
theorem eX6_stay_29 : DC mX6_stay 29 (.iload_n 1) 1 30 := ⟨by decide +kernel, rfl⟩
theorem eX6_stay_30 : DC mX6_stay 30 .iaload 1 31 := ⟨by decide +kernel, rfl⟩
theorem eX6_stay_31 : DJ mX6_stay 31 (.if_icmp .lt) 40 34 := ⟨9, by decide +kernel, by decide, rfl⟩
theorem eX6_stay_34 : DC mX6_stay 34 (.aload_n 0) 1 35 := ⟨by decide +kernel, rfl⟩
theorem eX6_stay_35 : DC mX6_stay 35 (.iconst 3) 1 36 := ⟨by decide +kernel, rfl⟩
theorem eX6_stay_36 : DC mX6_stay 36 (.invokevirtual 74) 3 39 := ⟨by decide +kernel, rfl⟩
theorem eX6_stay_39 : DC mX6_stay 39 .ireturn 1 40 := ⟨by decide +kernel, rfl⟩
theorem eX6_stay_40 : DC mX6_stay 40 (.iload_n 3) 1 41 := ⟨by decide +kernel, rfl⟩
theorem eX6_stay_41 : DC mX6_stay 41 (.tableswitch 69 0 2 #[27, 41, 55]) 27 68 := ⟨by decide +kernel, rfl⟩
theorem eX6_stay_68 : DC mX6_stay 68 (.aload_n 0) 1 69 := ⟨by decide +kernel, rfl⟩
theorem eX6_stay_69 : DC mX6_stay 69 (.aload_n 0) 1 70 := ⟨by decide +kernel, rfl⟩
theorem eX6_stay_70 : DC mX6_stay 70 (.getfield 19) 3 73 := ⟨by decide +kernel, rfl⟩
theorem eX6_stay_73 : DC mX6_stay 73 (.iload_n 1) 1 74 := ⟨by decide +kernel, rfl⟩
theorem eX6_stay_74 : DC mX6_stay 74 (.iload_n 2) 1 75 := ⟨by decide +kernel, rfl⟩
theorem eX6_stay_75 : DC mX6_stay 75 (.invokevirtual 233) 3 78 := ⟨by decide +kernel, rfl⟩
theorem eX6_stay_78 : DC mX6_stay 78 (.invokevirtual 85) 3 81 := ⟨by decide +kernel, rfl⟩
theorem eX6_stay_81 : DC mX6_stay 81 .ireturn 1 82 := ⟨by decide +kernel, rfl⟩
theorem eX6_stay_82 : DC mX6_stay 82 (.aload_n 0) 1 83 := ⟨by decide +kernel, rfl⟩
theorem eX6_stay_83 : DC mX6_stay 83 (.aload_n 0) 1 84 := ⟨by decide +kernel, rfl⟩
theorem eX6_stay_84 : DC mX6_stay 84 (.getfield 19) 3 87 := ⟨by decide +kernel, rfl⟩
theorem eX6_stay_87 : DC mX6_stay 87 (.iload_n 1) 1 88 := ⟨by decide +kernel, rfl⟩
theorem eX6_stay_88 : DC mX6_stay 88 (.iload_n 2) 1 89 := ⟨by decide +kernel, rfl⟩
theorem eX6_stay_89 : DC mX6_stay 89 (.invokevirtual 239) 3 92 := ⟨by decide +kernel, rfl⟩
theorem eX6_stay_92 : DC mX6_stay 92 (.invokevirtual 85) 3 95 := ⟨by decide +kernel, rfl⟩
theorem eX6_stay_95 : DC mX6_stay 95 .ireturn 1 96 := ⟨by decide +kernel, rfl⟩
theorem eX6_stay_96 : DC mX6_stay 96 (.aload_n 0) 1 97 := ⟨by decide +kernel, rfl⟩
theorem eX6_stay_97 : DC mX6_stay 97 (.aload_n 0) 1 98 := ⟨by decide +kernel, rfl⟩
theorem eX6_stay_98 : DC mX6_stay 98 (.getfield 19) 3 101 := ⟨by decide +kernel, rfl⟩
theorem eX6_stay_101 : DC mX6_stay 101 (.iload_n 1) 1 102 := ⟨by decide +kernel, rfl⟩
theorem eX6_stay_102 : DC mX6_stay 102 (.iload_n 2) 1 103 := ⟨by decide +kernel, rfl⟩
theorem eX6_stay_103 : DC mX6_stay 103 (.invokevirtual 242) 3 106 := ⟨by decide +kernel, rfl⟩
theorem eX6_stay_106 : DC mX6_stay 106 (.invokevirtual 85) 3 109 := ⟨by decide +kernel, rfl⟩
theorem eX6_stay_109 : DC mX6_stay 109 .ireturn 1 110 := ⟨by decide +kernel, rfl⟩
theorem eX6_stay_110 : DC mX6_stay 110 (.aload_n 0) 1 111 := ⟨by decide +kernel, rfl⟩
theorem eX6_stay_111 : DC mX6_stay 111 (.iconst 3) 1 112 := ⟨by decide +kernel, rfl⟩
theorem eX6_stay_112 : DC mX6_stay 112 (.invokevirtual 74) 3 115 := ⟨by decide +kernel, rfl⟩
theorem eX6_stay_115 : DC mX6_stay 115 .ireturn 1 116 := ⟨by decide +kernel, rfl⟩
theorem eX6_at_0 : DC mX6_at 0 (.aload_n 0) 1 1 := ⟨by decide +kernel, rfl⟩
theorem eX6_at_1 : DC mX6_at 1 (.getfield 10) 3 4 := ⟨by decide +kernel, rfl⟩
theorem eX6_at_4 : DC mX6_at 4 (.iload_n 1) 1 5 := ⟨by decide +kernel, rfl⟩
theorem eX6_at_5 : DC mX6_at 5 (.invokevirtual 88) 3 8 := ⟨by decide +kernel, rfl⟩
theorem eX6_at_8 : DJ mX6_at 8 (.ifCond .eq) 26 11 := ⟨18, by decide +kernel, by decide, rfl⟩
theorem eX6_at_11 : DC mX6_at 11 (.iload_n 2) 1 12 := ⟨by decide +kernel, rfl⟩
theorem eX6_at_12 : DC mX6_at 12 (.iconst 0) 1 13 := ⟨by decide +kernel, rfl⟩
theorem eX6_at_13 : DC mX6_at 13 (.sipush 2879) 3 16 := ⟨by decide +kernel, rfl⟩
theorem eX6_at_16 : DC mX6_at 16 (.invokestatic 70) 3 19 := ⟨by decide +kernel, rfl⟩
theorem eX6_at_19 : DJ mX6_at 19 (.ifCond .eq) 26 22 := ⟨7, by decide +kernel, by decide, rfl⟩
theorem eX6_at_22 : DC mX6_at 22 (.iload_n 3) 1 23 := ⟨by decide +kernel, rfl⟩
theorem eX6_at_23 : DJ mX6_at 23 (.ifCond .ge) 28 26 := ⟨5, by decide +kernel, by decide, rfl⟩
theorem eX6_at_26 : DC mX6_at 26 (.iconst (-1)) 1 27 := ⟨by decide +kernel, rfl⟩
theorem eX6_at_27 : DC mX6_at 27 .ireturn 1 28 := ⟨by decide +kernel, rfl⟩
theorem eX6_at_28 : DC mX6_at 28 (.iload_n 3) 1 29 := ⟨by decide +kernel, rfl⟩
theorem eX6_at_29 : DC mX6_at 29 (.istore 4) 2 31 := ⟨by decide +kernel, rfl⟩
theorem eX6_at_31 : DC mX6_at 31 (.iconst 0) 1 32 := ⟨by decide +kernel, rfl⟩
theorem eX6_at_32 : DC mX6_at 32 (.istore 5) 2 34 := ⟨by decide +kernel, rfl⟩
theorem eX6_at_34 : DC mX6_at 34 (.iload 5) 2 36 := ⟨by decide +kernel, rfl⟩
theorem eX6_at_36 : DC mX6_at 36 (.aload_n 0) 1 37 := ⟨by decide +kernel, rfl⟩
theorem eX6_at_37 : DC mX6_at 37 (.getfield 19) 3 40 := ⟨by decide +kernel, rfl⟩
theorem eX6_at_40 : DC mX6_at 40 (.getfield 124) 3 43 := ⟨by decide +kernel, rfl⟩
theorem eX6_at_43 : DJ mX6_at 43 (.if_icmp .ge) 80 46 := ⟨37, by decide +kernel, by decide, rfl⟩
theorem eX6_at_46 : DC mX6_at 46 (.aload_n 0) 1 47 := ⟨by decide +kernel, rfl⟩
theorem eX6_at_47 : DC mX6_at 47 (.getfield 19) 3 50 := ⟨by decide +kernel, rfl⟩
theorem eX6_at_50 : DC mX6_at 50 (.iload 5) 2 52 := ⟨by decide +kernel, rfl⟩
theorem eX6_at_52 : DC mX6_at 52 (.iload_n 1) 1 53 := ⟨by decide +kernel, rfl⟩
theorem eX6_at_53 : DC mX6_at 53 (.iload_n 2) 1 54 := ⟨by decide +kernel, rfl⟩
theorem eX6_at_54 : DC mX6_at 54 (.iload_n 2) 1 55 := ⟨by decide +kernel, rfl⟩
theorem eX6_at_55 : DC mX6_at 55 (.iconst 1) 1 56 := ⟨by decide +kernel, rfl⟩
theorem eX6_at_56 : DC mX6_at 56 .iadd 1 57 := ⟨by decide +kernel, rfl⟩
theorem eX6_at_57 : DC mX6_at 57 (.invokevirtual 254) 3 60 := ⟨by decide +kernel, rfl⟩
theorem eX6_at_60 : DJ mX6_at 60 (.ifCond .eq) 74 63 := ⟨14, by decide +kernel, by decide, rfl⟩
theorem eX6_at_63 : DC mX6_at 63 (.iload 4) 2 65 := ⟨by decide +kernel, rfl⟩
theorem eX6_at_65 : DJ mX6_at 65 (.ifCond .ne) 71 68 := ⟨6, by decide +kernel, by decide, rfl⟩
theorem eX6_at_68 : DC mX6_at 68 (.iload 5) 2 70 := ⟨by decide +kernel, rfl⟩
theorem eX6_at_70 : DC mX6_at 70 .ireturn 1 71 := ⟨by decide +kernel, rfl⟩
theorem eX6_at_71 : DC mX6_at 71 (.iinc 4 (-1)) 3 74 := ⟨by decide +kernel, rfl⟩
theorem eX6_at_74 : DC mX6_at 74 (.iinc 5 1) 3 77 := ⟨by decide +kernel, rfl⟩
theorem eX6_at_77 : DJ mX6_at 77 .goto 34 80 := ⟨(-43), by decide +kernel, by decide, rfl⟩
theorem eX6_at_80 : DC mX6_at 80 (.aload_n 0) 1 81 := ⟨by decide +kernel, rfl⟩
theorem eX6_at_81 : DC mX6_at 81 (.getfield 10) 3 84 := ⟨by decide +kernel, rfl⟩
theorem eX6_at_84 : DC mX6_at 84 (.iload_n 1) 1 85 := ⟨by decide +kernel, rfl⟩
theorem eX6_at_85 : DC mX6_at 85 (.iload_n 2) 1 86 := ⟨by decide +kernel, rfl⟩
theorem eX6_at_86 : DC mX6_at 86 (.iload_n 2) 1 87 := ⟨by decide +kernel, rfl⟩
theorem eX6_at_87 : DC mX6_at 87 (.iconst 1) 1 88 := ⟨by decide +kernel, rfl⟩
theorem eX6_at_88 : DC mX6_at 88 .iadd 1 89 := ⟨by decide +kernel, rfl⟩
theorem eX6_at_89 : DC mX6_at 89 (.invokevirtual 257) 3 92 := ⟨by decide +kernel, rfl⟩
theorem eX6_at_92 : DC mX6_at 92 (.iconst (-1)) 1 93 := ⟨by decide +kernel, rfl⟩
theorem eX6_at_93 : DJ mX6_at 93 (.if_icmp .ne) 100 96 := ⟨7, by decide +kernel, by decide, rfl⟩
theorem eX6_at_96 : DC mX6_at 96 (.iconst (-1)) 1 97 := ⟨by decide +kernel, rfl⟩
theorem eX6_at_97 : DJ mX6_at 97 .goto 102 100 := ⟨5, by decide +kernel, by decide, rfl⟩
theorem eX6_at_100 : DC mX6_at 100 (.bipush (-2)) 2 102 := ⟨by decide +kernel, rfl⟩
theorem eX6_at_102 : DC mX6_at 102 .ireturn 1 103 := ⟨by decide +kernel, rfl⟩
theorem eX6_crowd_0 : DC mX6_crowd 0 (.iload_n 1) 1 1 := ⟨by decide +kernel, rfl⟩
theorem eX6_crowd_1 : DC mX6_crowd 1 (.iconst 0) 1 2 := ⟨by decide +kernel, rfl⟩
theorem eX6_crowd_2 : DC mX6_crowd 2 (.sipush 2879) 3 5 := ⟨by decide +kernel, rfl⟩
theorem eX6_crowd_5 : DC mX6_crowd 5 (.invokestatic 70) 3 8 := ⟨by decide +kernel, rfl⟩
theorem eX6_crowd_8 : DJ mX6_crowd 8 (.ifCond .eq) 27 11 := ⟨19, by decide +kernel, by decide, rfl⟩
theorem eX6_crowd_11 : DC mX6_crowd 11 (.iload_n 2) 1 12 := ⟨by decide +kernel, rfl⟩
theorem eX6_crowd_12 : DC mX6_crowd 12 (.bipush 10) 2 14 := ⟨by decide +kernel, rfl⟩
theorem eX6_crowd_14 : DC mX6_crowd 14 (.sipush 200) 3 17 := ⟨by decide +kernel, rfl⟩
theorem eX6_crowd_17 : DC mX6_crowd 17 (.invokestatic 70) 3 20 := ⟨by decide +kernel, rfl⟩
theorem eX6_crowd_20 : DJ mX6_crowd 20 (.ifCond .eq) 27 23 := ⟨7, by decide +kernel, by decide, rfl⟩
theorem eX6_crowd_23 : DC mX6_crowd 23 (.iload_n 3) 1 24 := ⟨by decide +kernel, rfl⟩
theorem eX6_crowd_24 : DJ mX6_crowd 24 (.ifCond .ge) 29 27 := ⟨5, by decide +kernel, by decide, rfl⟩
theorem eX6_crowd_27 : DC mX6_crowd 27 (.iconst (-1)) 1 28 := ⟨by decide +kernel, rfl⟩
theorem eX6_crowd_28 : DC mX6_crowd 28 .ireturn 1 29 := ⟨by decide +kernel, rfl⟩
theorem eX6_crowd_29 : DC mX6_crowd 29 (.aload_n 0) 1 30 := ⟨by decide +kernel, rfl⟩
theorem eX6_crowd_30 : DC mX6_crowd 30 (.getfield 28) 3 33 := ⟨by decide +kernel, rfl⟩
theorem eX6_crowd_33 : DC mX6_crowd 33 (.iload_n 2) 1 34 := ⟨by decide +kernel, rfl⟩
theorem eX6_crowd_34 : DC mX6_crowd 34 (.invokevirtual 260) 3 37 := ⟨by decide +kernel, rfl⟩
theorem eX6_crowd_37 : DC mX6_crowd 37 (.iload_n 3) 1 38 := ⟨by decide +kernel, rfl⟩
theorem eX6_crowd_38 : DC mX6_crowd 38 (.istore 4) 2 40 := ⟨by decide +kernel, rfl⟩
theorem eX6_crowd_40 : DC mX6_crowd 40 (.iconst 0) 1 41 := ⟨by decide +kernel, rfl⟩
theorem eX6_crowd_41 : DC mX6_crowd 41 (.istore 5) 2 43 := ⟨by decide +kernel, rfl⟩
theorem eX6_crowd_43 : DC mX6_crowd 43 (.iload 5) 2 45 := ⟨by decide +kernel, rfl⟩
theorem eX6_crowd_45 : DC mX6_crowd 45 (.aload_n 0) 1 46 := ⟨by decide +kernel, rfl⟩
theorem eX6_crowd_46 : DC mX6_crowd 46 (.getfield 10) 3 49 := ⟨by decide +kernel, rfl⟩
theorem eX6_crowd_49 : DC mX6_crowd 49 (.getfield 78) 3 52 := ⟨by decide +kernel, rfl⟩
theorem eX6_crowd_52 : DJ mX6_crowd 52 (.if_icmp .ge) 88 55 := ⟨36, by decide +kernel, by decide, rfl⟩
theorem eX6_crowd_55 : DC mX6_crowd 55 (.aload_n 0) 1 56 := ⟨by decide +kernel, rfl⟩
theorem eX6_crowd_56 : DC mX6_crowd 56 (.getfield 28) 3 59 := ⟨by decide +kernel, rfl⟩
theorem eX6_crowd_59 : DC mX6_crowd 59 (.iload 5) 2 61 := ⟨by decide +kernel, rfl⟩
theorem eX6_crowd_61 : DC mX6_crowd 61 (.iload_n 1) 1 62 := ⟨by decide +kernel, rfl⟩
theorem eX6_crowd_62 : DC mX6_crowd 62 (.iload_n 1) 1 63 := ⟨by decide +kernel, rfl⟩
theorem eX6_crowd_63 : DC mX6_crowd 63 (.iconst 1) 1 64 := ⟨by decide +kernel, rfl⟩
theorem eX6_crowd_64 : DC mX6_crowd 64 .iadd 1 65 := ⟨by decide +kernel, rfl⟩
theorem eX6_crowd_65 : DC mX6_crowd 65 (.invokevirtual 263) 3 68 := ⟨by decide +kernel, rfl⟩
theorem eX6_crowd_68 : DJ mX6_crowd 68 (.ifCond .ne) 82 71 := ⟨14, by decide +kernel, by decide, rfl⟩
theorem eX6_crowd_71 : DC mX6_crowd 71 (.iload 4) 2 73 := ⟨by decide +kernel, rfl⟩
theorem eX6_crowd_73 : DJ mX6_crowd 73 (.ifCond .ne) 79 76 := ⟨6, by decide +kernel, by decide, rfl⟩
theorem eX6_crowd_76 : DC mX6_crowd 76 (.iload 5) 2 78 := ⟨by decide +kernel, rfl⟩
theorem eX6_crowd_78 : DC mX6_crowd 78 .ireturn 1 79 := ⟨by decide +kernel, rfl⟩
theorem eX6_crowd_79 : DC mX6_crowd 79 (.iinc 4 (-1)) 3 82 := ⟨by decide +kernel, rfl⟩
theorem eX6_crowd_82 : DC mX6_crowd 82 (.iinc 5 1) 3 85 := ⟨by decide +kernel, rfl⟩
theorem eX6_crowd_85 : DJ mX6_crowd 85 .goto 43 88 := ⟨(-42), by decide +kernel, by decide, rfl⟩
theorem eX6_crowd_88 : DC mX6_crowd 88 (.iconst (-1)) 1 89 := ⟨by decide +kernel, rfl⟩
theorem eX6_crowd_89 : DC mX6_crowd 89 .ireturn 1 90 := ⟨by decide +kernel, rfl⟩
theorem eX6_faultOfLooking_0 : DC mX6_faultOfLooking 0 (.aload_n 0) 1 1 := ⟨by decide +kernel, rfl⟩
theorem eX6_faultOfLooking_1 : DC mX6_faultOfLooking 1 (.getfield 10) 3 4 := ⟨by decide +kernel, rfl⟩
theorem eX6_faultOfLooking_4 : DC mX6_faultOfLooking 4 (.iload_n 2) 1 5 := ⟨by decide +kernel, rfl⟩
theorem eX6_faultOfLooking_5 : DC mX6_faultOfLooking 5 (.invokevirtual 88) 3 8 := ⟨by decide +kernel, rfl⟩
theorem eX6_faultOfLooking_8 : DJ mX6_faultOfLooking 8 (.ifCond .ne) 13 11 := ⟨5, by decide +kernel, by decide, rfl⟩
theorem eX6_faultOfLooking_11 : DC mX6_faultOfLooking 11 (.iconst 1) 1 12 := ⟨by decide +kernel, rfl⟩
theorem eX6_faultOfLooking_12 : DC mX6_faultOfLooking 12 .ireturn 1 13 := ⟨by decide +kernel, rfl⟩
theorem eX6_faultOfLooking_13 : DC mX6_faultOfLooking 13 (.aload_n 0) 1 14 := ⟨by decide +kernel, rfl⟩
theorem eX6_faultOfLooking_14 : DC mX6_faultOfLooking 14 (.getfield 19) 3 17 := ⟨by decide +kernel, rfl⟩
theorem eX6_faultOfLooking_17 : DC mX6_faultOfLooking 17 (.iload_n 1) 1 18 := ⟨by decide +kernel, rfl⟩
theorem eX6_faultOfLooking_18 : DC mX6_faultOfLooking 18 (.invokevirtual 131) 3 21 := ⟨by decide +kernel, rfl⟩
theorem eX6_faultOfLooking_21 : DJ mX6_faultOfLooking 21 (.ifCond .ne) 26 24 := ⟨5, by decide +kernel, by decide, rfl⟩
theorem eX6_faultOfLooking_24 : DC mX6_faultOfLooking 24 (.iconst 2) 1 25 := ⟨by decide +kernel, rfl⟩
theorem eX6_faultOfLooking_25 : DC mX6_faultOfLooking 25 .ireturn 1 26 := ⟨by decide +kernel, rfl⟩
theorem eX6_faultOfLooking_26 : DC mX6_faultOfLooking 26 (.aload_n 0) 1 27 := ⟨by decide +kernel, rfl⟩
theorem eX6_faultOfLooking_27 : DC mX6_faultOfLooking 27 (.getfield 19) 3 30 := ⟨by decide +kernel, rfl⟩
theorem eX6_faultOfLooking_30 : DC mX6_faultOfLooking 30 (.iload_n 1) 1 31 := ⟨by decide +kernel, rfl⟩
theorem eX6_faultOfLooking_31 : DC mX6_faultOfLooking 31 (.invokevirtual 266) 3 34 := ⟨by decide +kernel, rfl⟩
theorem eX6_faultOfLooking_34 : DJ mX6_faultOfLooking 34 (.ifCond .eq) 41 37 := ⟨7, by decide +kernel, by decide, rfl⟩
theorem eX6_faultOfLooking_37 : DC mX6_faultOfLooking 37 (.iconst 5) 1 38 := ⟨by decide +kernel, rfl⟩
theorem eX6_faultOfLooking_38 : DJ mX6_faultOfLooking 38 .goto 42 41 := ⟨4, by decide +kernel, by decide, rfl⟩
theorem eX6_faultOfLooking_41 : DC mX6_faultOfLooking 41 (.iconst 0) 1 42 := ⟨by decide +kernel, rfl⟩
theorem eX6_faultOfLooking_42 : DC mX6_faultOfLooking 42 .ireturn 1 43 := ⟨by decide +kernel, rfl⟩
theorem eX6_faultOfPutting_0 : DC mX6_faultOfPutting 0 (.aload_n 0) 1 1 := ⟨by decide +kernel, rfl⟩
theorem eX6_faultOfPutting_1 : DC mX6_faultOfPutting 1 (.iload_n 1) 1 2 := ⟨by decide +kernel, rfl⟩
theorem eX6_faultOfPutting_2 : DC mX6_faultOfPutting 2 (.iload_n 2) 1 3 := ⟨by decide +kernel, rfl⟩
theorem eX6_faultOfPutting_3 : DC mX6_faultOfPutting 3 (.invokevirtual 159) 3 6 := ⟨by decide +kernel, rfl⟩
theorem eX6_faultOfPutting_6 : DC mX6_faultOfPutting 6 (.istore_n 3) 1 7 := ⟨by decide +kernel, rfl⟩
theorem eX6_faultOfPutting_7 : DC mX6_faultOfPutting 7 (.iload_n 3) 1 8 := ⟨by decide +kernel, rfl⟩
theorem eX6_faultOfPutting_8 : DJ mX6_faultOfPutting 8 (.ifCond .eq) 13 11 := ⟨5, by decide +kernel, by decide, rfl⟩
theorem eX6_faultOfPutting_11 : DC mX6_faultOfPutting 11 (.iload_n 3) 1 12 := ⟨by decide +kernel, rfl⟩
theorem eX6_faultOfPutting_12 : DC mX6_faultOfPutting 12 .ireturn 1 13 := ⟨by decide +kernel, rfl⟩
theorem eX6_faultOfPutting_13 : DC mX6_faultOfPutting 13 (.aload_n 0) 1 14 := ⟨by decide +kernel, rfl⟩
theorem eX6_faultOfPutting_14 : DC mX6_faultOfPutting 14 (.getfield 19) 3 17 := ⟨by decide +kernel, rfl⟩
theorem eX6_faultOfPutting_17 : DC mX6_faultOfPutting 17 (.iload_n 1) 1 18 := ⟨by decide +kernel, rfl⟩
theorem eX6_faultOfPutting_18 : DC mX6_faultOfPutting 18 (.invokevirtual 137) 3 21 := ⟨by decide +kernel, rfl⟩
theorem eX6_faultOfPutting_21 : DJ mX6_faultOfPutting 21 (.ifCond .eq) 27 24 := ⟨6, by decide +kernel, by decide, rfl⟩
theorem eX6_faultOfPutting_24 : DC mX6_faultOfPutting 24 (.bipush 6) 2 26 := ⟨by decide +kernel, rfl⟩
theorem eX6_faultOfPutting_26 : DC mX6_faultOfPutting 26 .ireturn 1 27 := ⟨by decide +kernel, rfl⟩
theorem eX6_faultOfPutting_27 : DC mX6_faultOfPutting 27 (.aload_n 0) 1 28 := ⟨by decide +kernel, rfl⟩
theorem eX6_faultOfPutting_28 : DC mX6_faultOfPutting 28 (.getfield 19) 3 31 := ⟨by decide +kernel, rfl⟩
theorem eX6_faultOfPutting_31 : DC mX6_faultOfPutting 31 (.iload_n 1) 1 32 := ⟨by decide +kernel, rfl⟩
theorem eX6_faultOfPutting_32 : DC mX6_faultOfPutting 32 (.invokevirtual 162) 3 35 := ⟨by decide +kernel, rfl⟩
theorem eX6_faultOfPutting_35 : DJ mX6_faultOfPutting 35 (.ifCond .eq) 43 38 := ⟨8, by decide +kernel, by decide, rfl⟩
theorem eX6_faultOfPutting_38 : DC mX6_faultOfPutting 38 (.bipush 7) 2 40 := ⟨by decide +kernel, rfl⟩
theorem eX6_faultOfPutting_40 : DJ mX6_faultOfPutting 40 .goto 44 43 := ⟨4, by decide +kernel, by decide, rfl⟩
theorem eX6_faultOfPutting_43 : DC mX6_faultOfPutting 43 (.iconst 0) 1 44 := ⟨by decide +kernel, rfl⟩
theorem eX6_faultOfPutting_44 : DC mX6_faultOfPutting 44 .ireturn 1 45 := ⟨by decide +kernel, rfl⟩
theorem eX6_faultOfTowing_0 : DC mX6_faultOfTowing 0 (.aload_n 0) 1 1 := ⟨by decide +kernel, rfl⟩
theorem eX6_faultOfTowing_1 : DC mX6_faultOfTowing 1 (.getfield 10) 3 4 := ⟨by decide +kernel, rfl⟩
theorem eX6_faultOfTowing_4 : DC mX6_faultOfTowing 4 (.iload_n 3) 1 5 := ⟨by decide +kernel, rfl⟩
theorem eX6_faultOfTowing_5 : DC mX6_faultOfTowing 5 (.invokevirtual 88) 3 8 := ⟨by decide +kernel, rfl⟩
theorem eX6_faultOfTowing_8 : DJ mX6_faultOfTowing 8 (.ifCond .ne) 13 11 := ⟨5, by decide +kernel, by decide, rfl⟩
theorem eX6_faultOfTowing_11 : DC mX6_faultOfTowing 11 (.iconst 1) 1 12 := ⟨by decide +kernel, rfl⟩
theorem eX6_faultOfTowing_12 : DC mX6_faultOfTowing 12 .ireturn 1 13 := ⟨by decide +kernel, rfl⟩
theorem eX6_faultOfTowing_13 : DC mX6_faultOfTowing 13 (.aload_n 0) 1 14 := ⟨by decide +kernel, rfl⟩
theorem eX6_faultOfTowing_14 : DC mX6_faultOfTowing 14 (.getfield 19) 3 17 := ⟨by decide +kernel, rfl⟩
theorem eX6_faultOfTowing_17 : DC mX6_faultOfTowing 17 (.iload_n 1) 1 18 := ⟨by decide +kernel, rfl⟩
theorem eX6_faultOfTowing_18 : DC mX6_faultOfTowing 18 (.invokevirtual 131) 3 21 := ⟨by decide +kernel, rfl⟩
theorem eX6_faultOfTowing_21 : DJ mX6_faultOfTowing 21 (.ifCond .ne) 26 24 := ⟨5, by decide +kernel, by decide, rfl⟩
theorem eX6_faultOfTowing_24 : DC mX6_faultOfTowing 24 (.iconst 2) 1 25 := ⟨by decide +kernel, rfl⟩
theorem eX6_faultOfTowing_25 : DC mX6_faultOfTowing 25 .ireturn 1 26 := ⟨by decide +kernel, rfl⟩
theorem eX6_faultOfTowing_26 : DC mX6_faultOfTowing 26 (.aload_n 0) 1 27 := ⟨by decide +kernel, rfl⟩
theorem eX6_faultOfTowing_27 : DC mX6_faultOfTowing 27 (.getfield 19) 3 30 := ⟨by decide +kernel, rfl⟩
theorem eX6_faultOfTowing_30 : DC mX6_faultOfTowing 30 (.iload_n 1) 1 31 := ⟨by decide +kernel, rfl⟩
theorem eX6_faultOfTowing_31 : DC mX6_faultOfTowing 31 (.invokevirtual 137) 3 34 := ⟨by decide +kernel, rfl⟩
theorem eX6_faultOfTowing_34 : DJ mX6_faultOfTowing 34 (.ifCond .ne) 40 37 := ⟨6, by decide +kernel, by decide, rfl⟩
theorem eX6_faultOfTowing_37 : DC mX6_faultOfTowing 37 (.bipush 6) 2 39 := ⟨by decide +kernel, rfl⟩
theorem eX6_faultOfTowing_39 : DC mX6_faultOfTowing 39 .ireturn 1 40 := ⟨by decide +kernel, rfl⟩
theorem eX6_faultOfTowing_40 : DC mX6_faultOfTowing 40 (.aload_n 0) 1 41 := ⟨by decide +kernel, rfl⟩
theorem eX6_faultOfTowing_41 : DC mX6_faultOfTowing 41 (.getfield 19) 3 44 := ⟨by decide +kernel, rfl⟩
theorem eX6_faultOfTowing_44 : DC mX6_faultOfTowing 44 (.getfield 251) 3 47 := ⟨by decide +kernel, rfl⟩
theorem eX6_faultOfTowing_47 : DC mX6_faultOfTowing 47 (.iload_n 1) 1 48 := ⟨by decide +kernel, rfl⟩
theorem eX6_faultOfTowing_48 : DC mX6_faultOfTowing 48 .iaload 1 49 := ⟨by decide +kernel, rfl⟩
theorem eX6_faultOfTowing_49 : DC mX6_faultOfTowing 49 (.iconst 1) 1 50 := ⟨by decide +kernel, rfl⟩
theorem eX6_faultOfTowing_50 : DC mX6_faultOfTowing 50 .isub 1 51 := ⟨by decide +kernel, rfl⟩
theorem eX6_faultOfTowing_51 : DC mX6_faultOfTowing 51 (.istore 4) 2 53 := ⟨by decide +kernel, rfl⟩
theorem eX6_faultOfTowing_53 : DC mX6_faultOfTowing 53 (.aload_n 0) 1 54 := ⟨by decide +kernel, rfl⟩
theorem eX6_faultOfTowing_54 : DC mX6_faultOfTowing 54 (.getfield 19) 3 57 := ⟨by decide +kernel, rfl⟩
theorem eX6_faultOfTowing_57 : DC mX6_faultOfTowing 57 (.iload_n 1) 1 58 := ⟨by decide +kernel, rfl⟩
theorem eX6_faultOfTowing_58 : DC mX6_faultOfTowing 58 (.iload 4) 2 60 := ⟨by decide +kernel, rfl⟩
theorem eX6_faultOfTowing_60 : DC mX6_faultOfTowing 60 (.invokevirtual 233) 3 63 := ⟨by decide +kernel, rfl⟩
theorem eX6_faultOfTowing_63 : DC mX6_faultOfTowing 63 (.iload_n 3) 1 64 := ⟨by decide +kernel, rfl⟩
theorem eX6_faultOfTowing_64 : DJ mX6_faultOfTowing 64 (.if_icmp .eq) 81 67 := ⟨17, by decide +kernel, by decide, rfl⟩
theorem eX6_faultOfTowing_67 : DC mX6_faultOfTowing 67 (.aload_n 0) 1 68 := ⟨by decide +kernel, rfl⟩
theorem eX6_faultOfTowing_68 : DC mX6_faultOfTowing 68 (.getfield 19) 3 71 := ⟨by decide +kernel, rfl⟩
theorem eX6_faultOfTowing_71 : DC mX6_faultOfTowing 71 (.iload_n 1) 1 72 := ⟨by decide +kernel, rfl⟩
theorem eX6_faultOfTowing_72 : DC mX6_faultOfTowing 72 (.iload 4) 2 74 := ⟨by decide +kernel, rfl⟩
theorem eX6_faultOfTowing_74 : DC mX6_faultOfTowing 74 (.invokevirtual 239) 3 77 := ⟨by decide +kernel, rfl⟩
theorem eX6_faultOfTowing_77 : DC mX6_faultOfTowing 77 (.iload_n 2) 1 78 := ⟨by decide +kernel, rfl⟩
theorem eX6_faultOfTowing_78 : DJ mX6_faultOfTowing 78 (.if_icmp .lt) 83 81 := ⟨5, by decide +kernel, by decide, rfl⟩
theorem eX6_faultOfTowing_81 : DC mX6_faultOfTowing 81 (.iconst 3) 1 82 := ⟨by decide +kernel, rfl⟩
theorem eX6_faultOfTowing_82 : DC mX6_faultOfTowing 82 .ireturn 1 83 := ⟨by decide +kernel, rfl⟩
theorem eX6_faultOfTowing_83 : DC mX6_faultOfTowing 83 (.iload_n 2) 1 84 := ⟨by decide +kernel, rfl⟩
theorem eX6_faultOfTowing_84 : DC mX6_faultOfTowing 84 (.aload_n 0) 1 85 := ⟨by decide +kernel, rfl⟩
theorem eX6_faultOfTowing_85 : DC mX6_faultOfTowing 85 (.getfield 19) 3 88 := ⟨by decide +kernel, rfl⟩
theorem eX6_faultOfTowing_88 : DC mX6_faultOfTowing 88 (.getfield 224) 3 91 := ⟨by decide +kernel, rfl⟩
theorem eX6_faultOfTowing_91 : DJ mX6_faultOfTowing 91 (.if_icmp .le) 111 94 := ⟨20, by decide +kernel, by decide, rfl⟩
theorem eX6_faultOfTowing_94 : DC mX6_faultOfTowing 94 (.iload_n 2) 1 95 := ⟨by decide +kernel, rfl⟩
theorem eX6_faultOfTowing_95 : DC mX6_faultOfTowing 95 (.aload_n 0) 1 96 := ⟨by decide +kernel, rfl⟩
theorem eX6_faultOfTowing_96 : DC mX6_faultOfTowing 96 (.getfield 19) 3 99 := ⟨by decide +kernel, rfl⟩
theorem eX6_faultOfTowing_99 : DC mX6_faultOfTowing 99 (.iload_n 1) 1 100 := ⟨by decide +kernel, rfl⟩
theorem eX6_faultOfTowing_100 : DC mX6_faultOfTowing 100 (.invokevirtual 149) 3 103 := ⟨by decide +kernel, rfl⟩
theorem eX6_faultOfTowing_103 : DC mX6_faultOfTowing 103 (.aload_n 0) 1 104 := ⟨by decide +kernel, rfl⟩
theorem eX6_faultOfTowing_104 : DC mX6_faultOfTowing 104 (.getfield 57) 3 107 := ⟨by decide +kernel, rfl⟩
theorem eX6_faultOfTowing_107 : DC mX6_faultOfTowing 107 .isub 1 108 := ⟨by decide +kernel, rfl⟩
theorem eX6_faultOfTowing_108 : DJ mX6_faultOfTowing 108 (.if_icmp .lt) 113 111 := ⟨5, by decide +kernel, by decide, rfl⟩
theorem eX6_faultOfTowing_111 : DC mX6_faultOfTowing 111 (.iconst 3) 1 112 := ⟨by decide +kernel, rfl⟩
theorem eX6_faultOfTowing_112 : DC mX6_faultOfTowing 112 .ireturn 1 113 := ⟨by decide +kernel, rfl⟩
theorem eX6_faultOfTowing_113 : DC mX6_faultOfTowing 113 (.aload_n 0) 1 114 := ⟨by decide +kernel, rfl⟩
theorem eX6_faultOfTowing_114 : DC mX6_faultOfTowing 114 (.getfield 19) 3 117 := ⟨by decide +kernel, rfl⟩
theorem eX6_faultOfTowing_117 : DC mX6_faultOfTowing 117 (.getfield 251) 3 120 := ⟨by decide +kernel, rfl⟩
theorem eX6_faultOfTowing_120 : DC mX6_faultOfTowing 120 (.iload_n 1) 1 121 := ⟨by decide +kernel, rfl⟩
theorem eX6_faultOfTowing_121 : DC mX6_faultOfTowing 121 .iaload 1 122 := ⟨by decide +kernel, rfl⟩
theorem eX6_faultOfTowing_122 : DC mX6_faultOfTowing 122 (.bipush 8) 2 124 := ⟨by decide +kernel, rfl⟩
theorem eX6_faultOfTowing_124 : DJ mX6_faultOfTowing 124 (.if_icmp .lt) 131 127 := ⟨7, by decide +kernel, by decide, rfl⟩
theorem eX6_faultOfTowing_127 : DC mX6_faultOfTowing 127 (.iconst 4) 1 128 := ⟨by decide +kernel, rfl⟩
theorem eX6_faultOfTowing_128 : DJ mX6_faultOfTowing 128 .goto 132 131 := ⟨4, by decide +kernel, by decide, rfl⟩
theorem eX6_faultOfTowing_131 : DC mX6_faultOfTowing 131 (.iconst 0) 1 132 := ⟨by decide +kernel, rfl⟩
theorem eX6_faultOfTowing_132 : DC mX6_faultOfTowing 132 .ireturn 1 133 := ⟨by decide +kernel, rfl⟩
theorem eX6_faultOfSwapping_0 : DC mX6_faultOfSwapping 0 (.aload_n 0) 1 1 := ⟨by decide +kernel, rfl⟩
theorem eX6_faultOfSwapping_1 : DC mX6_faultOfSwapping 1 (.getfield 19) 3 4 := ⟨by decide +kernel, rfl⟩
theorem eX6_faultOfSwapping_4 : DC mX6_faultOfSwapping 4 (.iload_n 1) 1 5 := ⟨by decide +kernel, rfl⟩
theorem eX6_faultOfSwapping_5 : DC mX6_faultOfSwapping 5 (.invokevirtual 131) 3 8 := ⟨by decide +kernel, rfl⟩
theorem eX6_faultOfSwapping_8 : DJ mX6_faultOfSwapping 8 (.ifCond .eq) 27 11 := ⟨19, by decide +kernel, by decide, rfl⟩
theorem eX6_faultOfSwapping_11 : DC mX6_faultOfSwapping 11 (.aload_n 0) 1 12 := ⟨by decide +kernel, rfl⟩
theorem eX6_faultOfSwapping_12 : DC mX6_faultOfSwapping 12 (.getfield 19) 3 15 := ⟨by decide +kernel, rfl⟩
theorem eX6_faultOfSwapping_15 : DC mX6_faultOfSwapping 15 (.iload_n 2) 1 16 := ⟨by decide +kernel, rfl⟩
theorem eX6_faultOfSwapping_16 : DC mX6_faultOfSwapping 16 (.invokevirtual 131) 3 19 := ⟨by decide +kernel, rfl⟩
theorem eX6_faultOfSwapping_19 : DJ mX6_faultOfSwapping 19 (.ifCond .eq) 27 22 := ⟨8, by decide +kernel, by decide, rfl⟩
theorem eX6_faultOfSwapping_22 : DC mX6_faultOfSwapping 22 (.iload_n 1) 1 23 := ⟨by decide +kernel, rfl⟩
theorem eX6_faultOfSwapping_23 : DC mX6_faultOfSwapping 23 (.iload_n 2) 1 24 := ⟨by decide +kernel, rfl⟩
theorem eX6_faultOfSwapping_24 : DJ mX6_faultOfSwapping 24 (.if_icmp .ne) 29 27 := ⟨5, by decide +kernel, by decide, rfl⟩
theorem eX6_faultOfSwapping_27 : DC mX6_faultOfSwapping 27 (.iconst 2) 1 28 := ⟨by decide +kernel, rfl⟩
theorem eX6_faultOfSwapping_28 : DC mX6_faultOfSwapping 28 .ireturn 1 29 := ⟨by decide +kernel, rfl⟩
theorem eX6_faultOfSwapping_29 : DC mX6_faultOfSwapping 29 (.aload_n 0) 1 30 := ⟨by decide +kernel, rfl⟩
theorem eX6_faultOfSwapping_30 : DC mX6_faultOfSwapping 30 (.getfield 19) 3 33 := ⟨by decide +kernel, rfl⟩
theorem eX6_faultOfSwapping_33 : DC mX6_faultOfSwapping 33 (.iload_n 1) 1 34 := ⟨by decide +kernel, rfl⟩
theorem eX6_faultOfSwapping_34 : DC mX6_faultOfSwapping 34 (.invokevirtual 266) 3 37 := ⟨by decide +kernel, rfl⟩
theorem eX6_faultOfSwapping_37 : DJ mX6_faultOfSwapping 37 (.ifCond .ne) 51 40 := ⟨14, by decide +kernel, by decide, rfl⟩
theorem eX6_faultOfSwapping_40 : DC mX6_faultOfSwapping 40 (.aload_n 0) 1 41 := ⟨by decide +kernel, rfl⟩
theorem eX6_faultOfSwapping_41 : DC mX6_faultOfSwapping 41 (.getfield 19) 3 44 := ⟨by decide +kernel, rfl⟩
theorem eX6_faultOfSwapping_44 : DC mX6_faultOfSwapping 44 (.iload_n 2) 1 45 := ⟨by decide +kernel, rfl⟩
theorem eX6_faultOfSwapping_45 : DC mX6_faultOfSwapping 45 (.invokevirtual 266) 3 48 := ⟨by decide +kernel, rfl⟩
theorem eX6_faultOfSwapping_48 : DJ mX6_faultOfSwapping 48 (.ifCond .eq) 53 51 := ⟨5, by decide +kernel, by decide, rfl⟩
theorem eX6_faultOfSwapping_51 : DC mX6_faultOfSwapping 51 (.iconst 5) 1 52 := ⟨by decide +kernel, rfl⟩
theorem eX6_faultOfSwapping_52 : DC mX6_faultOfSwapping 52 .ireturn 1 53 := ⟨by decide +kernel, rfl⟩
theorem eX6_faultOfSwapping_53 : DC mX6_faultOfSwapping 53 (.aload_n 0) 1 54 := ⟨by decide +kernel, rfl⟩
theorem eX6_faultOfSwapping_54 : DC mX6_faultOfSwapping 54 (.getfield 19) 3 57 := ⟨by decide +kernel, rfl⟩
theorem eX6_faultOfSwapping_57 : DC mX6_faultOfSwapping 57 (.getfield 251) 3 60 := ⟨by decide +kernel, rfl⟩
theorem eX6_faultOfSwapping_60 : DC mX6_faultOfSwapping 60 (.iload_n 1) 1 61 := ⟨by decide +kernel, rfl⟩
theorem eX6_faultOfSwapping_61 : DC mX6_faultOfSwapping 61 .iaload 1 62 := ⟨by decide +kernel, rfl⟩
theorem eX6_faultOfSwapping_62 : DC mX6_faultOfSwapping 62 (.iconst 1) 1 63 := ⟨by decide +kernel, rfl⟩
theorem eX6_faultOfSwapping_63 : DJ mX6_faultOfSwapping 63 (.if_icmp .ne) 79 66 := ⟨16, by decide +kernel, by decide, rfl⟩
theorem eX6_faultOfSwapping_66 : DC mX6_faultOfSwapping 66 (.aload_n 0) 1 67 := ⟨by decide +kernel, rfl⟩
theorem eX6_faultOfSwapping_67 : DC mX6_faultOfSwapping 67 (.getfield 19) 3 70 := ⟨by decide +kernel, rfl⟩
theorem eX6_faultOfSwapping_70 : DC mX6_faultOfSwapping 70 (.getfield 251) 3 73 := ⟨by decide +kernel, rfl⟩
theorem eX6_faultOfSwapping_73 : DC mX6_faultOfSwapping 73 (.iload_n 2) 1 74 := ⟨by decide +kernel, rfl⟩
theorem eX6_faultOfSwapping_74 : DC mX6_faultOfSwapping 74 .iaload 1 75 := ⟨by decide +kernel, rfl⟩
theorem eX6_faultOfSwapping_75 : DC mX6_faultOfSwapping 75 (.iconst 1) 1 76 := ⟨by decide +kernel, rfl⟩
theorem eX6_faultOfSwapping_76 : DJ mX6_faultOfSwapping 76 (.if_icmp .eq) 82 79 := ⟨6, by decide +kernel, by decide, rfl⟩
theorem eX6_faultOfSwapping_79 : DC mX6_faultOfSwapping 79 (.bipush 6) 2 81 := ⟨by decide +kernel, rfl⟩
theorem eX6_faultOfSwapping_81 : DC mX6_faultOfSwapping 81 .ireturn 1 82 := ⟨by decide +kernel, rfl⟩
theorem eX6_faultOfSwapping_82 : DC mX6_faultOfSwapping 82 (.aload_n 0) 1 83 := ⟨by decide +kernel, rfl⟩
theorem eX6_faultOfSwapping_83 : DC mX6_faultOfSwapping 83 (.getfield 19) 3 86 := ⟨by decide +kernel, rfl⟩
theorem eX6_faultOfSwapping_86 : DC mX6_faultOfSwapping 86 (.iload_n 1) 1 87 := ⟨by decide +kernel, rfl⟩
theorem eX6_faultOfSwapping_87 : DC mX6_faultOfSwapping 87 (.invokevirtual 162) 3 90 := ⟨by decide +kernel, rfl⟩
theorem eX6_faultOfSwapping_90 : DJ mX6_faultOfSwapping 90 (.ifCond .ne) 104 93 := ⟨14, by decide +kernel, by decide, rfl⟩
theorem eX6_faultOfSwapping_93 : DC mX6_faultOfSwapping 93 (.aload_n 0) 1 94 := ⟨by decide +kernel, rfl⟩
theorem eX6_faultOfSwapping_94 : DC mX6_faultOfSwapping 94 (.getfield 19) 3 97 := ⟨by decide +kernel, rfl⟩
theorem eX6_faultOfSwapping_97 : DC mX6_faultOfSwapping 97 (.iload_n 2) 1 98 := ⟨by decide +kernel, rfl⟩
theorem eX6_faultOfSwapping_98 : DC mX6_faultOfSwapping 98 (.invokevirtual 162) 3 101 := ⟨by decide +kernel, rfl⟩
theorem eX6_faultOfSwapping_101 : DJ mX6_faultOfSwapping 101 (.ifCond .eq) 109 104 := ⟨8, by decide +kernel, by decide, rfl⟩
theorem eX6_faultOfSwapping_104 : DC mX6_faultOfSwapping 104 (.bipush 7) 2 106 := ⟨by decide +kernel, rfl⟩
theorem eX6_faultOfSwapping_106 : DJ mX6_faultOfSwapping 106 .goto 110 109 := ⟨4, by decide +kernel, by decide, rfl⟩
theorem eX6_faultOfSwapping_109 : DC mX6_faultOfSwapping 109 (.iconst 0) 1 110 := ⟨by decide +kernel, rfl⟩
theorem eX6_faultOfSwapping_110 : DC mX6_faultOfSwapping 110 .ireturn 1 111 := ⟨by decide +kernel, rfl⟩
theorem eX6_serveLine_0 : DC mX6_serveLine 0 (.iconst 0) 1 1 := ⟨by decide +kernel, rfl⟩
theorem eX6_serveLine_1 : DC mX6_serveLine 1 (.istore_n 1) 1 2 := ⟨by decide +kernel, rfl⟩
theorem eX6_serveLine_2 : DC mX6_serveLine 2 (.iconst 0) 1 3 := ⟨by decide +kernel, rfl⟩
theorem eX6_serveLine_3 : DC mX6_serveLine 3 (.istore_n 2) 1 4 := ⟨by decide +kernel, rfl⟩
theorem eX6_serveLine_4 : DC mX6_serveLine 4 (.iload_n 2) 1 5 := ⟨by decide +kernel, rfl⟩
theorem eX6_serveLine_5 : DC mX6_serveLine 5 (.aload_n 0) 1 6 := ⟨by decide +kernel, rfl⟩
theorem eX6_serveLine_6 : DC mX6_serveLine 6 (.getfield 53) 3 9 := ⟨by decide +kernel, rfl⟩
theorem eX6_serveLine_9 : DC mX6_serveLine 9 (.getfield 190) 3 12 := ⟨by decide +kernel, rfl⟩
theorem eX6_serveLine_12 : DJ mX6_serveLine 12 (.if_icmp .ge) 77 15 := ⟨65, by decide +kernel, by decide, rfl⟩
theorem eX6_serveLine_15 : DC mX6_serveLine 15 (.aload_n 0) 1 16 := ⟨by decide +kernel, rfl⟩
theorem eX6_serveLine_16 : DC mX6_serveLine 16 (.getfield 53) 3 19 := ⟨by decide +kernel, rfl⟩
theorem eX6_serveLine_19 : DC mX6_serveLine 19 (.getfield 269) 3 22 := ⟨by decide +kernel, rfl⟩
theorem eX6_serveLine_22 : DC mX6_serveLine 22 (.iload_n 2) 1 23 := ⟨by decide +kernel, rfl⟩
theorem eX6_serveLine_23 : DC mX6_serveLine 23 .iaload 1 24 := ⟨by decide +kernel, rfl⟩
theorem eX6_serveLine_24 : DC mX6_serveLine 24 (.istore_n 3) 1 25 := ⟨by decide +kernel, rfl⟩
theorem eX6_serveLine_25 : DC mX6_serveLine 25 (.aload_n 0) 1 26 := ⟨by decide +kernel, rfl⟩
theorem eX6_serveLine_26 : DC mX6_serveLine 26 (.getfield 19) 3 29 := ⟨by decide +kernel, rfl⟩
theorem eX6_serveLine_29 : DC mX6_serveLine 29 (.iload_n 3) 1 30 := ⟨by decide +kernel, rfl⟩
theorem eX6_serveLine_30 : DC mX6_serveLine 30 (.invokevirtual 146) 3 33 := ⟨by decide +kernel, rfl⟩
theorem eX6_serveLine_33 : DC mX6_serveLine 33 (.aload_n 0) 1 34 := ⟨by decide +kernel, rfl⟩
theorem eX6_serveLine_34 : DC mX6_serveLine 34 (.getfield 19) 3 37 := ⟨by decide +kernel, rfl⟩
theorem eX6_serveLine_37 : DC mX6_serveLine 37 (.getfield 224) 3 40 := ⟨by decide +kernel, rfl⟩
theorem eX6_serveLine_40 : DC mX6_serveLine 40 (.invokestatic 272) 3 43 := ⟨by decide +kernel, rfl⟩
theorem eX6_serveLine_43 : DC mX6_serveLine 43 (.istore 4) 2 45 := ⟨by decide +kernel, rfl⟩
theorem eX6_serveLine_45 : DC mX6_serveLine 45 (.aload_n 0) 1 46 := ⟨by decide +kernel, rfl⟩
theorem eX6_serveLine_46 : DC mX6_serveLine 46 (.getfield 19) 3 49 := ⟨by decide +kernel, rfl⟩
theorem eX6_serveLine_49 : DC mX6_serveLine 49 (.iload_n 3) 1 50 := ⟨by decide +kernel, rfl⟩
theorem eX6_serveLine_50 : DC mX6_serveLine 50 (.aload_n 0) 1 51 := ⟨by decide +kernel, rfl⟩
theorem eX6_serveLine_51 : DC mX6_serveLine 51 (.getfield 28) 3 54 := ⟨by decide +kernel, rfl⟩
theorem eX6_serveLine_54 : DC mX6_serveLine 54 (.iload_n 3) 1 55 := ⟨by decide +kernel, rfl⟩
theorem eX6_serveLine_55 : DC mX6_serveLine 55 (.iload 4) 2 57 := ⟨by decide +kernel, rfl⟩
theorem eX6_serveLine_57 : DC mX6_serveLine 57 (.invokevirtual 277) 3 60 := ⟨by decide +kernel, rfl⟩
theorem eX6_serveLine_60 : DC mX6_serveLine 60 (.iload 4) 2 62 := ⟨by decide +kernel, rfl⟩
theorem eX6_serveLine_62 : DC mX6_serveLine 62 (.invokevirtual 156) 3 65 := ⟨by decide +kernel, rfl⟩
theorem eX6_serveLine_65 : DJ mX6_serveLine 65 (.ifCond .eq) 71 68 := ⟨6, by decide +kernel, by decide, rfl⟩
theorem eX6_serveLine_68 : DC mX6_serveLine 68 (.iinc 1 1) 3 71 := ⟨by decide +kernel, rfl⟩
theorem eX6_serveLine_71 : DC mX6_serveLine 71 (.iinc 2 1) 3 74 := ⟨by decide +kernel, rfl⟩
theorem eX6_serveLine_74 : DJ mX6_serveLine 74 .goto 4 77 := ⟨(-70), by decide +kernel, by decide, rfl⟩
theorem eX6_serveLine_77 : DC mX6_serveLine 77 (.iload_n 1) 1 78 := ⟨by decide +kernel, rfl⟩
theorem eX6_serveLine_78 : DC mX6_serveLine 78 .ireturn 1 79 := ⟨by decide +kernel, rfl⟩
theorem eX6_isHindered_0 : DC mX6_isHindered 0 (.aload_n 0) 1 1 := ⟨by decide +kernel, rfl⟩
theorem eX6_isHindered_1 : DC mX6_isHindered 1 (.getfield 28) 3 4 := ⟨by decide +kernel, rfl⟩
theorem eX6_isHindered_4 : DC mX6_isHindered 4 (.iload_n 1) 1 5 := ⟨by decide +kernel, rfl⟩
theorem eX6_isHindered_5 : DC mX6_isHindered 5 (.invokevirtual 280) 3 8 := ⟨by decide +kernel, rfl⟩
theorem eX6_isHindered_8 : DC mX6_isHindered 8 (.aload_n 0) 1 9 := ⟨by decide +kernel, rfl⟩
theorem eX6_isHindered_9 : DC mX6_isHindered 9 (.getfield 28) 3 12 := ⟨by decide +kernel, rfl⟩
theorem eX6_isHindered_12 : DC mX6_isHindered 12 (.iload_n 2) 1 13 := ⟨by decide +kernel, rfl⟩
theorem eX6_isHindered_13 : DC mX6_isHindered 13 (.iload_n 3) 1 14 := ⟨by decide +kernel, rfl⟩
theorem eX6_isHindered_14 : DC mX6_isHindered 14 (.iload 4) 2 16 := ⟨by decide +kernel, rfl⟩
theorem eX6_isHindered_16 : DC mX6_isHindered 16 (.invokevirtual 263) 3 19 := ⟨by decide +kernel, rfl⟩
theorem eX6_isHindered_19 : DC mX6_isHindered 19 (.istore 5) 2 21 := ⟨by decide +kernel, rfl⟩
theorem eX6_isHindered_21 : DC mX6_isHindered 21 (.iload 5) 2 23 := ⟨by decide +kernel, rfl⟩
theorem eX6_isHindered_23 : DJ mX6_isHindered 23 (.ifCond .ne) 28 26 := ⟨5, by decide +kernel, by decide, rfl⟩
theorem eX6_isHindered_26 : DC mX6_isHindered 26 (.iconst 0) 1 27 := ⟨by decide +kernel, rfl⟩
theorem eX6_isHindered_27 : DC mX6_isHindered 27 .ireturn 1 28 := ⟨by decide +kernel, rfl⟩
theorem eX6_isHindered_28 : DC mX6_isHindered 28 (.aload_n 0) 1 29 := ⟨by decide +kernel, rfl⟩
theorem eX6_isHindered_29 : DC mX6_isHindered 29 (.iload 5) 2 31 := ⟨by decide +kernel, rfl⟩
theorem eX6_isHindered_31 : DC mX6_isHindered 31 (.invokevirtual 212) 3 34 := ⟨by decide +kernel, rfl⟩
theorem eX6_isHindered_34 : DC mX6_isHindered 34 (.iconst 1) 1 35 := ⟨by decide +kernel, rfl⟩
theorem eX6_isHindered_35 : DC mX6_isHindered 35 .ireturn 1 36 := ⟨by decide +kernel, rfl⟩
theorem eX6_keepReason_0 : DC mX6_keepReason 0 (.aload_n 0) 1 1 := ⟨by decide +kernel, rfl⟩
theorem eX6_keepReason_1 : DC mX6_keepReason 1 (.iload_n 1) 1 2 := ⟨by decide +kernel, rfl⟩
theorem eX6_keepReason_2 : DC mX6_keepReason 2 (.putfield 64) 3 5 := ⟨by decide +kernel, rfl⟩
theorem eX6_keepReason_5 : DC mX6_keepReason 5 (.aload_n 0) 1 6 := ⟨by decide +kernel, rfl⟩
theorem eX6_keepReason_6 : DC mX6_keepReason 6 (.aload_n 0) 1 7 := ⟨by decide +kernel, rfl⟩
theorem eX6_keepReason_7 : DC mX6_keepReason 7 (.getfield 28) 3 10 := ⟨by decide +kernel, rfl⟩
theorem eX6_keepReason_10 : DC mX6_keepReason 10 (.getfield 283) 3 13 := ⟨by decide +kernel, rfl⟩
theorem eX6_keepReason_13 : DC mX6_keepReason 13 (.putfield 67) 3 16 := ⟨by decide +kernel, rfl⟩
theorem eX6_keepReason_16 : DC mX6_keepReason 16 .return_ 1 17 := ⟨by decide +kernel, rfl⟩
theorem eX6_grant_0 : DC mX6_grant 0 (.aload_n 0) 1 1 := ⟨by decide +kernel, rfl⟩
theorem eX6_grant_1 : DC mX6_grant 1 (.iconst 0) 1 2 := ⟨by decide +kernel, rfl⟩
theorem eX6_grant_2 : DC mX6_grant 2 (.putfield 61) 3 5 := ⟨by decide +kernel, rfl⟩
theorem eX6_grant_5 : DC mX6_grant 5 (.iload_n 1) 1 6 := ⟨by decide +kernel, rfl⟩
theorem eX6_grant_6 : DC mX6_grant 6 .ireturn 1 7 := ⟨by decide +kernel, rfl⟩
theorem eX6_allow_0 : DC mX6_allow 0 (.aload_n 0) 1 1 := ⟨by decide +kernel, rfl⟩
theorem eX6_allow_1 : DC mX6_allow 1 (.iconst 0) 1 2 := ⟨by decide +kernel, rfl⟩
theorem eX6_allow_2 : DC mX6_allow 2 (.putfield 61) 3 5 := ⟨by decide +kernel, rfl⟩
theorem eX6_allow_5 : DC mX6_allow 5 (.iconst 1) 1 6 := ⟨by decide +kernel, rfl⟩
theorem eX6_allow_6 : DC mX6_allow 6 .ireturn 1 7 := ⟨by decide +kernel, rfl⟩
theorem eX6_refuse_0 : DC mX6_refuse 0 (.aload_n 0) 1 1 := ⟨by decide +kernel, rfl⟩
theorem eX6_refuse_1 : DC mX6_refuse 1 (.iload_n 1) 1 2 := ⟨by decide +kernel, rfl⟩
theorem eX6_refuse_2 : DC mX6_refuse 2 (.putfield 61) 3 5 := ⟨by decide +kernel, rfl⟩
theorem eX6_refuse_5 : DC mX6_refuse 5 (.iconst (-1)) 1 6 := ⟨by decide +kernel, rfl⟩
theorem eX6_refuse_6 : DC mX6_refuse 6 .ireturn 1 7 := ⟨by decide +kernel, rfl⟩
theorem eX6_deny_0 : DC mX6_deny 0 (.aload_n 0) 1 1 := ⟨by decide +kernel, rfl⟩
theorem eX6_deny_1 : DC mX6_deny 1 (.iload_n 1) 1 2 := ⟨by decide +kernel, rfl⟩
theorem eX6_deny_2 : DC mX6_deny 2 (.putfield 61) 3 5 := ⟨by decide +kernel, rfl⟩
theorem eX6_deny_5 : DC mX6_deny 5 (.iconst 0) 1 6 := ⟨by decide +kernel, rfl⟩
theorem eX6_deny_6 : DC mX6_deny 6 .ireturn 1 7 := ⟨by decide +kernel, rfl⟩
theorem eX6_isWithin_0 : DC mX6_isWithin 0 (.iload_n 0) 1 1 := ⟨by decide +kernel, rfl⟩
theorem eX6_isWithin_1 : DC mX6_isWithin 1 (.iload_n 1) 1 2 := ⟨by decide +kernel, rfl⟩
theorem eX6_isWithin_2 : DJ mX6_isWithin 2 (.if_icmp .lt) 14 5 := ⟨12, by decide +kernel, by decide, rfl⟩
theorem eX6_isWithin_5 : DC mX6_isWithin 5 (.iload_n 0) 1 6 := ⟨by decide +kernel, rfl⟩
theorem eX6_isWithin_6 : DC mX6_isWithin 6 (.iload_n 2) 1 7 := ⟨by decide +kernel, rfl⟩
theorem eX6_isWithin_7 : DJ mX6_isWithin 7 (.if_icmp .gt) 14 10 := ⟨7, by decide +kernel, by decide, rfl⟩
theorem eX6_isWithin_10 : DC mX6_isWithin 10 (.iconst 1) 1 11 := ⟨by decide +kernel, rfl⟩
theorem eX6_isWithin_11 : DJ mX6_isWithin 11 .goto 15 14 := ⟨4, by decide +kernel, by decide, rfl⟩
theorem eX6_isWithin_14 : DC mX6_isWithin 14 (.iconst 0) 1 15 := ⟨by decide +kernel, rfl⟩
theorem eX6_isWithin_15 : DC mX6_isWithin 15 .ireturn 1 16 := ⟨by decide +kernel, rfl⟩
theorem eX6_isSpan_0 : DC mX6_isSpan 0 (.iload_n 0) 1 1 := ⟨by decide +kernel, rfl⟩
theorem eX6_isSpan_1 : DJ mX6_isSpan 1 (.ifCond .lt) 20 4 := ⟨19, by decide +kernel, by decide, rfl⟩
theorem eX6_isSpan_4 : DC mX6_isSpan 4 (.iload_n 0) 1 5 := ⟨by decide +kernel, rfl⟩
theorem eX6_isSpan_5 : DC mX6_isSpan 5 (.iload_n 1) 1 6 := ⟨by decide +kernel, rfl⟩
theorem eX6_isSpan_6 : DJ mX6_isSpan 6 (.if_icmp .ge) 20 9 := ⟨14, by decide +kernel, by decide, rfl⟩
theorem eX6_isSpan_9 : DC mX6_isSpan 9 (.iload_n 1) 1 10 := ⟨by decide +kernel, rfl⟩
theorem eX6_isSpan_10 : DC mX6_isSpan 10 (.sipush 2880) 3 13 := ⟨by decide +kernel, rfl⟩
theorem eX6_isSpan_13 : DJ mX6_isSpan 13 (.if_icmp .gt) 20 16 := ⟨7, by decide +kernel, by decide, rfl⟩
theorem eX6_isSpan_16 : DC mX6_isSpan 16 (.iconst 1) 1 17 := ⟨by decide +kernel, rfl⟩
theorem eX6_isSpan_17 : DJ mX6_isSpan 17 .goto 21 20 := ⟨4, by decide +kernel, by decide, rfl⟩
theorem eX6_isSpan_20 : DC mX6_isSpan 20 (.iconst 0) 1 21 := ⟨by decide +kernel, rfl⟩
theorem eX6_isSpan_21 : DC mX6_isSpan 21 .ireturn 1 22 := ⟨by decide +kernel, rfl⟩
theorem eX6_haveCommonMinute_0 : DC mX6_haveCommonMinute 0 (.iload_n 0) 1 1 := ⟨by decide +kernel, rfl⟩
theorem eX6_haveCommonMinute_1 : DC mX6_haveCommonMinute 1 (.iload_n 3) 1 2 := ⟨by decide +kernel, rfl⟩
theorem eX6_haveCommonMinute_2 : DJ mX6_haveCommonMinute 2 (.if_icmp .ge) 14 5 := ⟨12, by decide +kernel, by decide, rfl⟩
theorem eX6_haveCommonMinute_5 : DC mX6_haveCommonMinute 5 (.iload_n 2) 1 6 := ⟨by decide +kernel, rfl⟩
theorem eX6_haveCommonMinute_6 : DC mX6_haveCommonMinute 6 (.iload_n 1) 1 7 := ⟨by decide +kernel, rfl⟩
theorem eX6_haveCommonMinute_7 : DJ mX6_haveCommonMinute 7 (.if_icmp .ge) 14 10 := ⟨7, by decide +kernel, by decide, rfl⟩
theorem eX6_haveCommonMinute_10 : DC mX6_haveCommonMinute 10 (.iconst 1) 1 11 := ⟨by decide +kernel, rfl⟩
theorem eX6_haveCommonMinute_11 : DJ mX6_haveCommonMinute 11 .goto 15 14 := ⟨4, by decide +kernel, by decide, rfl⟩
theorem eX6_haveCommonMinute_14 : DC mX6_haveCommonMinute 14 (.iconst 0) 1 15 := ⟨by decide +kernel, rfl⟩
theorem eX6_haveCommonMinute_15 : DC mX6_haveCommonMinute 15 .ireturn 1 16 := ⟨by decide +kernel, rfl⟩
end
section
theorem eX7_status_0 : DC mX7_status 0 (.aload_n 0) 1 1 := ⟨by decide +kernel, rfl⟩
theorem eX7_status_1 : DC mX7_status 1 (.getfield 80) 3 4 := ⟨by decide +kernel, rfl⟩
theorem eX7_status_4 : DC mX7_status 4 .ireturn 1 5 := ⟨by decide +kernel, rfl⟩
theorem eX7_reason_0 : DC mX7_reason 0 (.iload_n 1) 1 1 := ⟨by decide +kernel, rfl⟩
theorem eX7_reason_1 : DJ mX7_reason 1 (.ifCond .ne) 11 4 := ⟨10, by decide +kernel, by decide, rfl⟩
theorem eX7_reason_4 : DC mX7_reason 4 (.aload_n 0) 1 5 := ⟨by decide +kernel, rfl⟩
theorem eX7_reason_5 : DC mX7_reason 5 (.getfield 83) 3 8 := ⟨by decide +kernel, rfl⟩
theorem eX7_reason_8 : DJ mX7_reason 8 .goto 24 11 := ⟨16, by decide +kernel, by decide, rfl⟩
theorem eX7_reason_11 : DC mX7_reason 11 (.iload_n 1) 1 12 := ⟨by decide +kernel, rfl⟩
theorem eX7_reason_12 : DC mX7_reason 12 (.iconst 1) 1 13 := ⟨by decide +kernel, rfl⟩
theorem eX7_reason_13 : DJ mX7_reason 13 (.if_icmp .ne) 23 16 := ⟨10, by decide +kernel, by decide, rfl⟩
theorem eX7_reason_16 : DC mX7_reason 16 (.aload_n 0) 1 17 := ⟨by decide +kernel, rfl⟩
theorem eX7_reason_17 : DC mX7_reason 17 (.getfield 9) 3 20 := ⟨by decide +kernel, rfl⟩
theorem eX7_reason_20 : DJ mX7_reason 20 .goto 24 23 := ⟨4, by decide +kernel, by decide, rfl⟩
theorem eX7_reason_23 : DC mX7_reason 23 (.iconst (-1)) 1 24 := ⟨by decide +kernel, rfl⟩
theorem eX7_reason_24 : DC mX7_reason 24 .ireturn 1 25 := ⟨by decide +kernel, rfl⟩
theorem eX7_refuse_0 : DC mX7_refuse 0 (.aload_n 0) 1 1 := ⟨by decide +kernel, rfl⟩
theorem eX7_refuse_1 : DC mX7_refuse 1 (.iload_n 1) 1 2 := ⟨by decide +kernel, rfl⟩
theorem eX7_refuse_2 : DC mX7_refuse 2 (.putfield 80) 3 5 := ⟨by decide +kernel, rfl⟩
theorem eX7_refuse_5 : DC mX7_refuse 5 (.iconst (-1)) 1 6 := ⟨by decide +kernel, rfl⟩
theorem eX7_refuse_6 : DC mX7_refuse 6 .ireturn 1 7 := ⟨by decide +kernel, rfl⟩
theorem eX7_gives_0 : DC mX7_gives 0 (.aload_n 0) 1 1 := ⟨by decide +kernel, rfl⟩
theorem eX7_gives_1 : DC mX7_gives 1 (.iconst 0) 1 2 := ⟨by decide +kernel, rfl⟩
theorem eX7_gives_2 : DC mX7_gives 2 (.putfield 80) 3 5 := ⟨by decide +kernel, rfl⟩
theorem eX7_gives_5 : DC mX7_gives 5 (.iload_n 1) 1 6 := ⟨by decide +kernel, rfl⟩
theorem eX7_gives_6 : DC mX7_gives 6 .ireturn 1 7 := ⟨by decide +kernel, rfl⟩
theorem eX7_isStand_0 : DC mX7_isStand 0 (.iload_n 1) 1 1 := ⟨by decide +kernel, rfl⟩
theorem eX7_isStand_1 : DJ mX7_isStand 1 (.ifCond .lt) 16 4 := ⟨15, by decide +kernel, by decide, rfl⟩
theorem eX7_isStand_4 : DC mX7_isStand 4 (.iload_n 1) 1 5 := ⟨by decide +kernel, rfl⟩
theorem eX7_isStand_5 : DC mX7_isStand 5 (.aload_n 0) 1 6 := ⟨by decide +kernel, rfl⟩
theorem eX7_isStand_6 : DC mX7_isStand 6 (.getfield 86) 3 9 := ⟨by decide +kernel, rfl⟩
theorem eX7_isStand_9 : DJ mX7_isStand 9 (.if_icmp .ge) 16 12 := ⟨7, by decide +kernel, by decide, rfl⟩
theorem eX7_isStand_12 : DC mX7_isStand 12 (.iconst 1) 1 13 := ⟨by decide +kernel, rfl⟩
theorem eX7_isStand_13 : DJ mX7_isStand 13 .goto 17 16 := ⟨4, by decide +kernel, by decide, rfl⟩
theorem eX7_isStand_16 : DC mX7_isStand 16 (.iconst 0) 1 17 := ⟨by decide +kernel, rfl⟩
theorem eX7_isStand_17 : DC mX7_isStand 17 .ireturn 1 18 := ⟨by decide +kernel, rfl⟩
theorem eX7_isVisit_0 : DC mX7_isVisit 0 (.iload_n 1) 1 1 := ⟨by decide +kernel, rfl⟩
theorem eX7_isVisit_1 : DJ mX7_isVisit 1 (.ifCond .lt) 16 4 := ⟨15, by decide +kernel, by decide, rfl⟩
theorem eX7_isVisit_4 : DC mX7_isVisit 4 (.iload_n 1) 1 5 := ⟨by decide +kernel, rfl⟩
theorem eX7_isVisit_5 : DC mX7_isVisit 5 (.aload_n 0) 1 6 := ⟨by decide +kernel, rfl⟩
theorem eX7_isVisit_6 : DC mX7_isVisit 6 (.getfield 89) 3 9 := ⟨by decide +kernel, rfl⟩
theorem eX7_isVisit_9 : DJ mX7_isVisit 9 (.if_icmp .ge) 16 12 := ⟨7, by decide +kernel, by decide, rfl⟩
theorem eX7_isVisit_12 : DC mX7_isVisit 12 (.iconst 1) 1 13 := ⟨by decide +kernel, rfl⟩
theorem eX7_isVisit_13 : DJ mX7_isVisit 13 .goto 17 16 := ⟨4, by decide +kernel, by decide, rfl⟩
theorem eX7_isVisit_16 : DC mX7_isVisit 16 (.iconst 0) 1 17 := ⟨by decide +kernel, rfl⟩
theorem eX7_isVisit_17 : DC mX7_isVisit 17 .ireturn 1 18 := ⟨by decide +kernel, rfl⟩
theorem eX7_stand_0 : DC mX7_stand 0 (.iload_n 1) 1 1 := ⟨by decide +kernel, rfl⟩
theorem eX7_stand_1 : DC mX7_stand 1 (.iconst 1) 1 2 := ⟨by decide +kernel, rfl⟩
theorem eX7_stand_2 : DJ mX7_stand 2 (.if_icmp .lt) 23 5 := ⟨21, by decide +kernel, by decide, rfl⟩
theorem eX7_stand_5 : DC mX7_stand 5 (.iload_n 1) 1 6 := ⟨by decide +kernel, rfl⟩
theorem eX7_stand_6 : DC mX7_stand 6 (.iconst 5) 1 7 := ⟨by decide +kernel, rfl⟩
theorem eX7_stand_7 : DJ mX7_stand 7 (.if_icmp .gt) 23 10 := ⟨16, by decide +kernel, by decide, rfl⟩
theorem eX7_stand_10 : DC mX7_stand 10 (.iload_n 2) 1 11 := ⟨by decide +kernel, rfl⟩
theorem eX7_stand_11 : DC mX7_stand 11 (.bipush 10) 2 13 := ⟨by decide +kernel, rfl⟩
theorem eX7_stand_13 : DJ mX7_stand 13 (.if_icmp .lt) 23 16 := ⟨10, by decide +kernel, by decide, rfl⟩
theorem eX7_stand_16 : DC mX7_stand 16 (.iload_n 2) 1 17 := ⟨by decide +kernel, rfl⟩
theorem eX7_stand_17 : DC mX7_stand 17 (.sipush 200) 3 20 := ⟨by decide +kernel, rfl⟩
theorem eX7_stand_20 : DJ mX7_stand 20 (.if_icmp .le) 29 23 := ⟨9, by decide +kernel, by decide, rfl⟩
theorem eX7_stand_23 : DC mX7_stand 23 (.aload_n 0) 1 24 := ⟨by decide +kernel, rfl⟩
theorem eX7_stand_24 : DC mX7_stand 24 (.iconst 3) 1 25 := ⟨by decide +kernel, rfl⟩
theorem eX7_stand_25 : DC mX7_stand 25 (.invokevirtual 92) 3 28 := ⟨by decide +kernel, rfl⟩
theorem eX7_stand_28 : DC mX7_stand 28 .ireturn 1 29 := ⟨by decide +kernel, rfl⟩
theorem eX7_stand_29 : DC mX7_stand 29 (.aload_n 0) 1 30 := ⟨by decide +kernel, rfl⟩
theorem eX7_stand_30 : DC mX7_stand 30 (.getfield 86) 3 33 := ⟨by decide +kernel, rfl⟩
theorem eX7_stand_33 : DC mX7_stand 33 (.bipush 24) 2 35 := ⟨by decide +kernel, rfl⟩
theorem eX7_stand_35 : DJ mX7_stand 35 (.if_icmp .ne) 44 38 := ⟨9, by decide +kernel, by decide, rfl⟩
theorem eX7_stand_38 : DC mX7_stand 38 (.aload_n 0) 1 39 := ⟨by decide +kernel, rfl⟩
theorem eX7_stand_39 : DC mX7_stand 39 (.iconst 4) 1 40 := ⟨by decide +kernel, rfl⟩
theorem eX7_stand_40 : DC mX7_stand 40 (.invokevirtual 92) 3 43 := ⟨by decide +kernel, rfl⟩
theorem eX7_stand_43 : DC mX7_stand 43 .ireturn 1 44 := ⟨by decide +kernel, rfl⟩
theorem eX7_stand_44 : DC mX7_stand 44 (.aload_n 0) 1 45 := ⟨by decide +kernel, rfl⟩
theorem eX7_stand_45 : DC mX7_stand 45 (.getfield 16) 3 48 := ⟨by decide +kernel, rfl⟩
theorem eX7_stand_48 : DC mX7_stand 48 (.aload_n 0) 1 49 := ⟨by decide +kernel, rfl⟩
theorem eX7_stand_49 : DC mX7_stand 49 (.getfield 86) 3 52 := ⟨by decide +kernel, rfl⟩
theorem eX7_stand_52 : DC mX7_stand 52 (.iload_n 1) 1 53 := ⟨by decide +kernel, rfl⟩
theorem eX7_stand_53 : DC mX7_stand 53 .iastore 1 54 := ⟨by decide +kernel, rfl⟩
theorem eX7_stand_54 : DC mX7_stand 54 (.aload_n 0) 1 55 := ⟨by decide +kernel, rfl⟩
theorem eX7_stand_55 : DC mX7_stand 55 (.getfield 20) 3 58 := ⟨by decide +kernel, rfl⟩
theorem eX7_stand_58 : DC mX7_stand 58 (.aload_n 0) 1 59 := ⟨by decide +kernel, rfl⟩
theorem eX7_stand_59 : DC mX7_stand 59 (.getfield 86) 3 62 := ⟨by decide +kernel, rfl⟩
theorem eX7_stand_62 : DC mX7_stand 62 (.iload_n 2) 1 63 := ⟨by decide +kernel, rfl⟩
theorem eX7_stand_63 : DC mX7_stand 63 .iastore 1 64 := ⟨by decide +kernel, rfl⟩
theorem eX7_stand_64 : DC mX7_stand 64 (.aload_n 0) 1 65 := ⟨by decide +kernel, rfl⟩
theorem eX7_stand_65 : DC mX7_stand 65 .dup 1 66 := ⟨by decide +kernel, rfl⟩
theorem eX7_stand_66 : DC mX7_stand 66 (.getfield 86) 3 69 := ⟨by decide +kernel, rfl⟩
theorem eX7_stand_69 : DC mX7_stand 69 (.iconst 1) 1 70 := ⟨by decide +kernel, rfl⟩
theorem eX7_stand_70 : DC mX7_stand 70 .iadd 1 71 := ⟨by decide +kernel, rfl⟩
theorem eX7_stand_71 : DC mX7_stand 71 (.putfield 86) 3 74 := ⟨by decide +kernel, rfl⟩
theorem eX7_stand_74 : DC mX7_stand 74 (.aload_n 0) 1 75 := ⟨by decide +kernel, rfl⟩
theorem eX7_stand_75 : DC mX7_stand 75 (.aload_n 0) 1 76 := ⟨by decide +kernel, rfl⟩
theorem eX7_stand_76 : DC mX7_stand 76 (.getfield 86) 3 79 := ⟨by decide +kernel, rfl⟩
theorem eX7_stand_79 : DC mX7_stand 79 (.iconst 1) 1 80 := ⟨by decide +kernel, rfl⟩
theorem eX7_stand_80 : DC mX7_stand 80 .isub 1 81 := ⟨by decide +kernel, rfl⟩
theorem eX7_stand_81 : DC mX7_stand 81 (.invokevirtual 96) 3 84 := ⟨by decide +kernel, rfl⟩
theorem eX7_stand_84 : DC mX7_stand 84 .ireturn 1 85 := ⟨by decide +kernel, rfl⟩
theorem eX7_ground_0 : DC mX7_ground 0 (.aload_n 0) 1 1 := ⟨by decide +kernel, rfl⟩
theorem eX7_ground_1 : DC mX7_ground 1 (.iload_n 1) 1 2 := ⟨by decide +kernel, rfl⟩
theorem eX7_ground_2 : DC mX7_ground 2 (.invokevirtual 99) 3 5 := ⟨by decide +kernel, rfl⟩
theorem eX7_ground_5 : DJ mX7_ground 5 (.ifCond .ne) 14 8 := ⟨9, by decide +kernel, by decide, rfl⟩
theorem eX7_ground_8 : DC mX7_ground 8 (.aload_n 0) 1 9 := ⟨by decide +kernel, rfl⟩
theorem eX7_ground_9 : DC mX7_ground 9 (.iconst 1) 1 10 := ⟨by decide +kernel, rfl⟩
theorem eX7_ground_10 : DC mX7_ground 10 (.invokevirtual 92) 3 13 := ⟨by decide +kernel, rfl⟩
theorem eX7_ground_13 : DC mX7_ground 13 .ireturn 1 14 := ⟨by decide +kernel, rfl⟩
theorem eX7_ground_14 : DC mX7_ground 14 (.iload_n 2) 1 15 := ⟨by decide +kernel, rfl⟩
theorem eX7_ground_15 : DJ mX7_ground 15 (.ifCond .lt) 23 18 := ⟨8, by decide +kernel, by decide, rfl⟩
theorem eX7_ground_18 : DC mX7_ground 18 (.iload_n 2) 1 19 := ⟨by decide +kernel, rfl⟩
theorem eX7_ground_19 : DC mX7_ground 19 (.iconst 1) 1 20 := ⟨by decide +kernel, rfl⟩
theorem eX7_ground_20 : DJ mX7_ground 20 (.if_icmp .le) 29 23 := ⟨9, by decide +kernel, by decide, rfl⟩
theorem eX7_ground_23 : DC mX7_ground 23 (.aload_n 0) 1 24 := ⟨by decide +kernel, rfl⟩
theorem eX7_ground_24 : DC mX7_ground 24 (.iconst 3) 1 25 := ⟨by decide +kernel, rfl⟩
theorem eX7_ground_25 : DC mX7_ground 25 (.invokevirtual 92) 3 28 := ⟨by decide +kernel, rfl⟩
theorem eX7_ground_28 : DC mX7_ground 28 .ireturn 1 29 := ⟨by decide +kernel, rfl⟩
theorem eX7_ground_29 : DC mX7_ground 29 (.aload_n 0) 1 30 := ⟨by decide +kernel, rfl⟩
theorem eX7_ground_30 : DC mX7_ground 30 (.iload_n 2) 1 31 := ⟨by decide +kernel, rfl⟩
theorem eX7_ground_31 : DJ mX7_ground 31 (.ifCond .ne) 43 34 := ⟨12, by decide +kernel, by decide, rfl⟩
theorem eX7_ground_34 : DC mX7_ground 34 (.aload_n 0) 1 35 := ⟨by decide +kernel, rfl⟩
theorem eX7_ground_35 : DC mX7_ground 35 (.getfield 16) 3 38 := ⟨by decide +kernel, rfl⟩
theorem eX7_ground_38 : DC mX7_ground 38 (.iload_n 1) 1 39 := ⟨by decide +kernel, rfl⟩
theorem eX7_ground_39 : DC mX7_ground 39 .iaload 1 40 := ⟨by decide +kernel, rfl⟩
theorem eX7_ground_40 : DJ mX7_ground 40 .goto 49 43 := ⟨9, by decide +kernel, by decide, rfl⟩
theorem eX7_ground_43 : DC mX7_ground 43 (.aload_n 0) 1 44 := ⟨by decide +kernel, rfl⟩
theorem eX7_ground_44 : DC mX7_ground 44 (.getfield 20) 3 47 := ⟨by decide +kernel, rfl⟩
theorem eX7_ground_47 : DC mX7_ground 47 (.iload_n 1) 1 48 := ⟨by decide +kernel, rfl⟩
theorem eX7_ground_48 : DC mX7_ground 48 .iaload 1 49 := ⟨by decide +kernel, rfl⟩
theorem eX7_ground_49 : DC mX7_ground 49 (.invokevirtual 96) 3 52 := ⟨by decide +kernel, rfl⟩
theorem eX7_ground_52 : DC mX7_ground 52 .ireturn 1 53 := ⟨by decide +kernel, rfl⟩
theorem eX7_near_0 : DC mX7_near 0 (.aload_n 0) 1 1 := ⟨by decide +kernel, rfl⟩
theorem eX7_near_1 : DC mX7_near 1 (.iload_n 1) 1 2 := ⟨by decide +kernel, rfl⟩
theorem eX7_near_2 : DC mX7_near 2 (.invokevirtual 99) 3 5 := ⟨by decide +kernel, rfl⟩
theorem eX7_near_5 : DJ mX7_near 5 (.ifCond .eq) 16 8 := ⟨11, by decide +kernel, by decide, rfl⟩
theorem eX7_near_8 : DC mX7_near 8 (.aload_n 0) 1 9 := ⟨by decide +kernel, rfl⟩
theorem eX7_near_9 : DC mX7_near 9 (.iload_n 2) 1 10 := ⟨by decide +kernel, rfl⟩
theorem eX7_near_10 : DC mX7_near 10 (.invokevirtual 99) 3 13 := ⟨by decide +kernel, rfl⟩
theorem eX7_near_13 : DJ mX7_near 13 (.ifCond .ne) 22 16 := ⟨9, by decide +kernel, by decide, rfl⟩
theorem eX7_near_16 : DC mX7_near 16 (.aload_n 0) 1 17 := ⟨by decide +kernel, rfl⟩
theorem eX7_near_17 : DC mX7_near 17 (.iconst 1) 1 18 := ⟨by decide +kernel, rfl⟩
theorem eX7_near_18 : DC mX7_near 18 (.invokevirtual 92) 3 21 := ⟨by decide +kernel, rfl⟩
theorem eX7_near_21 : DC mX7_near 21 .ireturn 1 22 := ⟨by decide +kernel, rfl⟩
theorem eX7_near_22 : DC mX7_near 22 (.iload_n 1) 1 23 := ⟨by decide +kernel, rfl⟩
theorem eX7_near_23 : DC mX7_near 23 (.iload_n 2) 1 24 := ⟨by decide +kernel, rfl⟩
theorem eX7_near_24 : DJ mX7_near 24 (.if_icmp .eq) 51 27 := ⟨27, by decide +kernel, by decide, rfl⟩
theorem eX7_near_27 : DC mX7_near 27 (.iload_n 3) 1 28 := ⟨by decide +kernel, rfl⟩
theorem eX7_near_28 : DJ mX7_near 28 (.ifCond .lt) 51 31 := ⟨23, by decide +kernel, by decide, rfl⟩
theorem eX7_near_31 : DC mX7_near 31 (.iload_n 3) 1 32 := ⟨by decide +kernel, rfl⟩
theorem eX7_near_32 : DC mX7_near 32 (.sipush 200) 3 35 := ⟨by decide +kernel, rfl⟩
theorem eX7_near_35 : DJ mX7_near 35 (.if_icmp .gt) 51 38 := ⟨16, by decide +kernel, by decide, rfl⟩
theorem eX7_near_38 : DC mX7_near 38 (.iload 4) 2 40 := ⟨by decide +kernel, rfl⟩
theorem eX7_near_40 : DJ mX7_near 40 (.ifCond .lt) 51 43 := ⟨11, by decide +kernel, by decide, rfl⟩
theorem eX7_near_43 : DC mX7_near 43 (.iload 4) 2 45 := ⟨by decide +kernel, rfl⟩
theorem eX7_near_45 : DC mX7_near 45 (.sipush 200) 3 48 := ⟨by decide +kernel, rfl⟩
theorem eX7_near_48 : DJ mX7_near 48 (.if_icmp .le) 57 51 := ⟨9, by decide +kernel, by decide, rfl⟩
theorem eX7_near_51 : DC mX7_near 51 (.aload_n 0) 1 52 := ⟨by decide +kernel, rfl⟩
theorem eX7_near_52 : DC mX7_near 52 (.iconst 3) 1 53 := ⟨by decide +kernel, rfl⟩
theorem eX7_near_53 : DC mX7_near 53 (.invokevirtual 92) 3 56 := ⟨by decide +kernel, rfl⟩
theorem eX7_near_56 : DC mX7_near 56 .ireturn 1 57 := ⟨by decide +kernel, rfl⟩
theorem eX7_near_57 : DC mX7_near 57 (.aload_n 0) 1 58 := ⟨by decide +kernel, rfl⟩
theorem eX7_near_58 : DC mX7_near 58 (.getfield 103) 3 61 := ⟨by decide +kernel, rfl⟩
theorem eX7_near_61 : DC mX7_near 61 (.bipush 40) 2 63 := ⟨by decide +kernel, rfl⟩
theorem eX7_near_63 : DJ mX7_near 63 (.if_icmp .ne) 72 66 := ⟨9, by decide +kernel, by decide, rfl⟩
theorem eX7_near_66 : DC mX7_near 66 (.aload_n 0) 1 67 := ⟨by decide +kernel, rfl⟩
theorem eX7_near_67 : DC mX7_near 67 (.iconst 4) 1 68 := ⟨by decide +kernel, rfl⟩
theorem eX7_near_68 : DC mX7_near 68 (.invokevirtual 92) 3 71 := ⟨by decide +kernel, rfl⟩
theorem eX7_near_71 : DC mX7_near 71 .ireturn 1 72 := ⟨by decide +kernel, rfl⟩
theorem eX7_near_72 : DC mX7_near 72 (.aload_n 0) 1 73 := ⟨by decide +kernel, rfl⟩
theorem eX7_near_73 : DC mX7_near 73 (.getfield 23) 3 76 := ⟨by decide +kernel, rfl⟩
theorem eX7_near_76 : DC mX7_near 76 (.aload_n 0) 1 77 := ⟨by decide +kernel, rfl⟩
theorem eX7_near_77 : DC mX7_near 77 (.getfield 103) 3 80 := ⟨by decide +kernel, rfl⟩
theorem eX7_near_80 : DC mX7_near 80 (.iload_n 1) 1 81 := ⟨by decide +kernel, rfl⟩
theorem eX7_near_81 : DC mX7_near 81 .iastore 1 82 := ⟨by decide +kernel, rfl⟩
theorem eX7_near_82 : DC mX7_near 82 (.aload_n 0) 1 83 := ⟨by decide +kernel, rfl⟩
theorem eX7_near_83 : DC mX7_near 83 (.getfield 26) 3 86 := ⟨by decide +kernel, rfl⟩
theorem eX7_near_86 : DC mX7_near 86 (.aload_n 0) 1 87 := ⟨by decide +kernel, rfl⟩
theorem eX7_near_87 : DC mX7_near 87 (.getfield 103) 3 90 := ⟨by decide +kernel, rfl⟩
theorem eX7_near_90 : DC mX7_near 90 (.iload_n 2) 1 91 := ⟨by decide +kernel, rfl⟩
theorem eX7_near_91 : DC mX7_near 91 .iastore 1 92 := ⟨by decide +kernel, rfl⟩
theorem eX7_near_92 : DC mX7_near 92 (.aload_n 0) 1 93 := ⟨by decide +kernel, rfl⟩
theorem eX7_near_93 : DC mX7_near 93 (.getfield 29) 3 96 := ⟨by decide +kernel, rfl⟩
theorem eX7_near_96 : DC mX7_near 96 (.aload_n 0) 1 97 := ⟨by decide +kernel, rfl⟩
theorem eX7_near_97 : DC mX7_near 97 (.getfield 103) 3 100 := ⟨by decide +kernel, rfl⟩
theorem eX7_near_100 : DC mX7_near 100 (.iload_n 3) 1 101 := ⟨by decide +kernel, rfl⟩
theorem eX7_near_101 : DC mX7_near 101 .iastore 1 102 := ⟨by decide +kernel, rfl⟩
theorem eX7_near_102 : DC mX7_near 102 (.aload_n 0) 1 103 := ⟨by decide +kernel, rfl⟩
theorem eX7_near_103 : DC mX7_near 103 (.getfield 32) 3 106 := ⟨by decide +kernel, rfl⟩
theorem eX7_near_106 : DC mX7_near 106 (.aload_n 0) 1 107 := ⟨by decide +kernel, rfl⟩
theorem eX7_near_107 : DC mX7_near 107 (.getfield 103) 3 110 := ⟨by decide +kernel, rfl⟩
theorem eX7_near_110 : DC mX7_near 110 (.iload 4) 2 112 := ⟨by decide +kernel, rfl⟩
theorem eX7_near_112 : DC mX7_near 112 .iastore 1 113 := ⟨by decide +kernel, rfl⟩
theorem eX7_near_113 : DC mX7_near 113 (.aload_n 0) 1 114 := ⟨by decide +kernel, rfl⟩
theorem eX7_near_114 : DC mX7_near 114 .dup 1 115 := ⟨by decide +kernel, rfl⟩
theorem eX7_near_115 : DC mX7_near 115 (.getfield 103) 3 118 := ⟨by decide +kernel, rfl⟩
theorem eX7_near_118 : DC mX7_near 118 (.iconst 1) 1 119 := ⟨by decide +kernel, rfl⟩
theorem eX7_near_119 : DC mX7_near 119 .iadd 1 120 := ⟨by decide +kernel, rfl⟩
theorem eX7_near_120 : DC mX7_near 120 (.putfield 103) 3 123 := ⟨by decide +kernel, rfl⟩
theorem eX7_near_123 : DC mX7_near 123 (.aload_n 0) 1 124 := ⟨by decide +kernel, rfl⟩
theorem eX7_near_124 : DC mX7_near 124 (.aload_n 0) 1 125 := ⟨by decide +kernel, rfl⟩
theorem eX7_near_125 : DC mX7_near 125 (.getfield 103) 3 128 := ⟨by decide +kernel, rfl⟩
theorem eX7_near_128 : DC mX7_near 128 (.invokevirtual 96) 3 131 := ⟨by decide +kernel, rfl⟩
theorem eX7_near_131 : DC mX7_near 131 .ireturn 1 132 := ⟨by decide +kernel, rfl⟩
theorem eX7_isSpan_0 : DC mX7_isSpan 0 (.iload_n 0) 1 1 := ⟨by decide +kernel, rfl⟩
theorem eX7_isSpan_1 : DJ mX7_isSpan 1 (.ifCond .lt) 27 4 := ⟨26, by decide +kernel, by decide, rfl⟩
theorem eX7_isSpan_4 : DC mX7_isSpan 4 (.iload_n 0) 1 5 := ⟨by decide +kernel, rfl⟩
theorem eX7_isSpan_5 : DC mX7_isSpan 5 (.sipush 2880) 3 8 := ⟨by decide +kernel, rfl⟩
theorem eX7_isSpan_8 : DJ mX7_isSpan 8 (.if_icmp .ge) 27 11 := ⟨19, by decide +kernel, by decide, rfl⟩
theorem eX7_isSpan_11 : DC mX7_isSpan 11 (.iload_n 1) 1 12 := ⟨by decide +kernel, rfl⟩
theorem eX7_isSpan_12 : DC mX7_isSpan 12 (.iload_n 0) 1 13 := ⟨by decide +kernel, rfl⟩
theorem eX7_isSpan_13 : DJ mX7_isSpan 13 (.if_icmp .le) 27 16 := ⟨14, by decide +kernel, by decide, rfl⟩
theorem eX7_isSpan_16 : DC mX7_isSpan 16 (.iload_n 1) 1 17 := ⟨by decide +kernel, rfl⟩
theorem eX7_isSpan_17 : DC mX7_isSpan 17 (.sipush 2880) 3 20 := ⟨by decide +kernel, rfl⟩
theorem eX7_isSpan_20 : DJ mX7_isSpan 20 (.if_icmp .gt) 27 23 := ⟨7, by decide +kernel, by decide, rfl⟩
theorem eX7_isSpan_23 : DC mX7_isSpan 23 (.iconst 1) 1 24 := ⟨by decide +kernel, rfl⟩
theorem eX7_isSpan_24 : DJ mX7_isSpan 24 .goto 28 27 := ⟨4, by decide +kernel, by decide, rfl⟩
theorem eX7_isSpan_27 : DC mX7_isSpan 27 (.iconst 0) 1 28 := ⟨by decide +kernel, rfl⟩
theorem eX7_isSpan_28 : DC mX7_isSpan 28 .ireturn 1 29 := ⟨by decide +kernel, rfl⟩
theorem eX7_cone_0 : DC mX7_cone 0 (.aload_n 0) 1 1 := ⟨by decide +kernel, rfl⟩
theorem eX7_cone_1 : DC mX7_cone 1 (.iload_n 1) 1 2 := ⟨by decide +kernel, rfl⟩
theorem eX7_cone_2 : DC mX7_cone 2 (.invokevirtual 99) 3 5 := ⟨by decide +kernel, rfl⟩
theorem eX7_cone_5 : DJ mX7_cone 5 (.ifCond .ne) 14 8 := ⟨9, by decide +kernel, by decide, rfl⟩
theorem eX7_cone_8 : DC mX7_cone 8 (.aload_n 0) 1 9 := ⟨by decide +kernel, rfl⟩
theorem eX7_cone_9 : DC mX7_cone 9 (.iconst 1) 1 10 := ⟨by decide +kernel, rfl⟩
theorem eX7_cone_10 : DC mX7_cone 10 (.invokevirtual 92) 3 13 := ⟨by decide +kernel, rfl⟩
theorem eX7_cone_13 : DC mX7_cone 13 .ireturn 1 14 := ⟨by decide +kernel, rfl⟩
theorem eX7_cone_14 : DC mX7_cone 14 (.iload_n 2) 1 15 := ⟨by decide +kernel, rfl⟩
theorem eX7_cone_15 : DC mX7_cone 15 (.iload_n 3) 1 16 := ⟨by decide +kernel, rfl⟩
theorem eX7_cone_16 : DC mX7_cone 16 (.invokestatic 106) 3 19 := ⟨by decide +kernel, rfl⟩
theorem eX7_cone_19 : DJ mX7_cone 19 (.ifCond .ne) 28 22 := ⟨9, by decide +kernel, by decide, rfl⟩
theorem eX7_cone_22 : DC mX7_cone 22 (.aload_n 0) 1 23 := ⟨by decide +kernel, rfl⟩
theorem eX7_cone_23 : DC mX7_cone 23 (.iconst 3) 1 24 := ⟨by decide +kernel, rfl⟩
theorem eX7_cone_24 : DC mX7_cone 24 (.invokevirtual 92) 3 27 := ⟨by decide +kernel, rfl⟩
theorem eX7_cone_27 : DC mX7_cone 27 .ireturn 1 28 := ⟨by decide +kernel, rfl⟩
theorem eX7_cone_28 : DC mX7_cone 28 (.aload_n 0) 1 29 := ⟨by decide +kernel, rfl⟩
theorem eX7_cone_29 : DC mX7_cone 29 (.getfield 110) 3 32 := ⟨by decide +kernel, rfl⟩
theorem eX7_cone_32 : DC mX7_cone 32 (.bipush 20) 2 34 := ⟨by decide +kernel, rfl⟩
theorem eX7_cone_34 : DJ mX7_cone 34 (.if_icmp .ne) 43 37 := ⟨9, by decide +kernel, by decide, rfl⟩
theorem eX7_cone_37 : DC mX7_cone 37 (.aload_n 0) 1 38 := ⟨by decide +kernel, rfl⟩
theorem eX7_cone_38 : DC mX7_cone 38 (.iconst 4) 1 39 := ⟨by decide +kernel, rfl⟩
theorem eX7_cone_39 : DC mX7_cone 39 (.invokevirtual 92) 3 42 := ⟨by decide +kernel, rfl⟩
theorem eX7_cone_42 : DC mX7_cone 42 .ireturn 1 43 := ⟨by decide +kernel, rfl⟩
theorem eX7_cone_43 : DC mX7_cone 43 (.aload_n 0) 1 44 := ⟨by decide +kernel, rfl⟩
theorem eX7_cone_44 : DC mX7_cone 44 (.getfield 35) 3 47 := ⟨by decide +kernel, rfl⟩
theorem eX7_cone_47 : DC mX7_cone 47 (.aload_n 0) 1 48 := ⟨by decide +kernel, rfl⟩
theorem eX7_cone_48 : DC mX7_cone 48 (.getfield 110) 3 51 := ⟨by decide +kernel, rfl⟩
theorem eX7_cone_51 : DC mX7_cone 51 (.iload_n 1) 1 52 := ⟨by decide +kernel, rfl⟩
theorem eX7_cone_52 : DC mX7_cone 52 .iastore 1 53 := ⟨by decide +kernel, rfl⟩
theorem eX7_cone_53 : DC mX7_cone 53 (.aload_n 0) 1 54 := ⟨by decide +kernel, rfl⟩
theorem eX7_cone_54 : DC mX7_cone 54 (.getfield 38) 3 57 := ⟨by decide +kernel, rfl⟩
theorem eX7_cone_57 : DC mX7_cone 57 (.aload_n 0) 1 58 := ⟨by decide +kernel, rfl⟩
theorem eX7_cone_58 : DC mX7_cone 58 (.getfield 110) 3 61 := ⟨by decide +kernel, rfl⟩
theorem eX7_cone_61 : DC mX7_cone 61 (.iload_n 2) 1 62 := ⟨by decide +kernel, rfl⟩
theorem eX7_cone_62 : DC mX7_cone 62 .iastore 1 63 := ⟨by decide +kernel, rfl⟩
theorem eX7_cone_63 : DC mX7_cone 63 (.aload_n 0) 1 64 := ⟨by decide +kernel, rfl⟩
theorem eX7_cone_64 : DC mX7_cone 64 (.getfield 41) 3 67 := ⟨by decide +kernel, rfl⟩
theorem eX7_cone_67 : DC mX7_cone 67 (.aload_n 0) 1 68 := ⟨by decide +kernel, rfl⟩
theorem eX7_cone_68 : DC mX7_cone 68 (.getfield 110) 3 71 := ⟨by decide +kernel, rfl⟩
theorem eX7_cone_71 : DC mX7_cone 71 (.iload_n 3) 1 72 := ⟨by decide +kernel, rfl⟩
theorem eX7_cone_72 : DC mX7_cone 72 .iastore 1 73 := ⟨by decide +kernel, rfl⟩
theorem eX7_cone_73 : DC mX7_cone 73 (.aload_n 0) 1 74 := ⟨by decide +kernel, rfl⟩
theorem eX7_cone_74 : DC mX7_cone 74 .dup 1 75 := ⟨by decide +kernel, rfl⟩
theorem eX7_cone_75 : DC mX7_cone 75 (.getfield 110) 3 78 := ⟨by decide +kernel, rfl⟩
theorem eX7_cone_78 : DC mX7_cone 78 (.iconst 1) 1 79 := ⟨by decide +kernel, rfl⟩
theorem eX7_cone_79 : DC mX7_cone 79 .iadd 1 80 := ⟨by decide +kernel, rfl⟩
theorem eX7_cone_80 : DC mX7_cone 80 (.putfield 110) 3 83 := ⟨by decide +kernel, rfl⟩
theorem eX7_cone_83 : DC mX7_cone 83 (.aload_n 0) 1 84 := ⟨by decide +kernel, rfl⟩
theorem eX7_cone_84 : DC mX7_cone 84 (.aload_n 0) 1 85 := ⟨by decide +kernel, rfl⟩
theorem eX7_cone_85 : DC mX7_cone 85 (.getfield 110) 3 88 := ⟨by decide +kernel, rfl⟩
theorem eX7_cone_88 : DC mX7_cone 88 (.iconst 1) 1 89 := ⟨by decide +kernel, rfl⟩
theorem eX7_cone_89 : DC mX7_cone 89 .isub 1 90 := ⟨by decide +kernel, rfl⟩
theorem eX7_cone_90 : DC mX7_cone 90 (.invokevirtual 96) 3 93 := ⟨by decide +kernel, rfl⟩
theorem eX7_cone_93 : DC mX7_cone 93 .ireturn 1 94 := ⟨by decide +kernel, rfl⟩
theorem eX7_towtime_0 : DC mX7_towtime 0 (.iload_n 1) 1 1 := ⟨by decide +kernel, rfl⟩
theorem eX7_towtime_1 : DC mX7_towtime 1 (.iconst 1) 1 2 := ⟨by decide +kernel, rfl⟩
theorem eX7_towtime_2 : DJ mX7_towtime 2 (.if_icmp .lt) 15 5 := ⟨13, by decide +kernel, by decide, rfl⟩
theorem eX7_towtime_5 : DC mX7_towtime 5 (.iload_n 1) 1 6 := ⟨by decide +kernel, rfl⟩
theorem eX7_towtime_6 : DC mX7_towtime 6 (.bipush 60) 2 8 := ⟨by decide +kernel, rfl⟩
theorem eX7_towtime_8 : DJ mX7_towtime 8 (.if_icmp .gt) 15 11 := ⟨7, by decide +kernel, by decide, rfl⟩
theorem eX7_towtime_11 : DC mX7_towtime 11 (.iconst 1) 1 12 := ⟨by decide +kernel, rfl⟩
theorem eX7_towtime_12 : DJ mX7_towtime 12 .goto 16 15 := ⟨4, by decide +kernel, by decide, rfl⟩
theorem eX7_towtime_15 : DC mX7_towtime 15 (.iconst 0) 1 16 := ⟨by decide +kernel, rfl⟩
theorem eX7_towtime_16 : DC mX7_towtime 16 (.istore_n 2) 1 17 := ⟨by decide +kernel, rfl⟩
theorem eX7_towtime_17 : DC mX7_towtime 17 (.aload_n 0) 1 18 := ⟨by decide +kernel, rfl⟩
theorem eX7_towtime_18 : DC mX7_towtime 18 (.iload_n 2) 1 19 := ⟨by decide +kernel, rfl⟩
theorem eX7_towtime_19 : DJ mX7_towtime 19 (.ifCond .eq) 26 22 := ⟨7, by decide +kernel, by decide, rfl⟩
theorem eX7_towtime_22 : DC mX7_towtime 22 (.iconst 0) 1 23 := ⟨by decide +kernel, rfl⟩
theorem eX7_towtime_23 : DJ mX7_towtime 23 .goto 27 26 := ⟨4, by decide +kernel, by decide, rfl⟩
theorem eX7_towtime_26 : DC mX7_towtime 26 (.iconst 3) 1 27 := ⟨by decide +kernel, rfl⟩
theorem eX7_towtime_27 : DC mX7_towtime 27 (.putfield 80) 3 30 := ⟨by decide +kernel, rfl⟩
theorem eX7_towtime_30 : DC mX7_towtime 30 (.iload_n 2) 1 31 := ⟨by decide +kernel, rfl⟩
theorem eX7_towtime_31 : DJ mX7_towtime 31 (.ifCond .eq) 39 34 := ⟨8, by decide +kernel, by decide, rfl⟩
theorem eX7_towtime_34 : DC mX7_towtime 34 (.aload_n 0) 1 35 := ⟨by decide +kernel, rfl⟩
theorem eX7_towtime_35 : DC mX7_towtime 35 (.iload_n 1) 1 36 := ⟨by decide +kernel, rfl⟩
theorem eX7_towtime_36 : DC mX7_towtime 36 (.putfield 13) 3 39 := ⟨by decide +kernel, rfl⟩
theorem eX7_towtime_39 : DC mX7_towtime 39 (.iload_n 2) 1 40 := ⟨by decide +kernel, rfl⟩
theorem eX7_towtime_40 : DC mX7_towtime 40 .ireturn 1 41 := ⟨by decide +kernel, rfl⟩
theorem eX7_visit_0 : DC mX7_visit 0 (.iload_n 1) 1 1 := ⟨by decide +kernel, rfl⟩
theorem eX7_visit_1 : DC mX7_visit 1 (.iconst 1) 1 2 := ⟨by decide +kernel, rfl⟩
theorem eX7_visit_2 : DJ mX7_visit 2 (.if_icmp .lt) 43 5 := ⟨41, by decide +kernel, by decide, rfl⟩
theorem eX7_visit_5 : DC mX7_visit 5 (.iload_n 1) 1 6 := ⟨by decide +kernel, rfl⟩
theorem eX7_visit_6 : DC mX7_visit 6 (.iconst 4) 1 7 := ⟨by decide +kernel, rfl⟩
theorem eX7_visit_7 : DJ mX7_visit 7 (.if_icmp .gt) 43 10 := ⟨36, by decide +kernel, by decide, rfl⟩
theorem eX7_visit_10 : DC mX7_visit 10 (.iload_n 2) 1 11 := ⟨by decide +kernel, rfl⟩
theorem eX7_visit_11 : DC mX7_visit 11 (.bipush 10) 2 13 := ⟨by decide +kernel, rfl⟩
theorem eX7_visit_13 : DJ mX7_visit 13 (.if_icmp .lt) 43 16 := ⟨30, by decide +kernel, by decide, rfl⟩
theorem eX7_visit_16 : DC mX7_visit 16 (.iload_n 2) 1 17 := ⟨by decide +kernel, rfl⟩
theorem eX7_visit_17 : DC mX7_visit 17 (.sipush 200) 3 20 := ⟨by decide +kernel, rfl⟩
theorem eX7_visit_20 : DJ mX7_visit 20 (.if_icmp .gt) 43 23 := ⟨23, by decide +kernel, by decide, rfl⟩
theorem eX7_visit_23 : DC mX7_visit 23 (.iload_n 3) 1 24 := ⟨by decide +kernel, rfl⟩
theorem eX7_visit_24 : DC mX7_visit 24 (.iload 4) 2 26 := ⟨by decide +kernel, rfl⟩
theorem eX7_visit_26 : DC mX7_visit 26 (.invokestatic 106) 3 29 := ⟨by decide +kernel, rfl⟩
theorem eX7_visit_29 : DJ mX7_visit 29 (.ifCond .eq) 43 32 := ⟨14, by decide +kernel, by decide, rfl⟩
theorem eX7_visit_32 : DC mX7_visit 32 (.iload 5) 2 34 := ⟨by decide +kernel, rfl⟩
theorem eX7_visit_34 : DJ mX7_visit 34 (.ifCond .lt) 43 37 := ⟨9, by decide +kernel, by decide, rfl⟩
theorem eX7_visit_37 : DC mX7_visit 37 (.iload 5) 2 39 := ⟨by decide +kernel, rfl⟩
theorem eX7_visit_39 : DC mX7_visit 39 (.iconst 2) 1 40 := ⟨by decide +kernel, rfl⟩
theorem eX7_visit_40 : DJ mX7_visit 40 (.if_icmp .le) 49 43 := ⟨9, by decide +kernel, by decide, rfl⟩
theorem eX7_visit_43 : DC mX7_visit 43 (.aload_n 0) 1 44 := ⟨by decide +kernel, rfl⟩
theorem eX7_visit_44 : DC mX7_visit 44 (.iconst 3) 1 45 := ⟨by decide +kernel, rfl⟩
theorem eX7_visit_45 : DC mX7_visit 45 (.invokevirtual 92) 3 48 := ⟨by decide +kernel, rfl⟩
theorem eX7_visit_48 : DC mX7_visit 48 .ireturn 1 49 := ⟨by decide +kernel, rfl⟩
theorem eX7_visit_49 : DC mX7_visit 49 (.aload_n 0) 1 50 := ⟨by decide +kernel, rfl⟩
theorem eX7_visit_50 : DC mX7_visit 50 (.getfield 89) 3 53 := ⟨by decide +kernel, rfl⟩
theorem eX7_visit_53 : DC mX7_visit 53 (.bipush 40) 2 55 := ⟨by decide +kernel, rfl⟩
theorem eX7_visit_55 : DJ mX7_visit 55 (.if_icmp .ne) 64 58 := ⟨9, by decide +kernel, by decide, rfl⟩
theorem eX7_visit_58 : DC mX7_visit 58 (.aload_n 0) 1 59 := ⟨by decide +kernel, rfl⟩
theorem eX7_visit_59 : DC mX7_visit 59 (.iconst 4) 1 60 := ⟨by decide +kernel, rfl⟩
theorem eX7_visit_60 : DC mX7_visit 60 (.invokevirtual 92) 3 63 := ⟨by decide +kernel, rfl⟩
theorem eX7_visit_63 : DC mX7_visit 63 .ireturn 1 64 := ⟨by decide +kernel, rfl⟩
theorem eX7_visit_64 : DC mX7_visit 64 (.iconst 5) 1 65 := ⟨by decide +kernel, rfl⟩
theorem eX7_visit_65 : DC mX7_visit 65 (.aload_n 0) 1 66 := ⟨by decide +kernel, rfl⟩
theorem eX7_visit_66 : DC mX7_visit 66 (.getfield 89) 3 69 := ⟨by decide +kernel, rfl⟩
theorem eX7_visit_69 : DC mX7_visit 69 .imul 1 70 := ⟨by decide +kernel, rfl⟩
theorem eX7_visit_70 : DC mX7_visit 70 (.istore 6) 2 72 := ⟨by decide +kernel, rfl⟩
theorem eX7_visit_72 : DC mX7_visit 72 (.aload_n 0) 1 73 := ⟨by decide +kernel, rfl⟩
theorem eX7_visit_73 : DC mX7_visit 73 (.getfield 47) 3 76 := ⟨by decide +kernel, rfl⟩
theorem eX7_visit_76 : DC mX7_visit 76 (.iload 6) 2 78 := ⟨by decide +kernel, rfl⟩
theorem eX7_visit_78 : DC mX7_visit 78 (.iload_n 1) 1 79 := ⟨by decide +kernel, rfl⟩
theorem eX7_visit_79 : DC mX7_visit 79 .iastore 1 80 := ⟨by decide +kernel, rfl⟩
theorem eX7_visit_80 : DC mX7_visit 80 (.aload_n 0) 1 81 := ⟨by decide +kernel, rfl⟩
theorem eX7_visit_81 : DC mX7_visit 81 (.getfield 47) 3 84 := ⟨by decide +kernel, rfl⟩
theorem eX7_visit_84 : DC mX7_visit 84 (.iload 6) 2 86 := ⟨by decide +kernel, rfl⟩
theorem eX7_visit_86 : DC mX7_visit 86 (.iconst 1) 1 87 := ⟨by decide +kernel, rfl⟩
theorem eX7_visit_87 : DC mX7_visit 87 .iadd 1 88 := ⟨by decide +kernel, rfl⟩
theorem eX7_visit_88 : DC mX7_visit 88 (.iload_n 2) 1 89 := ⟨by decide +kernel, rfl⟩
theorem eX7_visit_89 : DC mX7_visit 89 .iastore 1 90 := ⟨by decide +kernel, rfl⟩
theorem eX7_visit_90 : DC mX7_visit 90 (.aload_n 0) 1 91 := ⟨by decide +kernel, rfl⟩
theorem eX7_visit_91 : DC mX7_visit 91 (.getfield 47) 3 94 := ⟨by decide +kernel, rfl⟩
theorem eX7_visit_94 : DC mX7_visit 94 (.iload 6) 2 96 := ⟨by decide +kernel, rfl⟩
theorem eX7_visit_96 : DC mX7_visit 96 (.iconst 2) 1 97 := ⟨by decide +kernel, rfl⟩
theorem eX7_visit_97 : DC mX7_visit 97 .iadd 1 98 := ⟨by decide +kernel, rfl⟩
theorem eX7_visit_98 : DC mX7_visit 98 (.iload_n 3) 1 99 := ⟨by decide +kernel, rfl⟩
theorem eX7_visit_99 : DC mX7_visit 99 .iastore 1 100 := ⟨by decide +kernel, rfl⟩
theorem eX7_visit_100 : DC mX7_visit 100 (.aload_n 0) 1 101 := ⟨by decide +kernel, rfl⟩
theorem eX7_visit_101 : DC mX7_visit 101 (.getfield 47) 3 104 := ⟨by decide +kernel, rfl⟩
theorem eX7_visit_104 : DC mX7_visit 104 (.iload 6) 2 106 := ⟨by decide +kernel, rfl⟩
theorem eX7_visit_106 : DC mX7_visit 106 (.iconst 3) 1 107 := ⟨by decide +kernel, rfl⟩
theorem eX7_visit_107 : DC mX7_visit 107 .iadd 1 108 := ⟨by decide +kernel, rfl⟩
theorem eX7_visit_108 : DC mX7_visit 108 (.iload 4) 2 110 := ⟨by decide +kernel, rfl⟩
theorem eX7_visit_110 : DC mX7_visit 110 .iastore 1 111 := ⟨by decide +kernel, rfl⟩
theorem eX7_visit_111 : DC mX7_visit 111 (.aload_n 0) 1 112 := ⟨by decide +kernel, rfl⟩
theorem eX7_visit_112 : DC mX7_visit 112 (.getfield 47) 3 115 := ⟨by decide +kernel, rfl⟩
theorem eX7_visit_115 : DC mX7_visit 115 (.iload 6) 2 117 := ⟨by decide +kernel, rfl⟩
theorem eX7_visit_117 : DC mX7_visit 117 (.iconst 4) 1 118 := ⟨by decide +kernel, rfl⟩
theorem eX7_visit_118 : DC mX7_visit 118 .iadd 1 119 := ⟨by decide +kernel, rfl⟩
theorem eX7_visit_119 : DC mX7_visit 119 (.iload 5) 2 121 := ⟨by decide +kernel, rfl⟩
theorem eX7_visit_121 : DC mX7_visit 121 .iastore 1 122 := ⟨by decide +kernel, rfl⟩
theorem eX7_visit_122 : DC mX7_visit 122 (.aload_n 0) 1 123 := ⟨by decide +kernel, rfl⟩
theorem eX7_visit_123 : DC mX7_visit 123 (.getfield 44) 3 126 := ⟨by decide +kernel, rfl⟩
theorem eX7_visit_126 : DC mX7_visit 126 (.aload_n 0) 1 127 := ⟨by decide +kernel, rfl⟩
theorem eX7_visit_127 : DC mX7_visit 127 (.getfield 89) 3 130 := ⟨by decide +kernel, rfl⟩
theorem eX7_visit_130 : DC mX7_visit 130 (.iconst 5) 1 131 := ⟨by decide +kernel, rfl⟩
theorem eX7_visit_131 : DC mX7_visit 131 .iastore 1 132 := ⟨by decide +kernel, rfl⟩
theorem eX7_visit_132 : DC mX7_visit 132 (.aload_n 0) 1 133 := ⟨by decide +kernel, rfl⟩
theorem eX7_visit_133 : DC mX7_visit 133 (.getfield 50) 3 136 := ⟨by decide +kernel, rfl⟩
theorem eX7_visit_136 : DC mX7_visit 136 (.aload_n 0) 1 137 := ⟨by decide +kernel, rfl⟩
theorem eX7_visit_137 : DC mX7_visit 137 (.getfield 89) 3 140 := ⟨by decide +kernel, rfl⟩
theorem eX7_visit_140 : DC mX7_visit 140 (.iconst 0) 1 141 := ⟨by decide +kernel, rfl⟩
theorem eX7_visit_141 : DC mX7_visit 141 .iastore 1 142 := ⟨by decide +kernel, rfl⟩
theorem eX7_visit_142 : DC mX7_visit 142 (.aload_n 0) 1 143 := ⟨by decide +kernel, rfl⟩
theorem eX7_visit_143 : DC mX7_visit 143 .dup 1 144 := ⟨by decide +kernel, rfl⟩
theorem eX7_visit_144 : DC mX7_visit 144 (.getfield 89) 3 147 := ⟨by decide +kernel, rfl⟩
theorem eX7_visit_147 : DC mX7_visit 147 (.iconst 1) 1 148 := ⟨by decide +kernel, rfl⟩
theorem eX7_visit_148 : DC mX7_visit 148 .iadd 1 149 := ⟨by decide +kernel, rfl⟩
theorem eX7_visit_149 : DC mX7_visit 149 (.putfield 89) 3 152 := ⟨by decide +kernel, rfl⟩
theorem eX7_visit_152 : DC mX7_visit 152 (.aload_n 0) 1 153 := ⟨by decide +kernel, rfl⟩
theorem eX7_visit_153 : DC mX7_visit 153 (.aload_n 0) 1 154 := ⟨by decide +kernel, rfl⟩
theorem eX7_visit_154 : DC mX7_visit 154 (.getfield 89) 3 157 := ⟨by decide +kernel, rfl⟩
theorem eX7_visit_157 : DC mX7_visit 157 (.iconst 1) 1 158 := ⟨by decide +kernel, rfl⟩
theorem eX7_visit_158 : DC mX7_visit 158 .isub 1 159 := ⟨by decide +kernel, rfl⟩
theorem eX7_visit_159 : DC mX7_visit 159 (.invokevirtual 96) 3 162 := ⟨by decide +kernel, rfl⟩
theorem eX7_visit_162 : DC mX7_visit 162 .ireturn 1 163 := ⟨by decide +kernel, rfl⟩
theorem eX7_tear_0 : DC mX7_tear 0 (.aload_n 0) 1 1 := ⟨by decide +kernel, rfl⟩
theorem eX7_tear_1 : DC mX7_tear 1 (.aload_n 0) 1 2 := ⟨by decide +kernel, rfl⟩
theorem eX7_tear_2 : DC mX7_tear 2 (.iload_n 1) 1 3 := ⟨by decide +kernel, rfl⟩
theorem eX7_tear_3 : DC mX7_tear 3 (.invokevirtual 113) 3 6 := ⟨by decide +kernel, rfl⟩
theorem eX7_tear_6 : DJ mX7_tear 6 (.ifCond .ne) 13 9 := ⟨7, by decide +kernel, by decide, rfl⟩
theorem eX7_tear_9 : DC mX7_tear 9 (.iconst 2) 1 10 := ⟨by decide +kernel, rfl⟩
theorem eX7_tear_10 : DJ mX7_tear 10 .goto 45 13 := ⟨35, by decide +kernel, by decide, rfl⟩
theorem eX7_tear_13 : DC mX7_tear 13 (.iload_n 2) 1 14 := ⟨by decide +kernel, rfl⟩
theorem eX7_tear_14 : DJ mX7_tear 14 (.ifCond .lt) 27 17 := ⟨13, by decide +kernel, by decide, rfl⟩
theorem eX7_tear_17 : DC mX7_tear 17 (.iload_n 2) 1 18 := ⟨by decide +kernel, rfl⟩
theorem eX7_tear_18 : DC mX7_tear 18 (.aload_n 0) 1 19 := ⟨by decide +kernel, rfl⟩
theorem eX7_tear_19 : DC mX7_tear 19 (.getfield 44) 3 22 := ⟨by decide +kernel, rfl⟩
theorem eX7_tear_22 : DC mX7_tear 22 (.iload_n 1) 1 23 := ⟨by decide +kernel, rfl⟩
theorem eX7_tear_23 : DC mX7_tear 23 .iaload 1 24 := ⟨by decide +kernel, rfl⟩
theorem eX7_tear_24 : DJ mX7_tear 24 (.if_icmp .le) 31 27 := ⟨7, by decide +kernel, by decide, rfl⟩
theorem eX7_tear_27 : DC mX7_tear 27 (.iconst 3) 1 28 := ⟨by decide +kernel, rfl⟩
theorem eX7_tear_28 : DJ mX7_tear 28 .goto 45 31 := ⟨17, by decide +kernel, by decide, rfl⟩
theorem eX7_tear_31 : DC mX7_tear 31 (.aload_n 0) 1 32 := ⟨by decide +kernel, rfl⟩
theorem eX7_tear_32 : DC mX7_tear 32 (.iload_n 1) 1 33 := ⟨by decide +kernel, rfl⟩
theorem eX7_tear_33 : DC mX7_tear 33 (.invokevirtual 116) 3 36 := ⟨by decide +kernel, rfl⟩
theorem eX7_tear_36 : DJ mX7_tear 36 (.ifCond .eq) 44 39 := ⟨8, by decide +kernel, by decide, rfl⟩
theorem eX7_tear_39 : DC mX7_tear 39 (.bipush 6) 2 41 := ⟨by decide +kernel, rfl⟩
theorem eX7_tear_41 : DJ mX7_tear 41 .goto 45 44 := ⟨4, by decide +kernel, by decide, rfl⟩
theorem eX7_tear_44 : DC mX7_tear 44 (.iconst 0) 1 45 := ⟨by decide +kernel, rfl⟩
theorem eX7_tear_45 : DC mX7_tear 45 (.putfield 80) 3 48 := ⟨by decide +kernel, rfl⟩
theorem eX7_tear_48 : DC mX7_tear 48 (.aload_n 0) 1 49 := ⟨by decide +kernel, rfl⟩
theorem eX7_tear_49 : DC mX7_tear 49 (.getfield 80) 3 52 := ⟨by decide +kernel, rfl⟩
theorem eX7_tear_52 : DJ mX7_tear 52 (.ifCond .ne) 62 55 := ⟨10, by decide +kernel, by decide, rfl⟩
theorem eX7_tear_55 : DC mX7_tear 55 (.aload_n 0) 1 56 := ⟨by decide +kernel, rfl⟩
theorem eX7_tear_56 : DC mX7_tear 56 (.getfield 44) 3 59 := ⟨by decide +kernel, rfl⟩
theorem eX7_tear_59 : DC mX7_tear 59 (.iload_n 1) 1 60 := ⟨by decide +kernel, rfl⟩
theorem eX7_tear_60 : DC mX7_tear 60 (.iload_n 2) 1 61 := ⟨by decide +kernel, rfl⟩
theorem eX7_tear_61 : DC mX7_tear 61 .iastore 1 62 := ⟨by decide +kernel, rfl⟩
theorem eX7_tear_62 : DC mX7_tear 62 (.aload_n 0) 1 63 := ⟨by decide +kernel, rfl⟩
theorem eX7_tear_63 : DC mX7_tear 63 (.getfield 80) 3 66 := ⟨by decide +kernel, rfl⟩
theorem eX7_tear_66 : DJ mX7_tear 66 (.ifCond .ne) 73 69 := ⟨7, by decide +kernel, by decide, rfl⟩
theorem eX7_tear_69 : DC mX7_tear 69 (.iconst 1) 1 70 := ⟨by decide +kernel, rfl⟩
theorem eX7_tear_70 : DJ mX7_tear 70 .goto 74 73 := ⟨4, by decide +kernel, by decide, rfl⟩
theorem eX7_tear_73 : DC mX7_tear 73 (.iconst 0) 1 74 := ⟨by decide +kernel, rfl⟩
theorem eX7_tear_74 : DC mX7_tear 74 .ireturn 1 75 := ⟨by decide +kernel, rfl⟩
theorem eX7_told_0 : DC mX7_told 0 (.aload_n 0) 1 1 := ⟨by decide +kernel, rfl⟩
theorem eX7_told_1 : DC mX7_told 1 (.iload_n 1) 1 2 := ⟨by decide +kernel, rfl⟩
theorem eX7_told_2 : DC mX7_told 2 (.invokevirtual 113) 3 5 := ⟨by decide +kernel, rfl⟩
theorem eX7_told_5 : DJ mX7_told 5 (.ifCond .ne) 14 8 := ⟨9, by decide +kernel, by decide, rfl⟩
theorem eX7_told_8 : DC mX7_told 8 (.aload_n 0) 1 9 := ⟨by decide +kernel, rfl⟩
theorem eX7_told_9 : DC mX7_told 9 (.iconst 2) 1 10 := ⟨by decide +kernel, rfl⟩
theorem eX7_told_10 : DC mX7_told 10 (.invokevirtual 92) 3 13 := ⟨by decide +kernel, rfl⟩
theorem eX7_told_13 : DC mX7_told 13 .ireturn 1 14 := ⟨by decide +kernel, rfl⟩
theorem eX7_told_14 : DC mX7_told 14 (.iload_n 2) 1 15 := ⟨by decide +kernel, rfl⟩
theorem eX7_told_15 : DJ mX7_told 15 (.ifCond .lt) 28 18 := ⟨13, by decide +kernel, by decide, rfl⟩
theorem eX7_told_18 : DC mX7_told 18 (.iload_n 2) 1 19 := ⟨by decide +kernel, rfl⟩
theorem eX7_told_19 : DC mX7_told 19 (.aload_n 0) 1 20 := ⟨by decide +kernel, rfl⟩
theorem eX7_told_20 : DC mX7_told 20 (.getfield 44) 3 23 := ⟨by decide +kernel, rfl⟩
theorem eX7_told_23 : DC mX7_told 23 (.iload_n 1) 1 24 := ⟨by decide +kernel, rfl⟩
theorem eX7_told_24 : DC mX7_told 24 .iaload 1 25 := ⟨by decide +kernel, rfl⟩
theorem eX7_told_25 : DJ mX7_told 25 (.if_icmp .lt) 36 28 := ⟨11, by decide +kernel, by decide, rfl⟩
theorem eX7_told_28 : DC mX7_told 28 (.aload_n 0) 1 29 := ⟨by decide +kernel, rfl⟩
theorem eX7_told_29 : DC mX7_told 29 (.iconst 3) 1 30 := ⟨by decide +kernel, rfl⟩
theorem eX7_told_30 : DC mX7_told 30 (.invokevirtual 92) 3 33 := ⟨by decide +kernel, rfl⟩
theorem eX7_told_33 : DJ mX7_told 33 .goto 50 36 := ⟨17, by decide +kernel, by decide, rfl⟩
theorem eX7_told_36 : DC mX7_told 36 (.aload_n 0) 1 37 := ⟨by decide +kernel, rfl⟩
theorem eX7_told_37 : DC mX7_told 37 (.aload_n 0) 1 38 := ⟨by decide +kernel, rfl⟩
theorem eX7_told_38 : DC mX7_told 38 (.getfield 47) 3 41 := ⟨by decide +kernel, rfl⟩
theorem eX7_told_41 : DC mX7_told 41 (.iconst 5) 1 42 := ⟨by decide +kernel, rfl⟩
theorem eX7_told_42 : DC mX7_told 42 (.iload_n 1) 1 43 := ⟨by decide +kernel, rfl⟩
theorem eX7_told_43 : DC mX7_told 43 .imul 1 44 := ⟨by decide +kernel, rfl⟩
theorem eX7_told_44 : DC mX7_told 44 (.iload_n 2) 1 45 := ⟨by decide +kernel, rfl⟩
theorem eX7_told_45 : DC mX7_told 45 .iadd 1 46 := ⟨by decide +kernel, rfl⟩
theorem eX7_told_46 : DC mX7_told 46 .iaload 1 47 := ⟨by decide +kernel, rfl⟩
theorem eX7_told_47 : DC mX7_told 47 (.invokevirtual 96) 3 50 := ⟨by decide +kernel, rfl⟩
theorem eX7_told_50 : DC mX7_told 50 .ireturn 1 51 := ⟨by decide +kernel, rfl⟩
theorem eX7_kindOf_0 : DC mX7_kindOf 0 (.aload_n 0) 1 1 := ⟨by decide +kernel, rfl⟩
theorem eX7_kindOf_1 : DC mX7_kindOf 1 (.getfield 47) 3 4 := ⟨by decide +kernel, rfl⟩
theorem eX7_kindOf_4 : DC mX7_kindOf 4 (.iconst 5) 1 5 := ⟨by decide +kernel, rfl⟩
theorem eX7_kindOf_5 : DC mX7_kindOf 5 (.iload_n 1) 1 6 := ⟨by decide +kernel, rfl⟩
theorem eX7_kindOf_6 : DC mX7_kindOf 6 .imul 1 7 := ⟨by decide +kernel, rfl⟩
theorem eX7_kindOf_7 : DC mX7_kindOf 7 .iaload 1 8 := ⟨by decide +kernel, rfl⟩
theorem eX7_kindOf_8 : DC mX7_kindOf 8 .ireturn 1 9 := ⟨by decide +kernel, rfl⟩
theorem eX7_wingOf_0 : DC mX7_wingOf 0 (.aload_n 0) 1 1 := ⟨by decide +kernel, rfl⟩
theorem eX7_wingOf_1 : DC mX7_wingOf 1 (.getfield 47) 3 4 := ⟨by decide +kernel, rfl⟩
theorem eX7_wingOf_4 : DC mX7_wingOf 4 (.iconst 5) 1 5 := ⟨by decide +kernel, rfl⟩
theorem eX7_wingOf_5 : DC mX7_wingOf 5 (.iload_n 1) 1 6 := ⟨by decide +kernel, rfl⟩
theorem eX7_wingOf_6 : DC mX7_wingOf 6 .imul 1 7 := ⟨by decide +kernel, rfl⟩
theorem eX7_wingOf_7 : DC mX7_wingOf 7 (.iconst 1) 1 8 := ⟨by decide +kernel, rfl⟩
theorem eX7_wingOf_8 : DC mX7_wingOf 8 .iadd 1 9 := ⟨by decide +kernel, rfl⟩
theorem eX7_wingOf_9 : DC mX7_wingOf 9 .iaload 1 10 := ⟨by decide +kernel, rfl⟩
theorem eX7_wingOf_10 : DC mX7_wingOf 10 .ireturn 1 11 := ⟨by decide +kernel, rfl⟩
theorem eX7_inOf_0 : DC mX7_inOf 0 (.aload_n 0) 1 1 := ⟨by decide +kernel, rfl⟩
theorem eX7_inOf_1 : DC mX7_inOf 1 (.getfield 47) 3 4 := ⟨by decide +kernel, rfl⟩
theorem eX7_inOf_4 : DC mX7_inOf 4 (.iconst 5) 1 5 := ⟨by decide +kernel, rfl⟩
theorem eX7_inOf_5 : DC mX7_inOf 5 (.iload_n 1) 1 6 := ⟨by decide +kernel, rfl⟩
theorem eX7_inOf_6 : DC mX7_inOf 6 .imul 1 7 := ⟨by decide +kernel, rfl⟩
theorem eX7_inOf_7 : DC mX7_inOf 7 (.iconst 2) 1 8 := ⟨by decide +kernel, rfl⟩
theorem eX7_inOf_8 : DC mX7_inOf 8 .iadd 1 9 := ⟨by decide +kernel, rfl⟩
theorem eX7_inOf_9 : DC mX7_inOf 9 .iaload 1 10 := ⟨by decide +kernel, rfl⟩
theorem eX7_inOf_10 : DC mX7_inOf 10 .ireturn 1 11 := ⟨by decide +kernel, rfl⟩
theorem eX7_outOf_0 : DC mX7_outOf 0 (.aload_n 0) 1 1 := ⟨by decide +kernel, rfl⟩
theorem eX7_outOf_1 : DC mX7_outOf 1 (.getfield 44) 3 4 := ⟨by decide +kernel, rfl⟩
theorem eX7_outOf_4 : DC mX7_outOf 4 (.iload_n 1) 1 5 := ⟨by decide +kernel, rfl⟩
theorem eX7_outOf_5 : DC mX7_outOf 5 .iaload 1 6 := ⟨by decide +kernel, rfl⟩
theorem eX7_outOf_6 : DC mX7_outOf 6 (.iconst 3) 1 7 := ⟨by decide +kernel, rfl⟩
theorem eX7_outOf_7 : DJ mX7_outOf 7 (.if_icmp .le) 23 10 := ⟨16, by decide +kernel, by decide, rfl⟩
theorem eX7_outOf_10 : DC mX7_outOf 10 (.aload_n 0) 1 11 := ⟨by decide +kernel, rfl⟩
theorem eX7_outOf_11 : DC mX7_outOf 11 (.getfield 47) 3 14 := ⟨by decide +kernel, rfl⟩
theorem eX7_outOf_14 : DC mX7_outOf 14 (.iconst 5) 1 15 := ⟨by decide +kernel, rfl⟩
theorem eX7_outOf_15 : DC mX7_outOf 15 (.iload_n 1) 1 16 := ⟨by decide +kernel, rfl⟩
theorem eX7_outOf_16 : DC mX7_outOf 16 .imul 1 17 := ⟨by decide +kernel, rfl⟩
theorem eX7_outOf_17 : DC mX7_outOf 17 (.iconst 3) 1 18 := ⟨by decide +kernel, rfl⟩
theorem eX7_outOf_18 : DC mX7_outOf 18 .iadd 1 19 := ⟨by decide +kernel, rfl⟩
theorem eX7_outOf_19 : DC mX7_outOf 19 .iaload 1 20 := ⟨by decide +kernel, rfl⟩
theorem eX7_outOf_20 : DJ mX7_outOf 20 .goto 26 23 := ⟨6, by decide +kernel, by decide, rfl⟩
theorem eX7_outOf_23 : DC mX7_outOf 23 (.sipush 2880) 3 26 := ⟨by decide +kernel, rfl⟩
theorem eX7_outOf_26 : DC mX7_outOf 26 .ireturn 1 27 := ⟨by decide +kernel, rfl⟩
theorem eX7_needOf_0 : DC mX7_needOf 0 (.aload_n 0) 1 1 := ⟨by decide +kernel, rfl⟩
theorem eX7_needOf_1 : DC mX7_needOf 1 (.getfield 44) 3 4 := ⟨by decide +kernel, rfl⟩
theorem eX7_needOf_4 : DC mX7_needOf 4 (.iload_n 1) 1 5 := ⟨by decide +kernel, rfl⟩
theorem eX7_needOf_5 : DC mX7_needOf 5 .iaload 1 6 := ⟨by decide +kernel, rfl⟩
theorem eX7_needOf_6 : DC mX7_needOf 6 (.iconst 4) 1 7 := ⟨by decide +kernel, rfl⟩
theorem eX7_needOf_7 : DJ mX7_needOf 7 (.if_icmp .le) 23 10 := ⟨16, by decide +kernel, by decide, rfl⟩
theorem eX7_needOf_10 : DC mX7_needOf 10 (.aload_n 0) 1 11 := ⟨by decide +kernel, rfl⟩
theorem eX7_needOf_11 : DC mX7_needOf 11 (.getfield 47) 3 14 := ⟨by decide +kernel, rfl⟩
theorem eX7_needOf_14 : DC mX7_needOf 14 (.iconst 5) 1 15 := ⟨by decide +kernel, rfl⟩
theorem eX7_needOf_15 : DC mX7_needOf 15 (.iload_n 1) 1 16 := ⟨by decide +kernel, rfl⟩
theorem eX7_needOf_16 : DC mX7_needOf 16 .imul 1 17 := ⟨by decide +kernel, rfl⟩
theorem eX7_needOf_17 : DC mX7_needOf 17 (.iconst 4) 1 18 := ⟨by decide +kernel, rfl⟩
theorem eX7_needOf_18 : DC mX7_needOf 18 .iadd 1 19 := ⟨by decide +kernel, rfl⟩
theorem eX7_needOf_19 : DC mX7_needOf 19 .iaload 1 20 := ⟨by decide +kernel, rfl⟩
theorem eX7_needOf_20 : DJ mX7_needOf 20 .goto 24 23 := ⟨4, by decide +kernel, by decide, rfl⟩
theorem eX7_needOf_23 : DC mX7_needOf 23 (.iconst 0) 1 24 := ⟨by decide +kernel, rfl⟩
theorem eX7_needOf_24 : DC mX7_needOf 24 .ireturn 1 25 := ⟨by decide +kernel, rfl⟩
theorem eX7_isUnknown_0 : DC mX7_isUnknown 0 (.aload_n 0) 1 1 := ⟨by decide +kernel, rfl⟩
theorem eX7_isUnknown_1 : DC mX7_isUnknown 1 (.getfield 44) 3 4 := ⟨by decide +kernel, rfl⟩
theorem eX7_isUnknown_4 : DC mX7_isUnknown 4 (.iload_n 1) 1 5 := ⟨by decide +kernel, rfl⟩
theorem eX7_isUnknown_5 : DC mX7_isUnknown 5 .iaload 1 6 := ⟨by decide +kernel, rfl⟩
theorem eX7_isUnknown_6 : DC mX7_isUnknown 6 (.iconst 3) 1 7 := ⟨by decide +kernel, rfl⟩
theorem eX7_isUnknown_7 : DJ mX7_isUnknown 7 (.if_icmp .ge) 14 10 := ⟨7, by decide +kernel, by decide, rfl⟩
theorem eX7_isUnknown_10 : DC mX7_isUnknown 10 (.iconst 1) 1 11 := ⟨by decide +kernel, rfl⟩
theorem eX7_isUnknown_11 : DJ mX7_isUnknown 11 .goto 15 14 := ⟨4, by decide +kernel, by decide, rfl⟩
theorem eX7_isUnknown_14 : DC mX7_isUnknown 14 (.iconst 0) 1 15 := ⟨by decide +kernel, rfl⟩
theorem eX7_isUnknown_15 : DC mX7_isUnknown 15 .ireturn 1 16 := ⟨by decide +kernel, rfl⟩
theorem eX7_isPut_0 : DC mX7_isPut 0 (.aload_n 0) 1 1 := ⟨by decide +kernel, rfl⟩
theorem eX7_isPut_1 : DC mX7_isPut 1 (.getfield 50) 3 4 := ⟨by decide +kernel, rfl⟩
theorem eX7_isPut_4 : DC mX7_isPut 4 (.iload_n 1) 1 5 := ⟨by decide +kernel, rfl⟩
theorem eX7_isPut_5 : DC mX7_isPut 5 .iaload 1 6 := ⟨by decide +kernel, rfl⟩
theorem eX7_isPut_6 : DJ mX7_isPut 6 (.ifCond .le) 13 9 := ⟨7, by decide +kernel, by decide, rfl⟩
theorem eX7_isPut_9 : DC mX7_isPut 9 (.iconst 1) 1 10 := ⟨by decide +kernel, rfl⟩
theorem eX7_isPut_10 : DJ mX7_isPut 10 .goto 14 13 := ⟨4, by decide +kernel, by decide, rfl⟩
theorem eX7_isPut_13 : DC mX7_isPut 13 (.iconst 0) 1 14 := ⟨by decide +kernel, rfl⟩
theorem eX7_isPut_14 : DC mX7_isPut 14 .ireturn 1 15 := ⟨by decide +kernel, rfl⟩
theorem eX7_hasBegun_0 : DC mX7_hasBegun 0 (.aload_n 0) 1 1 := ⟨by decide +kernel, rfl⟩
theorem eX7_hasBegun_1 : DC mX7_hasBegun 1 (.iload_n 1) 1 2 := ⟨by decide +kernel, rfl⟩
theorem eX7_hasBegun_2 : DC mX7_hasBegun 2 (.invokevirtual 119) 3 5 := ⟨by decide +kernel, rfl⟩
theorem eX7_hasBegun_5 : DC mX7_hasBegun 5 (.aload_n 0) 1 6 := ⟨by decide +kernel, rfl⟩
theorem eX7_hasBegun_6 : DC mX7_hasBegun 6 (.getfield 122) 3 9 := ⟨by decide +kernel, rfl⟩
theorem eX7_hasBegun_9 : DJ mX7_hasBegun 9 (.if_icmp .gt) 16 12 := ⟨7, by decide +kernel, by decide, rfl⟩
theorem eX7_hasBegun_12 : DC mX7_hasBegun 12 (.iconst 1) 1 13 := ⟨by decide +kernel, rfl⟩
theorem eX7_hasBegun_13 : DJ mX7_hasBegun 13 .goto 17 16 := ⟨4, by decide +kernel, by decide, rfl⟩
theorem eX7_hasBegun_16 : DC mX7_hasBegun 16 (.iconst 0) 1 17 := ⟨by decide +kernel, rfl⟩
theorem eX7_hasBegun_17 : DC mX7_hasBegun 17 .ireturn 1 18 := ⟨by decide +kernel, rfl⟩
theorem eX7_haveCommon_0 : DC mX7_haveCommon 0 (.iload_n 0) 1 1 := ⟨by decide +kernel, rfl⟩
theorem eX7_haveCommon_1 : DC mX7_haveCommon 1 (.iload_n 2) 1 2 := ⟨by decide +kernel, rfl⟩
theorem eX7_haveCommon_2 : DC mX7_haveCommon 2 (.invokestatic 125) 3 5 := ⟨by decide +kernel, rfl⟩
theorem eX7_haveCommon_5 : DC mX7_haveCommon 5 (.iload_n 1) 1 6 := ⟨by decide +kernel, rfl⟩
theorem eX7_haveCommon_6 : DC mX7_haveCommon 6 (.iload_n 3) 1 7 := ⟨by decide +kernel, rfl⟩
theorem eX7_haveCommon_7 : DC mX7_haveCommon 7 (.invokestatic 131) 3 10 := ⟨by decide +kernel, rfl⟩
theorem eX7_haveCommon_10 : DJ mX7_haveCommon 10 (.if_icmp .ge) 17 13 := ⟨7, by decide +kernel, by decide, rfl⟩
theorem eX7_haveCommon_13 : DC mX7_haveCommon 13 (.iconst 1) 1 14 := ⟨by decide +kernel, rfl⟩
theorem eX7_haveCommon_14 : DJ mX7_haveCommon 14 .goto 18 17 := ⟨4, by decide +kernel, by decide, rfl⟩
theorem eX7_haveCommon_17 : DC mX7_haveCommon 17 (.iconst 0) 1 18 := ⟨by decide +kernel, rfl⟩
theorem eX7_haveCommon_18 : DC mX7_haveCommon 18 .ireturn 1 19 := ⟨by decide +kernel, rfl⟩
theorem eX7_against_0 : DC mX7_against 0 (.aload_n 0) 1 1 := ⟨by decide +kernel, rfl⟩
theorem eX7_against_1 : DC mX7_against 1 (.iconst (-1)) 1 2 := ⟨by decide +kernel, rfl⟩
theorem eX7_against_2 : DC mX7_against 2 (.putfield 134) 3 5 := ⟨by decide +kernel, rfl⟩
theorem eX7_against_5 : DC mX7_against 5 (.iload_n 3) 1 6 := ⟨by decide +kernel, rfl⟩
theorem eX7_against_6 : DC mX7_against 6 (.aload_n 0) 1 7 := ⟨by decide +kernel, rfl⟩
theorem eX7_against_7 : DC mX7_against 7 (.getfield 20) 3 10 := ⟨by decide +kernel, rfl⟩
theorem eX7_against_10 : DC mX7_against 10 (.iload 5) 2 12 := ⟨by decide +kernel, rfl⟩
theorem eX7_against_12 : DC mX7_against 12 .iaload 1 13 := ⟨by decide +kernel, rfl⟩
theorem eX7_against_13 : DJ mX7_against 13 (.if_icmp .le) 18 16 := ⟨5, by decide +kernel, by decide, rfl⟩
theorem eX7_against_16 : DC mX7_against 16 (.iconst 1) 1 17 := ⟨by decide +kernel, rfl⟩
theorem eX7_against_17 : DC mX7_against 17 .ireturn 1 18 := ⟨by decide +kernel, rfl⟩
theorem eX7_against_18 : DC mX7_against 18 (.aload_n 0) 1 19 := ⟨by decide +kernel, rfl⟩
theorem eX7_against_19 : DC mX7_against 19 (.getfield 16) 3 22 := ⟨by decide +kernel, rfl⟩
theorem eX7_against_22 : DC mX7_against 22 (.iload 5) 2 24 := ⟨by decide +kernel, rfl⟩
theorem eX7_against_24 : DC mX7_against 24 .iaload 1 25 := ⟨by decide +kernel, rfl⟩
theorem eX7_against_25 : DC mX7_against 25 (.istore 8) 2 27 := ⟨by decide +kernel, rfl⟩
theorem eX7_against_27 : DC mX7_against 27 (.iload 8) 2 29 := ⟨by decide +kernel, rfl⟩
theorem eX7_against_29 : DC mX7_against 29 (.iconst 2) 1 30 := ⟨by decide +kernel, rfl⟩
theorem eX7_against_30 : DJ mX7_against 30 (.if_icmp .eq) 39 33 := ⟨9, by decide +kernel, by decide, rfl⟩
theorem eX7_against_33 : DC mX7_against 33 (.iload 8) 2 35 := ⟨by decide +kernel, rfl⟩
theorem eX7_against_35 : DC mX7_against 35 (.iconst 3) 1 36 := ⟨by decide +kernel, rfl⟩
theorem eX7_against_36 : DJ mX7_against 36 (.if_icmp .ne) 43 39 := ⟨7, by decide +kernel, by decide, rfl⟩
theorem eX7_against_39 : DC mX7_against 39 (.iconst 1) 1 40 := ⟨by decide +kernel, rfl⟩
theorem eX7_against_40 : DJ mX7_against 40 .goto 44 43 := ⟨4, by decide +kernel, by decide, rfl⟩
theorem eX7_against_43 : DC mX7_against 43 (.iconst 0) 1 44 := ⟨by decide +kernel, rfl⟩
theorem eX7_against_44 : DC mX7_against 44 (.istore 9) 2 46 := ⟨by decide +kernel, rfl⟩
theorem eX7_against_46 : DC mX7_against 46 (.iload 4) 2 48 := ⟨by decide +kernel, rfl⟩
theorem eX7_against_48 : DC mX7_against 48 (.iconst 1) 1 49 := ⟨by decide +kernel, rfl⟩
theorem eX7_against_49 : DJ mX7_against 49 (.if_icmp .ne) 57 52 := ⟨8, by decide +kernel, by decide, rfl⟩
theorem eX7_against_52 : DC mX7_against 52 (.iload 9) 2 54 := ⟨by decide +kernel, rfl⟩
theorem eX7_against_54 : DJ mX7_against 54 (.ifCond .eq) 116 57 := ⟨62, by decide +kernel, by decide, rfl⟩
theorem eX7_against_57 : DC mX7_against 57 (.iload 4) 2 59 := ⟨by decide +kernel, rfl⟩
theorem eX7_against_59 : DC mX7_against 59 (.iconst 2) 1 60 := ⟨by decide +kernel, rfl⟩
theorem eX7_against_60 : DJ mX7_against 60 (.if_icmp .ne) 69 63 := ⟨9, by decide +kernel, by decide, rfl⟩
theorem eX7_against_63 : DC mX7_against 63 (.iload 8) 2 65 := ⟨by decide +kernel, rfl⟩
theorem eX7_against_65 : DC mX7_against 65 (.iconst 5) 1 66 := ⟨by decide +kernel, rfl⟩
theorem eX7_against_66 : DJ mX7_against 66 (.if_icmp .ne) 116 69 := ⟨50, by decide +kernel, by decide, rfl⟩
theorem eX7_against_69 : DC mX7_against 69 (.iload_n 2) 1 70 := ⟨by decide +kernel, rfl⟩
theorem eX7_against_70 : DC mX7_against 70 (.iconst 3) 1 71 := ⟨by decide +kernel, rfl⟩
theorem eX7_against_71 : DJ mX7_against 71 (.if_icmp .ne) 79 74 := ⟨8, by decide +kernel, by decide, rfl⟩
theorem eX7_against_74 : DC mX7_against 74 (.iload 9) 2 76 := ⟨by decide +kernel, rfl⟩
theorem eX7_against_76 : DJ mX7_against 76 (.ifCond .ne) 116 79 := ⟨40, by decide +kernel, by decide, rfl⟩
theorem eX7_against_79 : DC mX7_against 79 (.iload_n 2) 1 80 := ⟨by decide +kernel, rfl⟩
theorem eX7_against_80 : DC mX7_against 80 (.iconst 2) 1 81 := ⟨by decide +kernel, rfl⟩
theorem eX7_against_81 : DJ mX7_against 81 (.if_icmp .ne) 90 84 := ⟨9, by decide +kernel, by decide, rfl⟩
theorem eX7_against_84 : DC mX7_against 84 (.iload 8) 2 86 := ⟨by decide +kernel, rfl⟩
theorem eX7_against_86 : DC mX7_against 86 (.iconst 5) 1 87 := ⟨by decide +kernel, rfl⟩
theorem eX7_against_87 : DJ mX7_against 87 (.if_icmp .eq) 116 90 := ⟨29, by decide +kernel, by decide, rfl⟩
theorem eX7_against_90 : DC mX7_against 90 (.iload_n 2) 1 91 := ⟨by decide +kernel, rfl⟩
theorem eX7_against_91 : DC mX7_against 91 (.iconst 4) 1 92 := ⟨by decide +kernel, rfl⟩
theorem eX7_against_92 : DJ mX7_against 92 (.if_icmp .ne) 118 95 := ⟨26, by decide +kernel, by decide, rfl⟩
theorem eX7_against_95 : DC mX7_against 95 (.iload 9) 2 97 := ⟨by decide +kernel, rfl⟩
theorem eX7_against_97 : DJ mX7_against 97 (.ifCond .eq) 118 100 := ⟨21, by decide +kernel, by decide, rfl⟩
theorem eX7_against_100 : DC mX7_against 100 (.iload 6) 2 102 := ⟨by decide +kernel, rfl⟩
theorem eX7_against_102 : DC mX7_against 102 (.iload 7) 2 104 := ⟨by decide +kernel, rfl⟩
theorem eX7_against_104 : DC mX7_against 104 (.sipush 1320) 3 107 := ⟨by decide +kernel, rfl⟩
theorem eX7_against_107 : DC mX7_against 107 (.sipush 1560) 3 110 := ⟨by decide +kernel, rfl⟩
theorem eX7_against_110 : DC mX7_against 110 (.invokestatic 137) 3 113 := ⟨by decide +kernel, rfl⟩
theorem eX7_against_113 : DJ mX7_against 113 (.ifCond .eq) 118 116 := ⟨5, by decide +kernel, by decide, rfl⟩
theorem eX7_against_116 : DC mX7_against 116 (.iconst 2) 1 117 := ⟨by decide +kernel, rfl⟩
theorem eX7_against_117 : DC mX7_against 117 .ireturn 1 118 := ⟨by decide +kernel, rfl⟩
theorem eX7_against_118 : DC mX7_against 118 (.iconst 0) 1 119 := ⟨by decide +kernel, rfl⟩
theorem eX7_against_119 : DC mX7_against 119 (.istore 10) 2 121 := ⟨by decide +kernel, rfl⟩
theorem eX7_against_121 : DC mX7_against 121 (.iload 10) 2 123 := ⟨by decide +kernel, rfl⟩
theorem eX7_against_123 : DC mX7_against 123 (.aload_n 0) 1 124 := ⟨by decide +kernel, rfl⟩
theorem eX7_against_124 : DC mX7_against 124 (.getfield 89) 3 127 := ⟨by decide +kernel, rfl⟩
theorem eX7_against_127 : DJ mX7_against 127 (.if_icmp .ge) 169 130 := ⟨42, by decide +kernel, by decide, rfl⟩
theorem eX7_against_130 : DC mX7_against 130 (.iload 10) 2 132 := ⟨by decide +kernel, rfl⟩
theorem eX7_against_132 : DC mX7_against 132 (.iload_n 1) 1 133 := ⟨by decide +kernel, rfl⟩
theorem eX7_against_133 : DJ mX7_against 133 (.if_icmp .eq) 163 136 := ⟨30, by decide +kernel, by decide, rfl⟩
theorem eX7_against_136 : DC mX7_against 136 (.aload_n 0) 1 137 := ⟨by decide +kernel, rfl⟩
theorem eX7_against_137 : DC mX7_against 137 (.iload 10) 2 139 := ⟨by decide +kernel, rfl⟩
theorem eX7_against_139 : DC mX7_against 139 (.iload_n 3) 1 140 := ⟨by decide +kernel, rfl⟩
theorem eX7_against_140 : DC mX7_against 140 (.iload 5) 2 142 := ⟨by decide +kernel, rfl⟩
theorem eX7_against_142 : DC mX7_against 142 (.iload 6) 2 144 := ⟨by decide +kernel, rfl⟩
theorem eX7_against_144 : DC mX7_against 144 (.iload 7) 2 146 := ⟨by decide +kernel, rfl⟩
theorem eX7_against_146 : DC mX7_against 146 (.invokevirtual 141) 3 149 := ⟨by decide +kernel, rfl⟩
theorem eX7_against_149 : DJ mX7_against 149 (.ifCond .ne) 155 152 := ⟨6, by decide +kernel, by decide, rfl⟩
theorem eX7_against_152 : DJ mX7_against 152 .goto 163 155 := ⟨11, by decide +kernel, by decide, rfl⟩
theorem eX7_against_155 : DC mX7_against 155 (.aload_n 0) 1 156 := ⟨by decide +kernel, rfl⟩
theorem eX7_against_156 : DC mX7_against 156 (.iload 10) 2 158 := ⟨by decide +kernel, rfl⟩
theorem eX7_against_158 : DC mX7_against 158 (.putfield 134) 3 161 := ⟨by decide +kernel, rfl⟩
theorem eX7_against_161 : DC mX7_against 161 (.iconst 3) 1 162 := ⟨by decide +kernel, rfl⟩
theorem eX7_against_162 : DC mX7_against 162 .ireturn 1 163 := ⟨by decide +kernel, rfl⟩
theorem eX7_against_163 : DC mX7_against 163 (.iinc 10 1) 3 166 := ⟨by decide +kernel, rfl⟩
theorem eX7_against_166 : DJ mX7_against 166 .goto 121 169 := ⟨(-45), by decide +kernel, by decide, rfl⟩
theorem eX7_against_169 : DC mX7_against 169 (.iconst 0) 1 170 := ⟨by decide +kernel, rfl⟩
theorem eX7_against_170 : DC mX7_against 170 (.istore 10) 2 172 := ⟨by decide +kernel, rfl⟩
theorem eX7_against_172 : DC mX7_against 172 (.iload 10) 2 174 := ⟨by decide +kernel, rfl⟩
theorem eX7_against_174 : DC mX7_against 174 (.aload_n 0) 1 175 := ⟨by decide +kernel, rfl⟩
theorem eX7_against_175 : DC mX7_against 175 (.getfield 110) 3 178 := ⟨by decide +kernel, rfl⟩
theorem eX7_against_178 : DJ mX7_against 178 (.if_icmp .ge) 234 181 := ⟨56, by decide +kernel, by decide, rfl⟩
theorem eX7_against_181 : DC mX7_against 181 (.aload_n 0) 1 182 := ⟨by decide +kernel, rfl⟩
theorem eX7_against_182 : DC mX7_against 182 (.getfield 35) 3 185 := ⟨by decide +kernel, rfl⟩
theorem eX7_against_185 : DC mX7_against 185 (.iload 10) 2 187 := ⟨by decide +kernel, rfl⟩
theorem eX7_against_187 : DC mX7_against 187 .iaload 1 188 := ⟨by decide +kernel, rfl⟩
theorem eX7_against_188 : DC mX7_against 188 (.iload 5) 2 190 := ⟨by decide +kernel, rfl⟩
theorem eX7_against_190 : DJ mX7_against 190 (.if_icmp .ne) 228 193 := ⟨38, by decide +kernel, by decide, rfl⟩
theorem eX7_against_193 : DC mX7_against 193 (.iload 6) 2 195 := ⟨by decide +kernel, rfl⟩
theorem eX7_against_195 : DC mX7_against 195 (.iload 7) 2 197 := ⟨by decide +kernel, rfl⟩
theorem eX7_against_197 : DC mX7_against 197 (.aload_n 0) 1 198 := ⟨by decide +kernel, rfl⟩
theorem eX7_against_198 : DC mX7_against 198 (.getfield 38) 3 201 := ⟨by decide +kernel, rfl⟩
theorem eX7_against_201 : DC mX7_against 201 (.iload 10) 2 203 := ⟨by decide +kernel, rfl⟩
theorem eX7_against_203 : DC mX7_against 203 .iaload 1 204 := ⟨by decide +kernel, rfl⟩
theorem eX7_against_204 : DC mX7_against 204 (.aload_n 0) 1 205 := ⟨by decide +kernel, rfl⟩
theorem eX7_against_205 : DC mX7_against 205 (.getfield 41) 3 208 := ⟨by decide +kernel, rfl⟩
theorem eX7_against_208 : DC mX7_against 208 (.iload 10) 2 210 := ⟨by decide +kernel, rfl⟩
theorem eX7_against_210 : DC mX7_against 210 .iaload 1 211 := ⟨by decide +kernel, rfl⟩
theorem eX7_against_211 : DC mX7_against 211 (.invokestatic 137) 3 214 := ⟨by decide +kernel, rfl⟩
theorem eX7_against_214 : DJ mX7_against 214 (.ifCond .ne) 220 217 := ⟨6, by decide +kernel, by decide, rfl⟩
theorem eX7_against_217 : DJ mX7_against 217 .goto 228 220 := ⟨11, by decide +kernel, by decide, rfl⟩
theorem eX7_against_220 : DC mX7_against 220 (.aload_n 0) 1 221 := ⟨by decide +kernel, rfl⟩
theorem eX7_against_221 : DC mX7_against 221 (.iload 10) 2 223 := ⟨by decide +kernel, rfl⟩
theorem eX7_against_223 : DC mX7_against 223 (.putfield 134) 3 226 := ⟨by decide +kernel, rfl⟩
theorem eX7_against_226 : DC mX7_against 226 (.iconst 4) 1 227 := ⟨by decide +kernel, rfl⟩
theorem eX7_against_227 : DC mX7_against 227 .ireturn 1 228 := ⟨by decide +kernel, rfl⟩
theorem eX7_against_228 : DC mX7_against 228 (.iinc 10 1) 3 231 := ⟨by decide +kernel, rfl⟩
theorem eX7_against_231 : DJ mX7_against 231 .goto 172 234 := ⟨(-59), by decide +kernel, by decide, rfl⟩
theorem eX7_against_234 : DC mX7_against 234 (.iconst 0) 1 235 := ⟨by decide +kernel, rfl⟩
theorem eX7_against_235 : DC mX7_against 235 (.istore 10) 2 237 := ⟨by decide +kernel, rfl⟩
theorem eX7_against_237 : DC mX7_against 237 (.iload 10) 2 239 := ⟨by decide +kernel, rfl⟩
theorem eX7_against_239 : DC mX7_against 239 (.aload_n 0) 1 240 := ⟨by decide +kernel, rfl⟩
theorem eX7_against_240 : DC mX7_against 240 (.getfield 89) 3 243 := ⟨by decide +kernel, rfl⟩
theorem eX7_against_243 : DJ mX7_against 243 (.if_icmp .ge) 286 246 := ⟨43, by decide +kernel, by decide, rfl⟩
theorem eX7_against_246 : DC mX7_against 246 (.iload 10) 2 248 := ⟨by decide +kernel, rfl⟩
theorem eX7_against_248 : DC mX7_against 248 (.iload_n 1) 1 249 := ⟨by decide +kernel, rfl⟩
theorem eX7_against_249 : DJ mX7_against 249 (.if_icmp .eq) 280 252 := ⟨31, by decide +kernel, by decide, rfl⟩
theorem eX7_against_252 : DC mX7_against 252 (.aload_n 0) 1 253 := ⟨by decide +kernel, rfl⟩
theorem eX7_against_253 : DC mX7_against 253 (.iload 10) 2 255 := ⟨by decide +kernel, rfl⟩
theorem eX7_against_255 : DC mX7_against 255 (.iload_n 1) 1 256 := ⟨by decide +kernel, rfl⟩
theorem eX7_against_256 : DC mX7_against 256 (.iload_n 3) 1 257 := ⟨by decide +kernel, rfl⟩
theorem eX7_against_257 : DC mX7_against 257 (.iload 5) 2 259 := ⟨by decide +kernel, rfl⟩
theorem eX7_against_259 : DC mX7_against 259 (.iload 6) 2 261 := ⟨by decide +kernel, rfl⟩
theorem eX7_against_261 : DC mX7_against 261 (.iload 7) 2 263 := ⟨by decide +kernel, rfl⟩
theorem eX7_against_263 : DC mX7_against 263 (.invokevirtual 145) 3 266 := ⟨by decide +kernel, rfl⟩
theorem eX7_against_266 : DJ mX7_against 266 (.ifCond .ne) 272 269 := ⟨6, by decide +kernel, by decide, rfl⟩
theorem eX7_against_269 : DJ mX7_against 269 .goto 280 272 := ⟨11, by decide +kernel, by decide, rfl⟩
theorem eX7_against_272 : DC mX7_against 272 (.aload_n 0) 1 273 := ⟨by decide +kernel, rfl⟩
theorem eX7_against_273 : DC mX7_against 273 (.iload 10) 2 275 := ⟨by decide +kernel, rfl⟩
theorem eX7_against_275 : DC mX7_against 275 (.putfield 134) 3 278 := ⟨by decide +kernel, rfl⟩
theorem eX7_against_278 : DC mX7_against 278 (.iconst 5) 1 279 := ⟨by decide +kernel, rfl⟩
theorem eX7_against_279 : DC mX7_against 279 .ireturn 1 280 := ⟨by decide +kernel, rfl⟩
theorem eX7_against_280 : DC mX7_against 280 (.iinc 10 1) 3 283 := ⟨by decide +kernel, rfl⟩
theorem eX7_against_283 : DJ mX7_against 283 .goto 237 286 := ⟨(-46), by decide +kernel, by decide, rfl⟩
theorem eX7_against_286 : DC mX7_against 286 (.iconst 0) 1 287 := ⟨by decide +kernel, rfl⟩
theorem eX7_against_287 : DC mX7_against 287 .ireturn 1 288 := ⟨by decide +kernel, rfl⟩
theorem eX7_isNeighbour_0 : DC mX7_isNeighbour 0 (.iconst 0) 1 1 := ⟨by decide +kernel, rfl⟩
theorem eX7_isNeighbour_1 : DC mX7_isNeighbour 1 (.istore 6) 2 3 := ⟨by decide +kernel, rfl⟩
theorem eX7_isNeighbour_3 : DC mX7_isNeighbour 3 (.iload 6) 2 5 := ⟨by decide +kernel, rfl⟩
theorem eX7_isNeighbour_5 : DC mX7_isNeighbour 5 (.aload_n 0) 1 6 := ⟨by decide +kernel, rfl⟩
theorem eX7_isNeighbour_6 : DC mX7_isNeighbour 6 (.getfield 50) 3 9 := ⟨by decide +kernel, rfl⟩
theorem eX7_isNeighbour_9 : DC mX7_isNeighbour 9 (.iload_n 1) 1 10 := ⟨by decide +kernel, rfl⟩
theorem eX7_isNeighbour_10 : DC mX7_isNeighbour 10 .iaload 1 11 := ⟨by decide +kernel, rfl⟩
theorem eX7_isNeighbour_11 : DJ mX7_isNeighbour 11 (.if_icmp .ge) 223 14 := ⟨212, by decide +kernel, by decide, rfl⟩
theorem eX7_isNeighbour_14 : DC mX7_isNeighbour 14 (.bipush 8) 2 16 := ⟨by decide +kernel, rfl⟩
theorem eX7_isNeighbour_16 : DC mX7_isNeighbour 16 (.iload_n 1) 1 17 := ⟨by decide +kernel, rfl⟩
theorem eX7_isNeighbour_17 : DC mX7_isNeighbour 17 .imul 1 18 := ⟨by decide +kernel, rfl⟩
theorem eX7_isNeighbour_18 : DC mX7_isNeighbour 18 (.iload 6) 2 20 := ⟨by decide +kernel, rfl⟩
theorem eX7_isNeighbour_20 : DC mX7_isNeighbour 20 .iadd 1 21 := ⟨by decide +kernel, rfl⟩
theorem eX7_isNeighbour_21 : DC mX7_isNeighbour 21 (.istore 7) 2 23 := ⟨by decide +kernel, rfl⟩
theorem eX7_isNeighbour_23 : DC mX7_isNeighbour 23 (.iload 4) 2 25 := ⟨by decide +kernel, rfl⟩
theorem eX7_isNeighbour_25 : DC mX7_isNeighbour 25 (.iload 5) 2 27 := ⟨by decide +kernel, rfl⟩
theorem eX7_isNeighbour_27 : DC mX7_isNeighbour 27 (.aload_n 0) 1 28 := ⟨by decide +kernel, rfl⟩
theorem eX7_isNeighbour_28 : DC mX7_isNeighbour 28 (.getfield 56) 3 31 := ⟨by decide +kernel, rfl⟩
theorem eX7_isNeighbour_31 : DC mX7_isNeighbour 31 (.iload 7) 2 33 := ⟨by decide +kernel, rfl⟩
theorem eX7_isNeighbour_33 : DC mX7_isNeighbour 33 .iaload 1 34 := ⟨by decide +kernel, rfl⟩
theorem eX7_isNeighbour_34 : DC mX7_isNeighbour 34 (.aload_n 0) 1 35 := ⟨by decide +kernel, rfl⟩
theorem eX7_isNeighbour_35 : DC mX7_isNeighbour 35 (.getfield 59) 3 38 := ⟨by decide +kernel, rfl⟩
theorem eX7_isNeighbour_38 : DC mX7_isNeighbour 38 (.iload 7) 2 40 := ⟨by decide +kernel, rfl⟩
theorem eX7_isNeighbour_40 : DC mX7_isNeighbour 40 .iaload 1 41 := ⟨by decide +kernel, rfl⟩
theorem eX7_isNeighbour_41 : DC mX7_isNeighbour 41 (.invokestatic 137) 3 44 := ⟨by decide +kernel, rfl⟩
theorem eX7_isNeighbour_44 : DJ mX7_isNeighbour 44 (.ifCond .ne) 50 47 := ⟨6, by decide +kernel, by decide, rfl⟩
theorem eX7_isNeighbour_47 : DJ mX7_isNeighbour 47 .goto 217 50 := ⟨170, by decide +kernel, by decide, rfl⟩
theorem eX7_isNeighbour_50 : DC mX7_isNeighbour 50 (.iconst 0) 1 51 := ⟨by decide +kernel, rfl⟩
theorem eX7_isNeighbour_51 : DC mX7_isNeighbour 51 (.istore 8) 2 53 := ⟨by decide +kernel, rfl⟩
theorem eX7_isNeighbour_53 : DC mX7_isNeighbour 53 (.iload 8) 2 55 := ⟨by decide +kernel, rfl⟩
theorem eX7_isNeighbour_55 : DC mX7_isNeighbour 55 (.aload_n 0) 1 56 := ⟨by decide +kernel, rfl⟩
theorem eX7_isNeighbour_56 : DC mX7_isNeighbour 56 (.getfield 103) 3 59 := ⟨by decide +kernel, rfl⟩
theorem eX7_isNeighbour_59 : DJ mX7_isNeighbour 59 (.if_icmp .ge) 217 62 := ⟨158, by decide +kernel, by decide, rfl⟩
theorem eX7_isNeighbour_62 : DC mX7_isNeighbour 62 (.aload_n 0) 1 63 := ⟨by decide +kernel, rfl⟩
theorem eX7_isNeighbour_63 : DC mX7_isNeighbour 63 (.getfield 23) 3 66 := ⟨by decide +kernel, rfl⟩
theorem eX7_isNeighbour_66 : DC mX7_isNeighbour 66 (.iload 8) 2 68 := ⟨by decide +kernel, rfl⟩
theorem eX7_isNeighbour_68 : DC mX7_isNeighbour 68 .iaload 1 69 := ⟨by decide +kernel, rfl⟩
theorem eX7_isNeighbour_69 : DC mX7_isNeighbour 69 (.iload_n 3) 1 70 := ⟨by decide +kernel, rfl⟩
theorem eX7_isNeighbour_70 : DJ mX7_isNeighbour 70 (.if_icmp .ne) 94 73 := ⟨24, by decide +kernel, by decide, rfl⟩
theorem eX7_isNeighbour_73 : DC mX7_isNeighbour 73 (.aload_n 0) 1 74 := ⟨by decide +kernel, rfl⟩
theorem eX7_isNeighbour_74 : DC mX7_isNeighbour 74 (.getfield 26) 3 77 := ⟨by decide +kernel, rfl⟩
theorem eX7_isNeighbour_77 : DC mX7_isNeighbour 77 (.iload 8) 2 79 := ⟨by decide +kernel, rfl⟩
theorem eX7_isNeighbour_79 : DC mX7_isNeighbour 79 .iaload 1 80 := ⟨by decide +kernel, rfl⟩
theorem eX7_isNeighbour_80 : DC mX7_isNeighbour 80 (.aload_n 0) 1 81 := ⟨by decide +kernel, rfl⟩
theorem eX7_isNeighbour_81 : DC mX7_isNeighbour 81 (.getfield 53) 3 84 := ⟨by decide +kernel, rfl⟩
theorem eX7_isNeighbour_84 : DC mX7_isNeighbour 84 (.iload 7) 2 86 := ⟨by decide +kernel, rfl⟩
theorem eX7_isNeighbour_86 : DC mX7_isNeighbour 86 .iaload 1 87 := ⟨by decide +kernel, rfl⟩
theorem eX7_isNeighbour_87 : DJ mX7_isNeighbour 87 (.if_icmp .ne) 94 90 := ⟨7, by decide +kernel, by decide, rfl⟩
theorem eX7_isNeighbour_90 : DC mX7_isNeighbour 90 (.iconst 1) 1 91 := ⟨by decide +kernel, rfl⟩
theorem eX7_isNeighbour_91 : DJ mX7_isNeighbour 91 .goto 95 94 := ⟨4, by decide +kernel, by decide, rfl⟩
theorem eX7_isNeighbour_94 : DC mX7_isNeighbour 94 (.iconst 0) 1 95 := ⟨by decide +kernel, rfl⟩
theorem eX7_isNeighbour_95 : DC mX7_isNeighbour 95 (.istore 9) 2 97 := ⟨by decide +kernel, rfl⟩
theorem eX7_isNeighbour_97 : DC mX7_isNeighbour 97 (.aload_n 0) 1 98 := ⟨by decide +kernel, rfl⟩
theorem eX7_isNeighbour_98 : DC mX7_isNeighbour 98 (.getfield 26) 3 101 := ⟨by decide +kernel, rfl⟩
theorem eX7_isNeighbour_101 : DC mX7_isNeighbour 101 (.iload 8) 2 103 := ⟨by decide +kernel, rfl⟩
theorem eX7_isNeighbour_103 : DC mX7_isNeighbour 103 .iaload 1 104 := ⟨by decide +kernel, rfl⟩
theorem eX7_isNeighbour_104 : DC mX7_isNeighbour 104 (.iload_n 3) 1 105 := ⟨by decide +kernel, rfl⟩
theorem eX7_isNeighbour_105 : DJ mX7_isNeighbour 105 (.if_icmp .ne) 129 108 := ⟨24, by decide +kernel, by decide, rfl⟩
theorem eX7_isNeighbour_108 : DC mX7_isNeighbour 108 (.aload_n 0) 1 109 := ⟨by decide +kernel, rfl⟩
theorem eX7_isNeighbour_109 : DC mX7_isNeighbour 109 (.getfield 23) 3 112 := ⟨by decide +kernel, rfl⟩
theorem eX7_isNeighbour_112 : DC mX7_isNeighbour 112 (.iload 8) 2 114 := ⟨by decide +kernel, rfl⟩
theorem eX7_isNeighbour_114 : DC mX7_isNeighbour 114 .iaload 1 115 := ⟨by decide +kernel, rfl⟩
theorem eX7_isNeighbour_115 : DC mX7_isNeighbour 115 (.aload_n 0) 1 116 := ⟨by decide +kernel, rfl⟩
theorem eX7_isNeighbour_116 : DC mX7_isNeighbour 116 (.getfield 53) 3 119 := ⟨by decide +kernel, rfl⟩
theorem eX7_isNeighbour_119 : DC mX7_isNeighbour 119 (.iload 7) 2 121 := ⟨by decide +kernel, rfl⟩
theorem eX7_isNeighbour_121 : DC mX7_isNeighbour 121 .iaload 1 122 := ⟨by decide +kernel, rfl⟩
theorem eX7_isNeighbour_122 : DJ mX7_isNeighbour 122 (.if_icmp .ne) 129 125 := ⟨7, by decide +kernel, by decide, rfl⟩
theorem eX7_isNeighbour_125 : DC mX7_isNeighbour 125 (.iconst 1) 1 126 := ⟨by decide +kernel, rfl⟩
theorem eX7_isNeighbour_126 : DJ mX7_isNeighbour 126 .goto 130 129 := ⟨4, by decide +kernel, by decide, rfl⟩
theorem eX7_isNeighbour_129 : DC mX7_isNeighbour 129 (.iconst 0) 1 130 := ⟨by decide +kernel, rfl⟩
theorem eX7_isNeighbour_130 : DC mX7_isNeighbour 130 (.istore 10) 2 132 := ⟨by decide +kernel, rfl⟩
theorem eX7_isNeighbour_132 : DC mX7_isNeighbour 132 (.iload 9) 2 134 := ⟨by decide +kernel, rfl⟩
theorem eX7_isNeighbour_134 : DJ mX7_isNeighbour 134 (.ifCond .ne) 145 137 := ⟨11, by decide +kernel, by decide, rfl⟩
theorem eX7_isNeighbour_137 : DC mX7_isNeighbour 137 (.iload 10) 2 139 := ⟨by decide +kernel, rfl⟩
theorem eX7_isNeighbour_139 : DJ mX7_isNeighbour 139 (.ifCond .ne) 145 142 := ⟨6, by decide +kernel, by decide, rfl⟩
theorem eX7_isNeighbour_142 : DJ mX7_isNeighbour 142 .goto 211 145 := ⟨69, by decide +kernel, by decide, rfl⟩
theorem eX7_isNeighbour_145 : DC mX7_isNeighbour 145 (.iload 9) 2 147 := ⟨by decide +kernel, rfl⟩
theorem eX7_isNeighbour_147 : DJ mX7_isNeighbour 147 (.ifCond .eq) 160 150 := ⟨13, by decide +kernel, by decide, rfl⟩
theorem eX7_isNeighbour_150 : DC mX7_isNeighbour 150 (.aload_n 0) 1 151 := ⟨by decide +kernel, rfl⟩
theorem eX7_isNeighbour_151 : DC mX7_isNeighbour 151 (.getfield 29) 3 154 := ⟨by decide +kernel, rfl⟩
theorem eX7_isNeighbour_154 : DC mX7_isNeighbour 154 (.iload 8) 2 156 := ⟨by decide +kernel, rfl⟩
theorem eX7_isNeighbour_156 : DC mX7_isNeighbour 156 .iaload 1 157 := ⟨by decide +kernel, rfl⟩
theorem eX7_isNeighbour_157 : DJ mX7_isNeighbour 157 .goto 167 160 := ⟨10, by decide +kernel, by decide, rfl⟩
theorem eX7_isNeighbour_160 : DC mX7_isNeighbour 160 (.aload_n 0) 1 161 := ⟨by decide +kernel, rfl⟩
theorem eX7_isNeighbour_161 : DC mX7_isNeighbour 161 (.getfield 32) 3 164 := ⟨by decide +kernel, rfl⟩
theorem eX7_isNeighbour_164 : DC mX7_isNeighbour 164 (.iload 8) 2 166 := ⟨by decide +kernel, rfl⟩
theorem eX7_isNeighbour_166 : DC mX7_isNeighbour 166 .iaload 1 167 := ⟨by decide +kernel, rfl⟩
theorem eX7_isNeighbour_167 : DC mX7_isNeighbour 167 (.istore 11) 2 169 := ⟨by decide +kernel, rfl⟩
theorem eX7_isNeighbour_169 : DC mX7_isNeighbour 169 (.iload 9) 2 171 := ⟨by decide +kernel, rfl⟩
theorem eX7_isNeighbour_171 : DJ mX7_isNeighbour 171 (.ifCond .eq) 184 174 := ⟨13, by decide +kernel, by decide, rfl⟩
theorem eX7_isNeighbour_174 : DC mX7_isNeighbour 174 (.aload_n 0) 1 175 := ⟨by decide +kernel, rfl⟩
theorem eX7_isNeighbour_175 : DC mX7_isNeighbour 175 (.getfield 32) 3 178 := ⟨by decide +kernel, rfl⟩
theorem eX7_isNeighbour_178 : DC mX7_isNeighbour 178 (.iload 8) 2 180 := ⟨by decide +kernel, rfl⟩
theorem eX7_isNeighbour_180 : DC mX7_isNeighbour 180 .iaload 1 181 := ⟨by decide +kernel, rfl⟩
theorem eX7_isNeighbour_181 : DJ mX7_isNeighbour 181 .goto 191 184 := ⟨10, by decide +kernel, by decide, rfl⟩
theorem eX7_isNeighbour_184 : DC mX7_isNeighbour 184 (.aload_n 0) 1 185 := ⟨by decide +kernel, rfl⟩
theorem eX7_isNeighbour_185 : DC mX7_isNeighbour 185 (.getfield 29) 3 188 := ⟨by decide +kernel, rfl⟩
theorem eX7_isNeighbour_188 : DC mX7_isNeighbour 188 (.iload 8) 2 190 := ⟨by decide +kernel, rfl⟩
theorem eX7_isNeighbour_190 : DC mX7_isNeighbour 190 .iaload 1 191 := ⟨by decide +kernel, rfl⟩
theorem eX7_isNeighbour_191 : DC mX7_isNeighbour 191 (.istore 12) 2 193 := ⟨by decide +kernel, rfl⟩
theorem eX7_isNeighbour_193 : DC mX7_isNeighbour 193 (.iload_n 2) 1 194 := ⟨by decide +kernel, rfl⟩
theorem eX7_isNeighbour_194 : DC mX7_isNeighbour 194 (.iload 11) 2 196 := ⟨by decide +kernel, rfl⟩
theorem eX7_isNeighbour_196 : DJ mX7_isNeighbour 196 (.if_icmp .gt) 209 199 := ⟨13, by decide +kernel, by decide, rfl⟩
theorem eX7_isNeighbour_199 : DC mX7_isNeighbour 199 (.aload_n 0) 1 200 := ⟨by decide +kernel, rfl⟩
theorem eX7_isNeighbour_200 : DC mX7_isNeighbour 200 (.iload_n 1) 1 201 := ⟨by decide +kernel, rfl⟩
theorem eX7_isNeighbour_201 : DC mX7_isNeighbour 201 (.invokevirtual 149) 3 204 := ⟨by decide +kernel, rfl⟩
theorem eX7_isNeighbour_204 : DC mX7_isNeighbour 204 (.iload 12) 2 206 := ⟨by decide +kernel, rfl⟩
theorem eX7_isNeighbour_206 : DJ mX7_isNeighbour 206 (.if_icmp .le) 211 209 := ⟨5, by decide +kernel, by decide, rfl⟩
theorem eX7_isNeighbour_209 : DC mX7_isNeighbour 209 (.iconst 1) 1 210 := ⟨by decide +kernel, rfl⟩
theorem eX7_isNeighbour_210 : DC mX7_isNeighbour 210 .ireturn 1 211 := ⟨by decide +kernel, rfl⟩
theorem eX7_isNeighbour_211 : DC mX7_isNeighbour 211 (.iinc 8 1) 3 214 := ⟨by decide +kernel, rfl⟩
theorem eX7_isNeighbour_214 : DJ mX7_isNeighbour 214 .goto 53 217 := ⟨(-161), by decide +kernel, by decide, rfl⟩
theorem eX7_isNeighbour_217 : DC mX7_isNeighbour 217 (.iinc 6 1) 3 220 := ⟨by decide +kernel, rfl⟩
theorem eX7_isNeighbour_220 : DJ mX7_isNeighbour 220 .goto 3 223 := ⟨(-217), by decide +kernel, by decide, rfl⟩
theorem eX7_isNeighbour_223 : DC mX7_isNeighbour 223 (.iconst 0) 1 224 := ⟨by decide +kernel, rfl⟩
theorem eX7_isNeighbour_224 : DC mX7_isNeighbour 224 .ireturn 1 225 := ⟨by decide +kernel, rfl⟩
theorem eX7_takes_0 : DC mX7_takes 0 (.aload_n 0) 1 1 := ⟨by decide +kernel, rfl⟩
theorem eX7_takes_1 : DC mX7_takes 1 (.getfield 20) 3 4 := ⟨by decide +kernel, rfl⟩
theorem eX7_takes_4 : DC mX7_takes 4 (.iload 4) 2 6 := ⟨by decide +kernel, rfl⟩
theorem eX7_takes_6 : DC mX7_takes 6 .iaload 1 7 := ⟨by decide +kernel, rfl⟩
theorem eX7_takes_7 : DC mX7_takes 7 (.iconst 2) 1 8 := ⟨by decide +kernel, rfl⟩
theorem eX7_takes_8 : DC mX7_takes 8 .idiv 1 9 := ⟨by decide +kernel, rfl⟩
theorem eX7_takes_9 : DC mX7_takes 9 (.istore 7) 2 11 := ⟨by decide +kernel, rfl⟩
theorem eX7_takes_11 : DC mX7_takes 11 (.aload_n 0) 1 12 := ⟨by decide +kernel, rfl⟩
theorem eX7_takes_12 : DC mX7_takes 12 (.getfield 16) 3 15 := ⟨by decide +kernel, rfl⟩
theorem eX7_takes_15 : DC mX7_takes 15 (.iload 4) 2 17 := ⟨by decide +kernel, rfl⟩
theorem eX7_takes_17 : DC mX7_takes 17 .iaload 1 18 := ⟨by decide +kernel, rfl⟩
theorem eX7_takes_18 : DC mX7_takes 18 (.iconst 3) 1 19 := ⟨by decide +kernel, rfl⟩
theorem eX7_takes_19 : DJ mX7_takes 19 (.if_icmp .ne) 42 22 := ⟨23, by decide +kernel, by decide, rfl⟩
theorem eX7_takes_22 : DC mX7_takes 22 (.iload_n 3) 1 23 := ⟨by decide +kernel, rfl⟩
theorem eX7_takes_23 : DC mX7_takes 23 (.iload 7) 2 25 := ⟨by decide +kernel, rfl⟩
theorem eX7_takes_25 : DJ mX7_takes 25 (.if_icmp .gt) 42 28 := ⟨17, by decide +kernel, by decide, rfl⟩
theorem eX7_takes_28 : DC mX7_takes 28 (.aload_n 0) 1 29 := ⟨by decide +kernel, rfl⟩
theorem eX7_takes_29 : DC mX7_takes 29 (.iload_n 1) 1 30 := ⟨by decide +kernel, rfl⟩
theorem eX7_takes_30 : DC mX7_takes 30 (.invokevirtual 149) 3 33 := ⟨by decide +kernel, rfl⟩
theorem eX7_takes_33 : DC mX7_takes 33 (.iload 7) 2 35 := ⟨by decide +kernel, rfl⟩
theorem eX7_takes_35 : DJ mX7_takes 35 (.if_icmp .gt) 42 38 := ⟨7, by decide +kernel, by decide, rfl⟩
theorem eX7_takes_38 : DC mX7_takes 38 (.iconst 1) 1 39 := ⟨by decide +kernel, rfl⟩
theorem eX7_takes_39 : DJ mX7_takes 39 .goto 43 42 := ⟨4, by decide +kernel, by decide, rfl⟩
theorem eX7_takes_42 : DC mX7_takes 42 (.iconst 0) 1 43 := ⟨by decide +kernel, rfl⟩
theorem eX7_takes_43 : DC mX7_takes 43 (.istore 8) 2 45 := ⟨by decide +kernel, rfl⟩
theorem eX7_takes_45 : DC mX7_takes 45 (.iconst 0) 1 46 := ⟨by decide +kernel, rfl⟩
theorem eX7_takes_46 : DC mX7_takes 46 (.istore 9) 2 48 := ⟨by decide +kernel, rfl⟩
theorem eX7_takes_48 : DC mX7_takes 48 (.iload 9) 2 50 := ⟨by decide +kernel, rfl⟩
theorem eX7_takes_50 : DC mX7_takes 50 (.aload_n 0) 1 51 := ⟨by decide +kernel, rfl⟩
theorem eX7_takes_51 : DC mX7_takes 51 (.getfield 50) 3 54 := ⟨by decide +kernel, rfl⟩
theorem eX7_takes_54 : DC mX7_takes 54 (.iload_n 1) 1 55 := ⟨by decide +kernel, rfl⟩
theorem eX7_takes_55 : DC mX7_takes 55 .iaload 1 56 := ⟨by decide +kernel, rfl⟩
theorem eX7_takes_56 : DJ mX7_takes 56 (.if_icmp .ge) 155 59 := ⟨99, by decide +kernel, by decide, rfl⟩
theorem eX7_takes_59 : DC mX7_takes 59 (.bipush 8) 2 61 := ⟨by decide +kernel, rfl⟩
theorem eX7_takes_61 : DC mX7_takes 61 (.iload_n 1) 1 62 := ⟨by decide +kernel, rfl⟩
theorem eX7_takes_62 : DC mX7_takes 62 .imul 1 63 := ⟨by decide +kernel, rfl⟩
theorem eX7_takes_63 : DC mX7_takes 63 (.iload 9) 2 65 := ⟨by decide +kernel, rfl⟩
theorem eX7_takes_65 : DC mX7_takes 65 .iadd 1 66 := ⟨by decide +kernel, rfl⟩
theorem eX7_takes_66 : DC mX7_takes 66 (.istore 10) 2 68 := ⟨by decide +kernel, rfl⟩
theorem eX7_takes_68 : DC mX7_takes 68 (.aload_n 0) 1 69 := ⟨by decide +kernel, rfl⟩
theorem eX7_takes_69 : DC mX7_takes 69 (.getfield 53) 3 72 := ⟨by decide +kernel, rfl⟩
theorem eX7_takes_72 : DC mX7_takes 72 (.iload 10) 2 74 := ⟨by decide +kernel, rfl⟩
theorem eX7_takes_74 : DC mX7_takes 74 .iaload 1 75 := ⟨by decide +kernel, rfl⟩
theorem eX7_takes_75 : DC mX7_takes 75 (.iload 4) 2 77 := ⟨by decide +kernel, rfl⟩
theorem eX7_takes_77 : DJ mX7_takes 77 (.if_icmp .ne) 149 80 := ⟨72, by decide +kernel, by decide, rfl⟩
theorem eX7_takes_80 : DC mX7_takes 80 (.iload 5) 2 82 := ⟨by decide +kernel, rfl⟩
theorem eX7_takes_82 : DC mX7_takes 82 (.iload 6) 2 84 := ⟨by decide +kernel, rfl⟩
theorem eX7_takes_84 : DC mX7_takes 84 (.aload_n 0) 1 85 := ⟨by decide +kernel, rfl⟩
theorem eX7_takes_85 : DC mX7_takes 85 (.getfield 56) 3 88 := ⟨by decide +kernel, rfl⟩
theorem eX7_takes_88 : DC mX7_takes 88 (.iload 10) 2 90 := ⟨by decide +kernel, rfl⟩
theorem eX7_takes_90 : DC mX7_takes 90 .iaload 1 91 := ⟨by decide +kernel, rfl⟩
theorem eX7_takes_91 : DC mX7_takes 91 (.aload_n 0) 1 92 := ⟨by decide +kernel, rfl⟩
theorem eX7_takes_92 : DC mX7_takes 92 (.getfield 59) 3 95 := ⟨by decide +kernel, rfl⟩
theorem eX7_takes_95 : DC mX7_takes 95 (.iload 10) 2 97 := ⟨by decide +kernel, rfl⟩
theorem eX7_takes_97 : DC mX7_takes 97 .iaload 1 98 := ⟨by decide +kernel, rfl⟩
theorem eX7_takes_98 : DC mX7_takes 98 (.invokestatic 137) 3 101 := ⟨by decide +kernel, rfl⟩
theorem eX7_takes_101 : DJ mX7_takes 101 (.ifCond .ne) 107 104 := ⟨6, by decide +kernel, by decide, rfl⟩
theorem eX7_takes_104 : DJ mX7_takes 104 .goto 149 107 := ⟨45, by decide +kernel, by decide, rfl⟩
theorem eX7_takes_107 : DC mX7_takes 107 (.iload 8) 2 109 := ⟨by decide +kernel, rfl⟩
theorem eX7_takes_109 : DJ mX7_takes 109 (.ifCond .eq) 147 112 := ⟨38, by decide +kernel, by decide, rfl⟩
theorem eX7_takes_112 : DC mX7_takes 112 (.aload_n 0) 1 113 := ⟨by decide +kernel, rfl⟩
theorem eX7_takes_113 : DC mX7_takes 113 (.iload_n 1) 1 114 := ⟨by decide +kernel, rfl⟩
theorem eX7_takes_114 : DC mX7_takes 114 (.iload_n 2) 1 115 := ⟨by decide +kernel, rfl⟩
theorem eX7_takes_115 : DC mX7_takes 115 (.iload 4) 2 117 := ⟨by decide +kernel, rfl⟩
theorem eX7_takes_117 : DC mX7_takes 117 (.iload 5) 2 119 := ⟨by decide +kernel, rfl⟩
theorem eX7_takes_119 : DC mX7_takes 119 (.aload_n 0) 1 120 := ⟨by decide +kernel, rfl⟩
theorem eX7_takes_120 : DC mX7_takes 120 (.getfield 56) 3 123 := ⟨by decide +kernel, rfl⟩
theorem eX7_takes_123 : DC mX7_takes 123 (.iload 10) 2 125 := ⟨by decide +kernel, rfl⟩
theorem eX7_takes_125 : DC mX7_takes 125 .iaload 1 126 := ⟨by decide +kernel, rfl⟩
theorem eX7_takes_126 : DC mX7_takes 126 (.invokestatic 125) 3 129 := ⟨by decide +kernel, rfl⟩
theorem eX7_takes_129 : DC mX7_takes 129 (.iload 6) 2 131 := ⟨by decide +kernel, rfl⟩
theorem eX7_takes_131 : DC mX7_takes 131 (.aload_n 0) 1 132 := ⟨by decide +kernel, rfl⟩
theorem eX7_takes_132 : DC mX7_takes 132 (.getfield 59) 3 135 := ⟨by decide +kernel, rfl⟩
theorem eX7_takes_135 : DC mX7_takes 135 (.iload 10) 2 137 := ⟨by decide +kernel, rfl⟩
theorem eX7_takes_137 : DC mX7_takes 137 .iaload 1 138 := ⟨by decide +kernel, rfl⟩
theorem eX7_takes_138 : DC mX7_takes 138 (.invokestatic 131) 3 141 := ⟨by decide +kernel, rfl⟩
theorem eX7_takes_141 : DC mX7_takes 141 (.invokevirtual 152) 3 144 := ⟨by decide +kernel, rfl⟩
theorem eX7_takes_144 : DJ mX7_takes 144 (.ifCond .eq) 149 147 := ⟨5, by decide +kernel, by decide, rfl⟩
theorem eX7_takes_147 : DC mX7_takes 147 (.iconst 1) 1 148 := ⟨by decide +kernel, rfl⟩
theorem eX7_takes_148 : DC mX7_takes 148 .ireturn 1 149 := ⟨by decide +kernel, rfl⟩
theorem eX7_takes_149 : DC mX7_takes 149 (.iinc 9 1) 3 152 := ⟨by decide +kernel, rfl⟩
theorem eX7_takes_152 : DJ mX7_takes 152 .goto 48 155 := ⟨(-104), by decide +kernel, by decide, rfl⟩
theorem eX7_takes_155 : DC mX7_takes 155 (.iconst 0) 1 156 := ⟨by decide +kernel, rfl⟩
theorem eX7_takes_156 : DC mX7_takes 156 .ireturn 1 157 := ⟨by decide +kernel, rfl⟩
theorem eX7_isThird_0 : DC mX7_isThird 0 (.iconst 0) 1 1 := ⟨by decide +kernel, rfl⟩
theorem eX7_isThird_1 : DC mX7_isThird 1 (.istore 6) 2 3 := ⟨by decide +kernel, rfl⟩
theorem eX7_isThird_3 : DC mX7_isThird 3 (.iload 6) 2 5 := ⟨by decide +kernel, rfl⟩
theorem eX7_isThird_5 : DC mX7_isThird 5 (.aload_n 0) 1 6 := ⟨by decide +kernel, rfl⟩
theorem eX7_isThird_6 : DC mX7_isThird 6 (.getfield 89) 3 9 := ⟨by decide +kernel, rfl⟩
theorem eX7_isThird_9 : DJ mX7_isThird 9 (.if_icmp .ge) 106 12 := ⟨97, by decide +kernel, by decide, rfl⟩
theorem eX7_isThird_12 : DC mX7_isThird 12 (.iconst 0) 1 13 := ⟨by decide +kernel, rfl⟩
theorem eX7_isThird_13 : DC mX7_isThird 13 (.istore 7) 2 15 := ⟨by decide +kernel, rfl⟩
theorem eX7_isThird_15 : DC mX7_isThird 15 (.iload 7) 2 17 := ⟨by decide +kernel, rfl⟩
theorem eX7_isThird_17 : DC mX7_isThird 17 (.aload_n 0) 1 18 := ⟨by decide +kernel, rfl⟩
theorem eX7_isThird_18 : DC mX7_isThird 18 (.getfield 50) 3 21 := ⟨by decide +kernel, rfl⟩
theorem eX7_isThird_21 : DC mX7_isThird 21 (.iload 6) 2 23 := ⟨by decide +kernel, rfl⟩
theorem eX7_isThird_23 : DC mX7_isThird 23 .iaload 1 24 := ⟨by decide +kernel, rfl⟩
theorem eX7_isThird_24 : DJ mX7_isThird 24 (.if_icmp .ge) 100 27 := ⟨76, by decide +kernel, by decide, rfl⟩
theorem eX7_isThird_27 : DC mX7_isThird 27 (.iload 6) 2 29 := ⟨by decide +kernel, rfl⟩
theorem eX7_isThird_29 : DC mX7_isThird 29 (.iload_n 1) 1 30 := ⟨by decide +kernel, rfl⟩
theorem eX7_isThird_30 : DJ mX7_isThird 30 (.if_icmp .eq) 100 33 := ⟨70, by decide +kernel, by decide, rfl⟩
theorem eX7_isThird_33 : DC mX7_isThird 33 (.iload 6) 2 35 := ⟨by decide +kernel, rfl⟩
theorem eX7_isThird_35 : DC mX7_isThird 35 (.iload_n 2) 1 36 := ⟨by decide +kernel, rfl⟩
theorem eX7_isThird_36 : DJ mX7_isThird 36 (.if_icmp .eq) 100 39 := ⟨64, by decide +kernel, by decide, rfl⟩
theorem eX7_isThird_39 : DC mX7_isThird 39 (.aload_n 0) 1 40 := ⟨by decide +kernel, rfl⟩
theorem eX7_isThird_40 : DC mX7_isThird 40 (.getfield 53) 3 43 := ⟨by decide +kernel, rfl⟩
theorem eX7_isThird_43 : DC mX7_isThird 43 (.bipush 8) 2 45 := ⟨by decide +kernel, rfl⟩
theorem eX7_isThird_45 : DC mX7_isThird 45 (.iload 6) 2 47 := ⟨by decide +kernel, rfl⟩
theorem eX7_isThird_47 : DC mX7_isThird 47 .imul 1 48 := ⟨by decide +kernel, rfl⟩
theorem eX7_isThird_48 : DC mX7_isThird 48 (.iload 7) 2 50 := ⟨by decide +kernel, rfl⟩
theorem eX7_isThird_50 : DC mX7_isThird 50 .iadd 1 51 := ⟨by decide +kernel, rfl⟩
theorem eX7_isThird_51 : DC mX7_isThird 51 .iaload 1 52 := ⟨by decide +kernel, rfl⟩
theorem eX7_isThird_52 : DC mX7_isThird 52 (.iload_n 3) 1 53 := ⟨by decide +kernel, rfl⟩
theorem eX7_isThird_53 : DJ mX7_isThird 53 (.if_icmp .ne) 94 56 := ⟨41, by decide +kernel, by decide, rfl⟩
theorem eX7_isThird_56 : DC mX7_isThird 56 (.iload 4) 2 58 := ⟨by decide +kernel, rfl⟩
theorem eX7_isThird_58 : DC mX7_isThird 58 (.iload 5) 2 60 := ⟨by decide +kernel, rfl⟩
theorem eX7_isThird_60 : DC mX7_isThird 60 (.aload_n 0) 1 61 := ⟨by decide +kernel, rfl⟩
theorem eX7_isThird_61 : DC mX7_isThird 61 (.getfield 56) 3 64 := ⟨by decide +kernel, rfl⟩
theorem eX7_isThird_64 : DC mX7_isThird 64 (.bipush 8) 2 66 := ⟨by decide +kernel, rfl⟩
theorem eX7_isThird_66 : DC mX7_isThird 66 (.iload 6) 2 68 := ⟨by decide +kernel, rfl⟩
theorem eX7_isThird_68 : DC mX7_isThird 68 .imul 1 69 := ⟨by decide +kernel, rfl⟩
theorem eX7_isThird_69 : DC mX7_isThird 69 (.iload 7) 2 71 := ⟨by decide +kernel, rfl⟩
theorem eX7_isThird_71 : DC mX7_isThird 71 .iadd 1 72 := ⟨by decide +kernel, rfl⟩
theorem eX7_isThird_72 : DC mX7_isThird 72 .iaload 1 73 := ⟨by decide +kernel, rfl⟩
theorem eX7_isThird_73 : DC mX7_isThird 73 (.aload_n 0) 1 74 := ⟨by decide +kernel, rfl⟩
theorem eX7_isThird_74 : DC mX7_isThird 74 (.getfield 59) 3 77 := ⟨by decide +kernel, rfl⟩
theorem eX7_isThird_77 : DC mX7_isThird 77 (.bipush 8) 2 79 := ⟨by decide +kernel, rfl⟩
theorem eX7_isThird_79 : DC mX7_isThird 79 (.iload 6) 2 81 := ⟨by decide +kernel, rfl⟩
theorem eX7_isThird_81 : DC mX7_isThird 81 .imul 1 82 := ⟨by decide +kernel, rfl⟩
theorem eX7_isThird_82 : DC mX7_isThird 82 (.iload 7) 2 84 := ⟨by decide +kernel, rfl⟩
theorem eX7_isThird_84 : DC mX7_isThird 84 .iadd 1 85 := ⟨by decide +kernel, rfl⟩
theorem eX7_isThird_85 : DC mX7_isThird 85 .iaload 1 86 := ⟨by decide +kernel, rfl⟩
theorem eX7_isThird_86 : DC mX7_isThird 86 (.invokestatic 137) 3 89 := ⟨by decide +kernel, rfl⟩
theorem eX7_isThird_89 : DJ mX7_isThird 89 (.ifCond .eq) 94 92 := ⟨5, by decide +kernel, by decide, rfl⟩
theorem eX7_isThird_92 : DC mX7_isThird 92 (.iconst 1) 1 93 := ⟨by decide +kernel, rfl⟩
theorem eX7_isThird_93 : DC mX7_isThird 93 .ireturn 1 94 := ⟨by decide +kernel, rfl⟩
theorem eX7_isThird_94 : DC mX7_isThird 94 (.iinc 7 1) 3 97 := ⟨by decide +kernel, rfl⟩
theorem eX7_isThird_97 : DJ mX7_isThird 97 .goto 15 100 := ⟨(-82), by decide +kernel, by decide, rfl⟩
theorem eX7_isThird_100 : DC mX7_isThird 100 (.iinc 6 1) 3 103 := ⟨by decide +kernel, rfl⟩
theorem eX7_isThird_103 : DJ mX7_isThird 103 .goto 3 106 := ⟨(-100), by decide +kernel, by decide, rfl⟩
theorem eX7_isThird_106 : DC mX7_isThird 106 (.iconst 0) 1 107 := ⟨by decide +kernel, rfl⟩
theorem eX7_isThird_107 : DC mX7_isThird 107 .ireturn 1 108 := ⟨by decide +kernel, rfl⟩
theorem eX7_againstOf_0 : DC mX7_againstOf 0 (.aload_n 0) 1 1 := ⟨by decide +kernel, rfl⟩
theorem eX7_againstOf_1 : DC mX7_againstOf 1 (.iload_n 1) 1 2 := ⟨by decide +kernel, rfl⟩
theorem eX7_againstOf_2 : DC mX7_againstOf 2 (.aload_n 0) 1 3 := ⟨by decide +kernel, rfl⟩
theorem eX7_againstOf_3 : DC mX7_againstOf 3 (.iload_n 1) 1 4 := ⟨by decide +kernel, rfl⟩
theorem eX7_againstOf_4 : DC mX7_againstOf 4 (.invokevirtual 155) 3 7 := ⟨by decide +kernel, rfl⟩
theorem eX7_againstOf_7 : DC mX7_againstOf 7 (.aload_n 0) 1 8 := ⟨by decide +kernel, rfl⟩
theorem eX7_againstOf_8 : DC mX7_againstOf 8 (.iload_n 1) 1 9 := ⟨by decide +kernel, rfl⟩
theorem eX7_againstOf_9 : DC mX7_againstOf 9 (.invokevirtual 149) 3 12 := ⟨by decide +kernel, rfl⟩
theorem eX7_againstOf_12 : DC mX7_againstOf 12 (.aload_n 0) 1 13 := ⟨by decide +kernel, rfl⟩
theorem eX7_againstOf_13 : DC mX7_againstOf 13 (.iload_n 1) 1 14 := ⟨by decide +kernel, rfl⟩
theorem eX7_againstOf_14 : DC mX7_againstOf 14 (.invokevirtual 158) 3 17 := ⟨by decide +kernel, rfl⟩
theorem eX7_againstOf_17 : DC mX7_againstOf 17 (.iload_n 2) 1 18 := ⟨by decide +kernel, rfl⟩
theorem eX7_againstOf_18 : DC mX7_againstOf 18 (.iload_n 3) 1 19 := ⟨by decide +kernel, rfl⟩
theorem eX7_againstOf_19 : DC mX7_againstOf 19 (.iload 4) 2 21 := ⟨by decide +kernel, rfl⟩
theorem eX7_againstOf_21 : DC mX7_againstOf 21 (.invokevirtual 161) 3 24 := ⟨by decide +kernel, rfl⟩
theorem eX7_againstOf_24 : DC mX7_againstOf 24 .ireturn 1 25 := ⟨by decide +kernel, rfl⟩
theorem eX7_isAgainst_0 : DC mX7_isAgainst 0 (.iload_n 1) 1 1 := ⟨by decide +kernel, rfl⟩
theorem eX7_isAgainst_1 : DJ mX7_isAgainst 1 (.ifCond .ne) 6 4 := ⟨5, by decide +kernel, by decide, rfl⟩
theorem eX7_isAgainst_4 : DC mX7_isAgainst 4 (.iconst 0) 1 5 := ⟨by decide +kernel, rfl⟩
theorem eX7_isAgainst_5 : DC mX7_isAgainst 5 .ireturn 1 6 := ⟨by decide +kernel, rfl⟩
theorem eX7_isAgainst_6 : DC mX7_isAgainst 6 (.aload_n 0) 1 7 := ⟨by decide +kernel, rfl⟩
theorem eX7_isAgainst_7 : DC mX7_isAgainst 7 (.iload_n 1) 1 8 := ⟨by decide +kernel, rfl⟩
theorem eX7_isAgainst_8 : DC mX7_isAgainst 8 (.putfield 83) 3 11 := ⟨by decide +kernel, rfl⟩
theorem eX7_isAgainst_11 : DC mX7_isAgainst 11 (.aload_n 0) 1 12 := ⟨by decide +kernel, rfl⟩
theorem eX7_isAgainst_12 : DC mX7_isAgainst 12 (.aload_n 0) 1 13 := ⟨by decide +kernel, rfl⟩
theorem eX7_isAgainst_13 : DC mX7_isAgainst 13 (.getfield 134) 3 16 := ⟨by decide +kernel, rfl⟩
theorem eX7_isAgainst_16 : DC mX7_isAgainst 16 (.putfield 9) 3 19 := ⟨by decide +kernel, rfl⟩
theorem eX7_isAgainst_19 : DC mX7_isAgainst 19 (.iconst 1) 1 20 := ⟨by decide +kernel, rfl⟩
theorem eX7_isAgainst_20 : DC mX7_isAgainst 20 .ireturn 1 21 := ⟨by decide +kernel, rfl⟩
theorem eX7_rank_0 : DC mX7_rank 0 (.iload_n 1) 1 1 := ⟨by decide +kernel, rfl⟩
theorem eX7_rank_1 : DC mX7_rank 1 (.iconst 3) 1 2 := ⟨by decide +kernel, rfl⟩
theorem eX7_rank_2 : DJ mX7_rank 2 (.if_icmp .ne) 35 5 := ⟨33, by decide +kernel, by decide, rfl⟩
theorem eX7_rank_5 : DC mX7_rank 5 (.iload_n 2) 1 6 := ⟨by decide +kernel, rfl⟩
theorem eX7_rank_6 : DC mX7_rank 6 (.iconst 4) 1 7 := ⟨by decide +kernel, rfl⟩
theorem eX7_rank_7 : DJ mX7_rank 7 (.if_icmp .ne) 14 10 := ⟨7, by decide +kernel, by decide, rfl⟩
theorem eX7_rank_10 : DC mX7_rank 10 (.iconst 0) 1 11 := ⟨by decide +kernel, rfl⟩
theorem eX7_rank_11 : DJ mX7_rank 11 .goto 34 14 := ⟨23, by decide +kernel, by decide, rfl⟩
theorem eX7_rank_14 : DC mX7_rank 14 (.iload_n 2) 1 15 := ⟨by decide +kernel, rfl⟩
theorem eX7_rank_15 : DC mX7_rank 15 (.iconst 1) 1 16 := ⟨by decide +kernel, rfl⟩
theorem eX7_rank_16 : DJ mX7_rank 16 (.if_icmp .ne) 23 19 := ⟨7, by decide +kernel, by decide, rfl⟩
theorem eX7_rank_19 : DC mX7_rank 19 (.iconst 1) 1 20 := ⟨by decide +kernel, rfl⟩
theorem eX7_rank_20 : DJ mX7_rank 20 .goto 34 23 := ⟨14, by decide +kernel, by decide, rfl⟩
theorem eX7_rank_23 : DC mX7_rank 23 (.iload_n 2) 1 24 := ⟨by decide +kernel, rfl⟩
theorem eX7_rank_24 : DC mX7_rank 24 (.iconst 5) 1 25 := ⟨by decide +kernel, rfl⟩
theorem eX7_rank_25 : DJ mX7_rank 25 (.if_icmp .ne) 32 28 := ⟨7, by decide +kernel, by decide, rfl⟩
theorem eX7_rank_28 : DC mX7_rank 28 (.iconst 2) 1 29 := ⟨by decide +kernel, rfl⟩
theorem eX7_rank_29 : DJ mX7_rank 29 .goto 34 32 := ⟨5, by decide +kernel, by decide, rfl⟩
theorem eX7_rank_32 : DC mX7_rank 32 (.bipush 9) 2 34 := ⟨by decide +kernel, rfl⟩
theorem eX7_rank_34 : DC mX7_rank 34 .ireturn 1 35 := ⟨by decide +kernel, rfl⟩
theorem eX7_rank_35 : DC mX7_rank 35 (.iload_n 2) 1 36 := ⟨by decide +kernel, rfl⟩
theorem eX7_rank_36 : DC mX7_rank 36 (.iconst 2) 1 37 := ⟨by decide +kernel, rfl⟩
theorem eX7_rank_37 : DJ mX7_rank 37 (.if_icmp .ne) 44 40 := ⟨7, by decide +kernel, by decide, rfl⟩
theorem eX7_rank_40 : DC mX7_rank 40 (.iconst 0) 1 41 := ⟨by decide +kernel, rfl⟩
theorem eX7_rank_41 : DJ mX7_rank 41 .goto 72 44 := ⟨31, by decide +kernel, by decide, rfl⟩
theorem eX7_rank_44 : DC mX7_rank 44 (.iload_n 2) 1 45 := ⟨by decide +kernel, rfl⟩
theorem eX7_rank_45 : DC mX7_rank 45 (.iconst 3) 1 46 := ⟨by decide +kernel, rfl⟩
theorem eX7_rank_46 : DJ mX7_rank 46 (.if_icmp .ne) 53 49 := ⟨7, by decide +kernel, by decide, rfl⟩
theorem eX7_rank_49 : DC mX7_rank 49 (.iconst 1) 1 50 := ⟨by decide +kernel, rfl⟩
theorem eX7_rank_50 : DJ mX7_rank 50 .goto 72 53 := ⟨22, by decide +kernel, by decide, rfl⟩
theorem eX7_rank_53 : DC mX7_rank 53 (.iload_n 2) 1 54 := ⟨by decide +kernel, rfl⟩
theorem eX7_rank_54 : DC mX7_rank 54 (.iconst 1) 1 55 := ⟨by decide +kernel, rfl⟩
theorem eX7_rank_55 : DJ mX7_rank 55 (.if_icmp .ne) 62 58 := ⟨7, by decide +kernel, by decide, rfl⟩
theorem eX7_rank_58 : DC mX7_rank 58 (.iconst 2) 1 59 := ⟨by decide +kernel, rfl⟩
theorem eX7_rank_59 : DJ mX7_rank 59 .goto 72 62 := ⟨13, by decide +kernel, by decide, rfl⟩
theorem eX7_rank_62 : DC mX7_rank 62 (.iload_n 2) 1 63 := ⟨by decide +kernel, rfl⟩
theorem eX7_rank_63 : DC mX7_rank 63 (.iconst 4) 1 64 := ⟨by decide +kernel, rfl⟩
theorem eX7_rank_64 : DJ mX7_rank 64 (.if_icmp .ne) 71 67 := ⟨7, by decide +kernel, by decide, rfl⟩
theorem eX7_rank_67 : DC mX7_rank 67 (.iconst 3) 1 68 := ⟨by decide +kernel, rfl⟩
theorem eX7_rank_68 : DJ mX7_rank 68 .goto 72 71 := ⟨4, by decide +kernel, by decide, rfl⟩
theorem eX7_rank_71 : DC mX7_rank 71 (.iconst 4) 1 72 := ⟨by decide +kernel, rfl⟩
theorem eX7_rank_72 : DC mX7_rank 72 .ireturn 1 73 := ⟨by decide +kernel, rfl⟩
theorem eX7_bestOf_0 : DC mX7_bestOf 0 (.iconst (-1)) 1 1 := ⟨by decide +kernel, rfl⟩
theorem eX7_bestOf_1 : DC mX7_bestOf 1 (.istore 4) 2 3 := ⟨by decide +kernel, rfl⟩
theorem eX7_bestOf_3 : DC mX7_bestOf 3 (.iconst 0) 1 4 := ⟨by decide +kernel, rfl⟩
theorem eX7_bestOf_4 : DC mX7_bestOf 4 (.istore 5) 2 6 := ⟨by decide +kernel, rfl⟩
theorem eX7_bestOf_6 : DC mX7_bestOf 6 (.iload 5) 2 8 := ⟨by decide +kernel, rfl⟩
theorem eX7_bestOf_8 : DC mX7_bestOf 8 (.aload_n 0) 1 9 := ⟨by decide +kernel, rfl⟩
theorem eX7_bestOf_9 : DC mX7_bestOf 9 (.getfield 86) 3 12 := ⟨by decide +kernel, rfl⟩
theorem eX7_bestOf_12 : DJ mX7_bestOf 12 (.if_icmp .ge) 124 15 := ⟨112, by decide +kernel, by decide, rfl⟩
theorem eX7_bestOf_15 : DC mX7_bestOf 15 (.aload_n 0) 1 16 := ⟨by decide +kernel, rfl⟩
theorem eX7_bestOf_16 : DC mX7_bestOf 16 (.iload_n 1) 1 17 := ⟨by decide +kernel, rfl⟩
theorem eX7_bestOf_17 : DC mX7_bestOf 17 (.iload 5) 2 19 := ⟨by decide +kernel, rfl⟩
theorem eX7_bestOf_19 : DC mX7_bestOf 19 (.iload_n 2) 1 20 := ⟨by decide +kernel, rfl⟩
theorem eX7_bestOf_20 : DC mX7_bestOf 20 (.iload_n 3) 1 21 := ⟨by decide +kernel, rfl⟩
theorem eX7_bestOf_21 : DC mX7_bestOf 21 (.invokevirtual 165) 3 24 := ⟨by decide +kernel, rfl⟩
theorem eX7_bestOf_24 : DJ mX7_bestOf 24 (.ifCond .le) 30 27 := ⟨6, by decide +kernel, by decide, rfl⟩
theorem eX7_bestOf_27 : DJ mX7_bestOf 27 .goto 118 30 := ⟨91, by decide +kernel, by decide, rfl⟩
theorem eX7_bestOf_30 : DC mX7_bestOf 30 (.aload_n 0) 1 31 := ⟨by decide +kernel, rfl⟩
theorem eX7_bestOf_31 : DC mX7_bestOf 31 (.aload_n 0) 1 32 := ⟨by decide +kernel, rfl⟩
theorem eX7_bestOf_32 : DC mX7_bestOf 32 (.iload_n 1) 1 33 := ⟨by decide +kernel, rfl⟩
theorem eX7_bestOf_33 : DC mX7_bestOf 33 (.invokevirtual 155) 3 36 := ⟨by decide +kernel, rfl⟩
theorem eX7_bestOf_36 : DC mX7_bestOf 36 (.aload_n 0) 1 37 := ⟨by decide +kernel, rfl⟩
theorem eX7_bestOf_37 : DC mX7_bestOf 37 (.getfield 16) 3 40 := ⟨by decide +kernel, rfl⟩
theorem eX7_bestOf_40 : DC mX7_bestOf 40 (.iload 5) 2 42 := ⟨by decide +kernel, rfl⟩
theorem eX7_bestOf_42 : DC mX7_bestOf 42 .iaload 1 43 := ⟨by decide +kernel, rfl⟩
theorem eX7_bestOf_43 : DC mX7_bestOf 43 (.invokevirtual 169) 3 46 := ⟨by decide +kernel, rfl⟩
theorem eX7_bestOf_46 : DC mX7_bestOf 46 (.istore 6) 2 48 := ⟨by decide +kernel, rfl⟩
theorem eX7_bestOf_48 : DC mX7_bestOf 48 (.iload 4) 2 50 := ⟨by decide +kernel, rfl⟩
theorem eX7_bestOf_50 : DC mX7_bestOf 50 (.iconst (-1)) 1 51 := ⟨by decide +kernel, rfl⟩
theorem eX7_bestOf_51 : DJ mX7_bestOf 51 (.if_icmp .ne) 59 54 := ⟨8, by decide +kernel, by decide, rfl⟩
theorem eX7_bestOf_54 : DC mX7_bestOf 54 (.bipush 99) 2 56 := ⟨by decide +kernel, rfl⟩
theorem eX7_bestOf_56 : DJ mX7_bestOf 56 .goto 75 59 := ⟨19, by decide +kernel, by decide, rfl⟩
theorem eX7_bestOf_59 : DC mX7_bestOf 59 (.aload_n 0) 1 60 := ⟨by decide +kernel, rfl⟩
theorem eX7_bestOf_60 : DC mX7_bestOf 60 (.aload_n 0) 1 61 := ⟨by decide +kernel, rfl⟩
theorem eX7_bestOf_61 : DC mX7_bestOf 61 (.iload_n 1) 1 62 := ⟨by decide +kernel, rfl⟩
theorem eX7_bestOf_62 : DC mX7_bestOf 62 (.invokevirtual 155) 3 65 := ⟨by decide +kernel, rfl⟩
theorem eX7_bestOf_65 : DC mX7_bestOf 65 (.aload_n 0) 1 66 := ⟨by decide +kernel, rfl⟩
theorem eX7_bestOf_66 : DC mX7_bestOf 66 (.getfield 16) 3 69 := ⟨by decide +kernel, rfl⟩
theorem eX7_bestOf_69 : DC mX7_bestOf 69 (.iload 4) 2 71 := ⟨by decide +kernel, rfl⟩
theorem eX7_bestOf_71 : DC mX7_bestOf 71 .iaload 1 72 := ⟨by decide +kernel, rfl⟩
theorem eX7_bestOf_72 : DC mX7_bestOf 72 (.invokevirtual 169) 3 75 := ⟨by decide +kernel, rfl⟩
theorem eX7_bestOf_75 : DC mX7_bestOf 75 (.istore 7) 2 77 := ⟨by decide +kernel, rfl⟩
theorem eX7_bestOf_77 : DC mX7_bestOf 77 (.iload 4) 2 79 := ⟨by decide +kernel, rfl⟩
theorem eX7_bestOf_79 : DC mX7_bestOf 79 (.iconst (-1)) 1 80 := ⟨by decide +kernel, rfl⟩
theorem eX7_bestOf_80 : DJ mX7_bestOf 80 (.if_icmp .eq) 114 83 := ⟨34, by decide +kernel, by decide, rfl⟩
theorem eX7_bestOf_83 : DC mX7_bestOf 83 (.iload 6) 2 85 := ⟨by decide +kernel, rfl⟩
theorem eX7_bestOf_85 : DC mX7_bestOf 85 (.iload 7) 2 87 := ⟨by decide +kernel, rfl⟩
theorem eX7_bestOf_87 : DJ mX7_bestOf 87 (.if_icmp .lt) 114 90 := ⟨27, by decide +kernel, by decide, rfl⟩
theorem eX7_bestOf_90 : DC mX7_bestOf 90 (.iload 6) 2 92 := ⟨by decide +kernel, rfl⟩
theorem eX7_bestOf_92 : DC mX7_bestOf 92 (.iload 7) 2 94 := ⟨by decide +kernel, rfl⟩
theorem eX7_bestOf_94 : DJ mX7_bestOf 94 (.if_icmp .ne) 118 97 := ⟨24, by decide +kernel, by decide, rfl⟩
theorem eX7_bestOf_97 : DC mX7_bestOf 97 (.aload_n 0) 1 98 := ⟨by decide +kernel, rfl⟩
theorem eX7_bestOf_98 : DC mX7_bestOf 98 (.getfield 20) 3 101 := ⟨by decide +kernel, rfl⟩
theorem eX7_bestOf_101 : DC mX7_bestOf 101 (.iload 5) 2 103 := ⟨by decide +kernel, rfl⟩
theorem eX7_bestOf_103 : DC mX7_bestOf 103 .iaload 1 104 := ⟨by decide +kernel, rfl⟩
theorem eX7_bestOf_104 : DC mX7_bestOf 104 (.aload_n 0) 1 105 := ⟨by decide +kernel, rfl⟩
theorem eX7_bestOf_105 : DC mX7_bestOf 105 (.getfield 20) 3 108 := ⟨by decide +kernel, rfl⟩
theorem eX7_bestOf_108 : DC mX7_bestOf 108 (.iload 4) 2 110 := ⟨by decide +kernel, rfl⟩
theorem eX7_bestOf_110 : DC mX7_bestOf 110 .iaload 1 111 := ⟨by decide +kernel, rfl⟩
theorem eX7_bestOf_111 : DJ mX7_bestOf 111 (.if_icmp .ge) 118 114 := ⟨7, by decide +kernel, by decide, rfl⟩
theorem eX7_bestOf_114 : DC mX7_bestOf 114 (.iload 5) 2 116 := ⟨by decide +kernel, rfl⟩
theorem eX7_bestOf_116 : DC mX7_bestOf 116 (.istore 4) 2 118 := ⟨by decide +kernel, rfl⟩
theorem eX7_bestOf_118 : DC mX7_bestOf 118 (.iinc 5 1) 3 121 := ⟨by decide +kernel, rfl⟩
theorem eX7_bestOf_121 : DJ mX7_bestOf 121 .goto 6 124 := ⟨(-115), by decide +kernel, by decide, rfl⟩
theorem eX7_bestOf_124 : DC mX7_bestOf 124 (.iload 4) 2 126 := ⟨by decide +kernel, rfl⟩
theorem eX7_bestOf_126 : DC mX7_bestOf 126 .ireturn 1 127 := ⟨by decide +kernel, rfl⟩
theorem eX7_sets_0 : DC mX7_sets 0 (.aload_n 0) 1 1 := ⟨by decide +kernel, rfl⟩
theorem eX7_sets_1 : DC mX7_sets 1 (.getfield 50) 3 4 := ⟨by decide +kernel, rfl⟩
theorem eX7_sets_4 : DC mX7_sets 4 (.iload_n 1) 1 5 := ⟨by decide +kernel, rfl⟩
theorem eX7_sets_5 : DC mX7_sets 5 (.iconst 1) 1 6 := ⟨by decide +kernel, rfl⟩
theorem eX7_sets_6 : DC mX7_sets 6 .iastore 1 7 := ⟨by decide +kernel, rfl⟩
theorem eX7_sets_7 : DC mX7_sets 7 (.aload_n 0) 1 8 := ⟨by decide +kernel, rfl⟩
theorem eX7_sets_8 : DC mX7_sets 8 (.getfield 53) 3 11 := ⟨by decide +kernel, rfl⟩
theorem eX7_sets_11 : DC mX7_sets 11 (.bipush 8) 2 13 := ⟨by decide +kernel, rfl⟩
theorem eX7_sets_13 : DC mX7_sets 13 (.iload_n 1) 1 14 := ⟨by decide +kernel, rfl⟩
theorem eX7_sets_14 : DC mX7_sets 14 .imul 1 15 := ⟨by decide +kernel, rfl⟩
theorem eX7_sets_15 : DC mX7_sets 15 (.iload_n 2) 1 16 := ⟨by decide +kernel, rfl⟩
theorem eX7_sets_16 : DC mX7_sets 16 .iastore 1 17 := ⟨by decide +kernel, rfl⟩
theorem eX7_sets_17 : DC mX7_sets 17 (.aload_n 0) 1 18 := ⟨by decide +kernel, rfl⟩
theorem eX7_sets_18 : DC mX7_sets 18 (.getfield 56) 3 21 := ⟨by decide +kernel, rfl⟩
theorem eX7_sets_21 : DC mX7_sets 21 (.bipush 8) 2 23 := ⟨by decide +kernel, rfl⟩
theorem eX7_sets_23 : DC mX7_sets 23 (.iload_n 1) 1 24 := ⟨by decide +kernel, rfl⟩
theorem eX7_sets_24 : DC mX7_sets 24 .imul 1 25 := ⟨by decide +kernel, rfl⟩
theorem eX7_sets_25 : DC mX7_sets 25 (.iload_n 3) 1 26 := ⟨by decide +kernel, rfl⟩
theorem eX7_sets_26 : DC mX7_sets 26 .iastore 1 27 := ⟨by decide +kernel, rfl⟩
theorem eX7_sets_27 : DC mX7_sets 27 (.aload_n 0) 1 28 := ⟨by decide +kernel, rfl⟩
theorem eX7_sets_28 : DC mX7_sets 28 (.getfield 59) 3 31 := ⟨by decide +kernel, rfl⟩
theorem eX7_sets_31 : DC mX7_sets 31 (.bipush 8) 2 33 := ⟨by decide +kernel, rfl⟩
theorem eX7_sets_33 : DC mX7_sets 33 (.iload_n 1) 1 34 := ⟨by decide +kernel, rfl⟩
theorem eX7_sets_34 : DC mX7_sets 34 .imul 1 35 := ⟨by decide +kernel, rfl⟩
theorem eX7_sets_35 : DC mX7_sets 35 (.iload 4) 2 37 := ⟨by decide +kernel, rfl⟩
theorem eX7_sets_37 : DC mX7_sets 37 .iastore 1 38 := ⟨by decide +kernel, rfl⟩
theorem eX7_sets_38 : DC mX7_sets 38 .return_ 1 39 := ⟨by decide +kernel, rfl⟩
theorem eX7_put_0 : DC mX7_put 0 (.aload_n 0) 1 1 := ⟨by decide +kernel, rfl⟩
theorem eX7_put_1 : DC mX7_put 1 (.aload_n 0) 1 2 := ⟨by decide +kernel, rfl⟩
theorem eX7_put_2 : DC mX7_put 2 (.iload_n 2) 1 3 := ⟨by decide +kernel, rfl⟩
theorem eX7_put_3 : DC mX7_put 3 (.invokevirtual 99) 3 6 := ⟨by decide +kernel, rfl⟩
theorem eX7_put_6 : DJ mX7_put 6 (.ifCond .ne) 13 9 := ⟨7, by decide +kernel, by decide, rfl⟩
theorem eX7_put_9 : DC mX7_put 9 (.iconst 1) 1 10 := ⟨by decide +kernel, rfl⟩
theorem eX7_put_10 : DJ mX7_put 10 .goto 64 13 := ⟨54, by decide +kernel, by decide, rfl⟩
theorem eX7_put_13 : DC mX7_put 13 (.aload_n 0) 1 14 := ⟨by decide +kernel, rfl⟩
theorem eX7_put_14 : DC mX7_put 14 (.iload_n 1) 1 15 := ⟨by decide +kernel, rfl⟩
theorem eX7_put_15 : DC mX7_put 15 (.invokevirtual 113) 3 18 := ⟨by decide +kernel, rfl⟩
theorem eX7_put_18 : DJ mX7_put 18 (.ifCond .ne) 25 21 := ⟨7, by decide +kernel, by decide, rfl⟩
theorem eX7_put_21 : DC mX7_put 21 (.iconst 2) 1 22 := ⟨by decide +kernel, rfl⟩
theorem eX7_put_22 : DJ mX7_put 22 .goto 64 25 := ⟨42, by decide +kernel, by decide, rfl⟩
theorem eX7_put_25 : DC mX7_put 25 (.aload_n 0) 1 26 := ⟨by decide +kernel, rfl⟩
theorem eX7_put_26 : DC mX7_put 26 (.iload_n 1) 1 27 := ⟨by decide +kernel, rfl⟩
theorem eX7_put_27 : DC mX7_put 27 (.invokevirtual 172) 3 30 := ⟨by decide +kernel, rfl⟩
theorem eX7_put_30 : DJ mX7_put 30 (.ifCond .eq) 37 33 := ⟨7, by decide +kernel, by decide, rfl⟩
theorem eX7_put_33 : DC mX7_put 33 (.iconst 5) 1 34 := ⟨by decide +kernel, rfl⟩
theorem eX7_put_34 : DJ mX7_put 34 .goto 64 37 := ⟨30, by decide +kernel, by decide, rfl⟩
theorem eX7_put_37 : DC mX7_put 37 (.aload_n 0) 1 38 := ⟨by decide +kernel, rfl⟩
theorem eX7_put_38 : DC mX7_put 38 (.iload_n 1) 1 39 := ⟨by decide +kernel, rfl⟩
theorem eX7_put_39 : DC mX7_put 39 (.invokevirtual 116) 3 42 := ⟨by decide +kernel, rfl⟩
theorem eX7_put_42 : DJ mX7_put 42 (.ifCond .eq) 50 45 := ⟨8, by decide +kernel, by decide, rfl⟩
theorem eX7_put_45 : DC mX7_put 45 (.bipush 6) 2 47 := ⟨by decide +kernel, rfl⟩
theorem eX7_put_47 : DJ mX7_put 47 .goto 64 50 := ⟨17, by decide +kernel, by decide, rfl⟩
theorem eX7_put_50 : DC mX7_put 50 (.aload_n 0) 1 51 := ⟨by decide +kernel, rfl⟩
theorem eX7_put_51 : DC mX7_put 51 (.iload_n 1) 1 52 := ⟨by decide +kernel, rfl⟩
theorem eX7_put_52 : DC mX7_put 52 (.invokevirtual 175) 3 55 := ⟨by decide +kernel, rfl⟩
theorem eX7_put_55 : DJ mX7_put 55 (.ifCond .eq) 63 58 := ⟨8, by decide +kernel, by decide, rfl⟩
theorem eX7_put_58 : DC mX7_put 58 (.bipush 7) 2 60 := ⟨by decide +kernel, rfl⟩
theorem eX7_put_60 : DJ mX7_put 60 .goto 64 63 := ⟨4, by decide +kernel, by decide, rfl⟩
theorem eX7_put_63 : DC mX7_put 63 (.iconst 0) 1 64 := ⟨by decide +kernel, rfl⟩
theorem eX7_put_64 : DC mX7_put 64 (.putfield 80) 3 67 := ⟨by decide +kernel, rfl⟩
theorem eX7_put_67 : DC mX7_put 67 (.aload_n 0) 1 68 := ⟨by decide +kernel, rfl⟩
theorem eX7_put_68 : DC mX7_put 68 (.getfield 80) 3 71 := ⟨by decide +kernel, rfl⟩
theorem eX7_put_71 : DJ mX7_put 71 (.ifCond .le) 76 74 := ⟨5, by decide +kernel, by decide, rfl⟩
theorem eX7_put_74 : DC mX7_put 74 (.iconst 0) 1 75 := ⟨by decide +kernel, rfl⟩
theorem eX7_put_75 : DC mX7_put 75 .ireturn 1 76 := ⟨by decide +kernel, rfl⟩
theorem eX7_put_76 : DC mX7_put 76 (.aload_n 0) 1 77 := ⟨by decide +kernel, rfl⟩
theorem eX7_put_77 : DC mX7_put 77 (.aload_n 0) 1 78 := ⟨by decide +kernel, rfl⟩
theorem eX7_put_78 : DC mX7_put 78 (.iload_n 1) 1 79 := ⟨by decide +kernel, rfl⟩
theorem eX7_put_79 : DC mX7_put 79 (.iload_n 2) 1 80 := ⟨by decide +kernel, rfl⟩
theorem eX7_put_80 : DC mX7_put 80 (.aload_n 0) 1 81 := ⟨by decide +kernel, rfl⟩
theorem eX7_put_81 : DC mX7_put 81 (.iload_n 1) 1 82 := ⟨by decide +kernel, rfl⟩
theorem eX7_put_82 : DC mX7_put 82 (.invokevirtual 119) 3 85 := ⟨by decide +kernel, rfl⟩
theorem eX7_put_85 : DC mX7_put 85 (.aload_n 0) 1 86 := ⟨by decide +kernel, rfl⟩
theorem eX7_put_86 : DC mX7_put 86 (.iload_n 1) 1 87 := ⟨by decide +kernel, rfl⟩
theorem eX7_put_87 : DC mX7_put 87 (.invokevirtual 178) 3 90 := ⟨by decide +kernel, rfl⟩
theorem eX7_put_90 : DC mX7_put 90 (.invokevirtual 165) 3 93 := ⟨by decide +kernel, rfl⟩
theorem eX7_put_93 : DC mX7_put 93 (.invokevirtual 181) 3 96 := ⟨by decide +kernel, rfl⟩
theorem eX7_put_96 : DJ mX7_put 96 (.ifCond .eq) 108 99 := ⟨12, by decide +kernel, by decide, rfl⟩
theorem eX7_put_99 : DC mX7_put 99 (.aload_n 0) 1 100 := ⟨by decide +kernel, rfl⟩
theorem eX7_put_100 : DC mX7_put 100 (.bipush 8) 2 102 := ⟨by decide +kernel, rfl⟩
theorem eX7_put_102 : DC mX7_put 102 (.putfield 80) 3 105 := ⟨by decide +kernel, rfl⟩
theorem eX7_put_105 : DJ mX7_put 105 .goto 124 108 := ⟨19, by decide +kernel, by decide, rfl⟩
theorem eX7_put_108 : DC mX7_put 108 (.aload_n 0) 1 109 := ⟨by decide +kernel, rfl⟩
theorem eX7_put_109 : DC mX7_put 109 (.iload_n 1) 1 110 := ⟨by decide +kernel, rfl⟩
theorem eX7_put_110 : DC mX7_put 110 (.iload_n 2) 1 111 := ⟨by decide +kernel, rfl⟩
theorem eX7_put_111 : DC mX7_put 111 (.aload_n 0) 1 112 := ⟨by decide +kernel, rfl⟩
theorem eX7_put_112 : DC mX7_put 112 (.iload_n 1) 1 113 := ⟨by decide +kernel, rfl⟩
theorem eX7_put_113 : DC mX7_put 113 (.invokevirtual 119) 3 116 := ⟨by decide +kernel, rfl⟩
theorem eX7_put_116 : DC mX7_put 116 (.aload_n 0) 1 117 := ⟨by decide +kernel, rfl⟩
theorem eX7_put_117 : DC mX7_put 117 (.iload_n 1) 1 118 := ⟨by decide +kernel, rfl⟩
theorem eX7_put_118 : DC mX7_put 118 (.invokevirtual 178) 3 121 := ⟨by decide +kernel, rfl⟩
theorem eX7_put_121 : DC mX7_put 121 (.invokevirtual 184) 3 124 := ⟨by decide +kernel, rfl⟩
theorem eX7_put_124 : DC mX7_put 124 (.aload_n 0) 1 125 := ⟨by decide +kernel, rfl⟩
theorem eX7_put_125 : DC mX7_put 125 (.getfield 80) 3 128 := ⟨by decide +kernel, rfl⟩
theorem eX7_put_128 : DJ mX7_put 128 (.ifCond .ne) 135 131 := ⟨7, by decide +kernel, by decide, rfl⟩
theorem eX7_put_131 : DC mX7_put 131 (.iconst 1) 1 132 := ⟨by decide +kernel, rfl⟩
theorem eX7_put_132 : DJ mX7_put 132 .goto 136 135 := ⟨4, by decide +kernel, by decide, rfl⟩
theorem eX7_put_135 : DC mX7_put 135 (.iconst 0) 1 136 := ⟨by decide +kernel, rfl⟩
theorem eX7_put_136 : DC mX7_put 136 .ireturn 1 137 := ⟨by decide +kernel, rfl⟩
theorem eX7_why_0 : DC mX7_why 0 (.aload_n 0) 1 1 := ⟨by decide +kernel, rfl⟩
theorem eX7_why_1 : DC mX7_why 1 (.aload_n 0) 1 2 := ⟨by decide +kernel, rfl⟩
theorem eX7_why_2 : DC mX7_why 2 (.iload_n 2) 1 3 := ⟨by decide +kernel, rfl⟩
theorem eX7_why_3 : DC mX7_why 3 (.invokevirtual 99) 3 6 := ⟨by decide +kernel, rfl⟩
theorem eX7_why_6 : DJ mX7_why 6 (.ifCond .ne) 13 9 := ⟨7, by decide +kernel, by decide, rfl⟩
theorem eX7_why_9 : DC mX7_why 9 (.iconst 1) 1 10 := ⟨by decide +kernel, rfl⟩
theorem eX7_why_10 : DJ mX7_why 10 .goto 38 13 := ⟨28, by decide +kernel, by decide, rfl⟩
theorem eX7_why_13 : DC mX7_why 13 (.aload_n 0) 1 14 := ⟨by decide +kernel, rfl⟩
theorem eX7_why_14 : DC mX7_why 14 (.iload_n 1) 1 15 := ⟨by decide +kernel, rfl⟩
theorem eX7_why_15 : DC mX7_why 15 (.invokevirtual 113) 3 18 := ⟨by decide +kernel, rfl⟩
theorem eX7_why_18 : DJ mX7_why 18 (.ifCond .ne) 25 21 := ⟨7, by decide +kernel, by decide, rfl⟩
theorem eX7_why_21 : DC mX7_why 21 (.iconst 2) 1 22 := ⟨by decide +kernel, rfl⟩
theorem eX7_why_22 : DJ mX7_why 22 .goto 38 25 := ⟨16, by decide +kernel, by decide, rfl⟩
theorem eX7_why_25 : DC mX7_why 25 (.aload_n 0) 1 26 := ⟨by decide +kernel, rfl⟩
theorem eX7_why_26 : DC mX7_why 26 (.iload_n 1) 1 27 := ⟨by decide +kernel, rfl⟩
theorem eX7_why_27 : DC mX7_why 27 (.invokevirtual 172) 3 30 := ⟨by decide +kernel, rfl⟩
theorem eX7_why_30 : DJ mX7_why 30 (.ifCond .eq) 37 33 := ⟨7, by decide +kernel, by decide, rfl⟩
theorem eX7_why_33 : DC mX7_why 33 (.iconst 5) 1 34 := ⟨by decide +kernel, rfl⟩
theorem eX7_why_34 : DJ mX7_why 34 .goto 38 37 := ⟨4, by decide +kernel, by decide, rfl⟩
theorem eX7_why_37 : DC mX7_why 37 (.iconst 0) 1 38 := ⟨by decide +kernel, rfl⟩
theorem eX7_why_38 : DC mX7_why 38 (.putfield 80) 3 41 := ⟨by decide +kernel, rfl⟩
theorem eX7_why_41 : DC mX7_why 41 (.aload_n 0) 1 42 := ⟨by decide +kernel, rfl⟩
theorem eX7_why_42 : DC mX7_why 42 (.getfield 80) 3 45 := ⟨by decide +kernel, rfl⟩
theorem eX7_why_45 : DJ mX7_why 45 (.ifCond .le) 50 48 := ⟨5, by decide +kernel, by decide, rfl⟩
theorem eX7_why_48 : DC mX7_why 48 (.iconst (-1)) 1 49 := ⟨by decide +kernel, rfl⟩
theorem eX7_why_49 : DC mX7_why 49 .ireturn 1 50 := ⟨by decide +kernel, rfl⟩
theorem eX7_why_50 : DC mX7_why 50 (.aload_n 0) 1 51 := ⟨by decide +kernel, rfl⟩
theorem eX7_why_51 : DC mX7_why 51 (.iload_n 1) 1 52 := ⟨by decide +kernel, rfl⟩
theorem eX7_why_52 : DC mX7_why 52 (.iload_n 2) 1 53 := ⟨by decide +kernel, rfl⟩
theorem eX7_why_53 : DC mX7_why 53 (.aload_n 0) 1 54 := ⟨by decide +kernel, rfl⟩
theorem eX7_why_54 : DC mX7_why 54 (.iload_n 1) 1 55 := ⟨by decide +kernel, rfl⟩
theorem eX7_why_55 : DC mX7_why 55 (.invokevirtual 119) 3 58 := ⟨by decide +kernel, rfl⟩
theorem eX7_why_58 : DC mX7_why 58 (.aload_n 0) 1 59 := ⟨by decide +kernel, rfl⟩
theorem eX7_why_59 : DC mX7_why 59 (.iload_n 1) 1 60 := ⟨by decide +kernel, rfl⟩
theorem eX7_why_60 : DC mX7_why 60 (.invokevirtual 178) 3 63 := ⟨by decide +kernel, rfl⟩
theorem eX7_why_63 : DC mX7_why 63 (.invokevirtual 165) 3 66 := ⟨by decide +kernel, rfl⟩
theorem eX7_why_66 : DC mX7_why 66 (.istore_n 3) 1 67 := ⟨by decide +kernel, rfl⟩
theorem eX7_why_67 : DC mX7_why 67 (.aload_n 0) 1 68 := ⟨by decide +kernel, rfl⟩
theorem eX7_why_68 : DC mX7_why 68 (.iload_n 3) 1 69 := ⟨by decide +kernel, rfl⟩
theorem eX7_why_69 : DC mX7_why 69 (.invokevirtual 181) 3 72 := ⟨by decide +kernel, rfl⟩
theorem eX7_why_72 : DC mX7_why 72 (.istore 4) 2 74 := ⟨by decide +kernel, rfl⟩
theorem eX7_why_74 : DC mX7_why 74 (.iload_n 3) 1 75 := ⟨by decide +kernel, rfl⟩
theorem eX7_why_75 : DC mX7_why 75 .ireturn 1 76 := ⟨by decide +kernel, rfl⟩
theorem eX7_off_0 : DC mX7_off 0 (.aload_n 0) 1 1 := ⟨by decide +kernel, rfl⟩
theorem eX7_off_1 : DC mX7_off 1 (.aload_n 0) 1 2 := ⟨by decide +kernel, rfl⟩
theorem eX7_off_2 : DC mX7_off 2 (.iload_n 1) 1 3 := ⟨by decide +kernel, rfl⟩
theorem eX7_off_3 : DC mX7_off 3 (.invokevirtual 113) 3 6 := ⟨by decide +kernel, rfl⟩
theorem eX7_off_6 : DJ mX7_off 6 (.ifCond .ne) 13 9 := ⟨7, by decide +kernel, by decide, rfl⟩
theorem eX7_off_9 : DC mX7_off 9 (.iconst 2) 1 10 := ⟨by decide +kernel, rfl⟩
theorem eX7_off_10 : DJ mX7_off 10 .goto 40 13 := ⟨30, by decide +kernel, by decide, rfl⟩
theorem eX7_off_13 : DC mX7_off 13 (.aload_n 0) 1 14 := ⟨by decide +kernel, rfl⟩
theorem eX7_off_14 : DC mX7_off 14 (.iload_n 1) 1 15 := ⟨by decide +kernel, rfl⟩
theorem eX7_off_15 : DC mX7_off 15 (.invokevirtual 116) 3 18 := ⟨by decide +kernel, rfl⟩
theorem eX7_off_18 : DJ mX7_off 18 (.ifCond .ne) 26 21 := ⟨8, by decide +kernel, by decide, rfl⟩
theorem eX7_off_21 : DC mX7_off 21 (.bipush 6) 2 23 := ⟨by decide +kernel, rfl⟩
theorem eX7_off_23 : DJ mX7_off 23 .goto 40 26 := ⟨17, by decide +kernel, by decide, rfl⟩
theorem eX7_off_26 : DC mX7_off 26 (.aload_n 0) 1 27 := ⟨by decide +kernel, rfl⟩
theorem eX7_off_27 : DC mX7_off 27 (.iload_n 1) 1 28 := ⟨by decide +kernel, rfl⟩
theorem eX7_off_28 : DC mX7_off 28 (.invokevirtual 175) 3 31 := ⟨by decide +kernel, rfl⟩
theorem eX7_off_31 : DJ mX7_off 31 (.ifCond .eq) 39 34 := ⟨8, by decide +kernel, by decide, rfl⟩
theorem eX7_off_34 : DC mX7_off 34 (.bipush 7) 2 36 := ⟨by decide +kernel, rfl⟩
theorem eX7_off_36 : DJ mX7_off 36 .goto 40 39 := ⟨4, by decide +kernel, by decide, rfl⟩
theorem eX7_off_39 : DC mX7_off 39 (.iconst 0) 1 40 := ⟨by decide +kernel, rfl⟩
theorem eX7_off_40 : DC mX7_off 40 (.putfield 80) 3 43 := ⟨by decide +kernel, rfl⟩
theorem eX7_off_43 : DC mX7_off 43 (.aload_n 0) 1 44 := ⟨by decide +kernel, rfl⟩
theorem eX7_off_44 : DC mX7_off 44 (.getfield 80) 3 47 := ⟨by decide +kernel, rfl⟩
theorem eX7_off_47 : DJ mX7_off 47 (.ifCond .ne) 57 50 := ⟨10, by decide +kernel, by decide, rfl⟩
theorem eX7_off_50 : DC mX7_off 50 (.aload_n 0) 1 51 := ⟨by decide +kernel, rfl⟩
theorem eX7_off_51 : DC mX7_off 51 (.getfield 50) 3 54 := ⟨by decide +kernel, rfl⟩
theorem eX7_off_54 : DC mX7_off 54 (.iload_n 1) 1 55 := ⟨by decide +kernel, rfl⟩
theorem eX7_off_55 : DC mX7_off 55 (.iconst 0) 1 56 := ⟨by decide +kernel, rfl⟩
theorem eX7_off_56 : DC mX7_off 56 .iastore 1 57 := ⟨by decide +kernel, rfl⟩
theorem eX7_off_57 : DC mX7_off 57 (.aload_n 0) 1 58 := ⟨by decide +kernel, rfl⟩
theorem eX7_off_58 : DC mX7_off 58 (.getfield 80) 3 61 := ⟨by decide +kernel, rfl⟩
theorem eX7_off_61 : DJ mX7_off 61 (.ifCond .ne) 68 64 := ⟨7, by decide +kernel, by decide, rfl⟩
theorem eX7_off_64 : DC mX7_off 64 (.iconst 1) 1 65 := ⟨by decide +kernel, rfl⟩
theorem eX7_off_65 : DJ mX7_off 65 .goto 69 68 := ⟨4, by decide +kernel, by decide, rfl⟩
theorem eX7_off_68 : DC mX7_off 68 (.iconst 0) 1 69 := ⟨by decide +kernel, rfl⟩
theorem eX7_off_69 : DC mX7_off 69 .ireturn 1 70 := ⟨by decide +kernel, rfl⟩
theorem eX7_tow_0 : DC mX7_tow 0 (.aload_n 0) 1 1 := ⟨by decide +kernel, rfl⟩
theorem eX7_tow_1 : DC mX7_tow 1 (.aload_n 0) 1 2 := ⟨by decide +kernel, rfl⟩
theorem eX7_tow_2 : DC mX7_tow 2 (.iload_n 3) 1 3 := ⟨by decide +kernel, rfl⟩
theorem eX7_tow_3 : DC mX7_tow 3 (.invokevirtual 99) 3 6 := ⟨by decide +kernel, rfl⟩
theorem eX7_tow_6 : DJ mX7_tow 6 (.ifCond .ne) 13 9 := ⟨7, by decide +kernel, by decide, rfl⟩
theorem eX7_tow_9 : DC mX7_tow 9 (.iconst 1) 1 10 := ⟨by decide +kernel, rfl⟩
theorem eX7_tow_10 : DJ mX7_tow 10 .goto 39 13 := ⟨29, by decide +kernel, by decide, rfl⟩
theorem eX7_tow_13 : DC mX7_tow 13 (.aload_n 0) 1 14 := ⟨by decide +kernel, rfl⟩
theorem eX7_tow_14 : DC mX7_tow 14 (.iload_n 1) 1 15 := ⟨by decide +kernel, rfl⟩
theorem eX7_tow_15 : DC mX7_tow 15 (.invokevirtual 113) 3 18 := ⟨by decide +kernel, rfl⟩
theorem eX7_tow_18 : DJ mX7_tow 18 (.ifCond .ne) 25 21 := ⟨7, by decide +kernel, by decide, rfl⟩
theorem eX7_tow_21 : DC mX7_tow 21 (.iconst 2) 1 22 := ⟨by decide +kernel, rfl⟩
theorem eX7_tow_22 : DJ mX7_tow 22 .goto 39 25 := ⟨17, by decide +kernel, by decide, rfl⟩
theorem eX7_tow_25 : DC mX7_tow 25 (.aload_n 0) 1 26 := ⟨by decide +kernel, rfl⟩
theorem eX7_tow_26 : DC mX7_tow 26 (.iload_n 1) 1 27 := ⟨by decide +kernel, rfl⟩
theorem eX7_tow_27 : DC mX7_tow 27 (.invokevirtual 116) 3 30 := ⟨by decide +kernel, rfl⟩
theorem eX7_tow_30 : DJ mX7_tow 30 (.ifCond .ne) 38 33 := ⟨8, by decide +kernel, by decide, rfl⟩
theorem eX7_tow_33 : DC mX7_tow 33 (.bipush 6) 2 35 := ⟨by decide +kernel, rfl⟩
theorem eX7_tow_35 : DJ mX7_tow 35 .goto 39 38 := ⟨4, by decide +kernel, by decide, rfl⟩
theorem eX7_tow_38 : DC mX7_tow 38 (.iconst 0) 1 39 := ⟨by decide +kernel, rfl⟩
theorem eX7_tow_39 : DC mX7_tow 39 (.putfield 80) 3 42 := ⟨by decide +kernel, rfl⟩
theorem eX7_tow_42 : DC mX7_tow 42 (.aload_n 0) 1 43 := ⟨by decide +kernel, rfl⟩
theorem eX7_tow_43 : DC mX7_tow 43 (.getfield 80) 3 46 := ⟨by decide +kernel, rfl⟩
theorem eX7_tow_46 : DJ mX7_tow 46 (.ifCond .le) 51 49 := ⟨5, by decide +kernel, by decide, rfl⟩
theorem eX7_tow_49 : DC mX7_tow 49 (.iconst 0) 1 50 := ⟨by decide +kernel, rfl⟩
theorem eX7_tow_50 : DC mX7_tow 50 .ireturn 1 51 := ⟨by decide +kernel, rfl⟩
theorem eX7_tow_51 : DC mX7_tow 51 (.bipush 8) 2 53 := ⟨by decide +kernel, rfl⟩
theorem eX7_tow_53 : DC mX7_tow 53 (.iload_n 1) 1 54 := ⟨by decide +kernel, rfl⟩
theorem eX7_tow_54 : DC mX7_tow 54 .imul 1 55 := ⟨by decide +kernel, rfl⟩
theorem eX7_tow_55 : DC mX7_tow 55 (.aload_n 0) 1 56 := ⟨by decide +kernel, rfl⟩
theorem eX7_tow_56 : DC mX7_tow 56 (.getfield 50) 3 59 := ⟨by decide +kernel, rfl⟩
theorem eX7_tow_59 : DC mX7_tow 59 (.iload_n 1) 1 60 := ⟨by decide +kernel, rfl⟩
theorem eX7_tow_60 : DC mX7_tow 60 .iaload 1 61 := ⟨by decide +kernel, rfl⟩
theorem eX7_tow_61 : DC mX7_tow 61 .iadd 1 62 := ⟨by decide +kernel, rfl⟩
theorem eX7_tow_62 : DC mX7_tow 62 (.iconst 1) 1 63 := ⟨by decide +kernel, rfl⟩
theorem eX7_tow_63 : DC mX7_tow 63 .isub 1 64 := ⟨by decide +kernel, rfl⟩
theorem eX7_tow_64 : DC mX7_tow 64 (.istore 4) 2 66 := ⟨by decide +kernel, rfl⟩
theorem eX7_tow_66 : DC mX7_tow 66 (.aload_n 0) 1 67 := ⟨by decide +kernel, rfl⟩
theorem eX7_tow_67 : DC mX7_tow 67 (.iload_n 1) 1 68 := ⟨by decide +kernel, rfl⟩
theorem eX7_tow_68 : DC mX7_tow 68 (.invokevirtual 178) 3 71 := ⟨by decide +kernel, rfl⟩
theorem eX7_tow_71 : DC mX7_tow 71 (.istore 5) 2 73 := ⟨by decide +kernel, rfl⟩
theorem eX7_tow_73 : DC mX7_tow 73 (.aload_n 0) 1 74 := ⟨by decide +kernel, rfl⟩
theorem eX7_tow_74 : DC mX7_tow 74 (.getfield 53) 3 77 := ⟨by decide +kernel, rfl⟩
theorem eX7_tow_77 : DC mX7_tow 77 (.iload 4) 2 79 := ⟨by decide +kernel, rfl⟩
theorem eX7_tow_79 : DC mX7_tow 79 .iaload 1 80 := ⟨by decide +kernel, rfl⟩
theorem eX7_tow_80 : DC mX7_tow 80 (.iload_n 3) 1 81 := ⟨by decide +kernel, rfl⟩
theorem eX7_tow_81 : DJ mX7_tow 81 (.if_icmp .eq) 114 84 := ⟨33, by decide +kernel, by decide, rfl⟩
theorem eX7_tow_84 : DC mX7_tow 84 (.aload_n 0) 1 85 := ⟨by decide +kernel, rfl⟩
theorem eX7_tow_85 : DC mX7_tow 85 (.getfield 56) 3 88 := ⟨by decide +kernel, rfl⟩
theorem eX7_tow_88 : DC mX7_tow 88 (.iload 4) 2 90 := ⟨by decide +kernel, rfl⟩
theorem eX7_tow_90 : DC mX7_tow 90 .iaload 1 91 := ⟨by decide +kernel, rfl⟩
theorem eX7_tow_91 : DC mX7_tow 91 (.iload_n 2) 1 92 := ⟨by decide +kernel, rfl⟩
theorem eX7_tow_92 : DJ mX7_tow 92 (.if_icmp .ge) 114 95 := ⟨22, by decide +kernel, by decide, rfl⟩
theorem eX7_tow_95 : DC mX7_tow 95 (.iload_n 2) 1 96 := ⟨by decide +kernel, rfl⟩
theorem eX7_tow_96 : DC mX7_tow 96 (.aload_n 0) 1 97 := ⟨by decide +kernel, rfl⟩
theorem eX7_tow_97 : DC mX7_tow 97 (.getfield 122) 3 100 := ⟨by decide +kernel, rfl⟩
theorem eX7_tow_100 : DJ mX7_tow 100 (.if_icmp .le) 114 103 := ⟨14, by decide +kernel, by decide, rfl⟩
theorem eX7_tow_103 : DC mX7_tow 103 (.iload 5) 2 105 := ⟨by decide +kernel, rfl⟩
theorem eX7_tow_105 : DC mX7_tow 105 (.aload_n 0) 1 106 := ⟨by decide +kernel, rfl⟩
theorem eX7_tow_106 : DC mX7_tow 106 (.getfield 13) 3 109 := ⟨by decide +kernel, rfl⟩
theorem eX7_tow_109 : DC mX7_tow 109 .isub 1 110 := ⟨by decide +kernel, rfl⟩
theorem eX7_tow_110 : DC mX7_tow 110 (.iload_n 2) 1 111 := ⟨by decide +kernel, rfl⟩
theorem eX7_tow_111 : DJ mX7_tow 111 (.if_icmp .gt) 122 114 := ⟨11, by decide +kernel, by decide, rfl⟩
theorem eX7_tow_114 : DC mX7_tow 114 (.aload_n 0) 1 115 := ⟨by decide +kernel, rfl⟩
theorem eX7_tow_115 : DC mX7_tow 115 (.iconst 3) 1 116 := ⟨by decide +kernel, rfl⟩
theorem eX7_tow_116 : DC mX7_tow 116 (.putfield 80) 3 119 := ⟨by decide +kernel, rfl⟩
theorem eX7_tow_119 : DJ mX7_tow 119 .goto 163 122 := ⟨44, by decide +kernel, by decide, rfl⟩
theorem eX7_tow_122 : DC mX7_tow 122 (.aload_n 0) 1 123 := ⟨by decide +kernel, rfl⟩
theorem eX7_tow_123 : DC mX7_tow 123 (.getfield 50) 3 126 := ⟨by decide +kernel, rfl⟩
theorem eX7_tow_126 : DC mX7_tow 126 (.iload_n 1) 1 127 := ⟨by decide +kernel, rfl⟩
theorem eX7_tow_127 : DC mX7_tow 127 .iaload 1 128 := ⟨by decide +kernel, rfl⟩
theorem eX7_tow_128 : DC mX7_tow 128 (.bipush 8) 2 130 := ⟨by decide +kernel, rfl⟩
theorem eX7_tow_130 : DJ mX7_tow 130 (.if_icmp .ne) 141 133 := ⟨11, by decide +kernel, by decide, rfl⟩
theorem eX7_tow_133 : DC mX7_tow 133 (.aload_n 0) 1 134 := ⟨by decide +kernel, rfl⟩
theorem eX7_tow_134 : DC mX7_tow 134 (.iconst 4) 1 135 := ⟨by decide +kernel, rfl⟩
theorem eX7_tow_135 : DC mX7_tow 135 (.putfield 80) 3 138 := ⟨by decide +kernel, rfl⟩
theorem eX7_tow_138 : DJ mX7_tow 138 .goto 163 141 := ⟨25, by decide +kernel, by decide, rfl⟩
theorem eX7_tow_141 : DC mX7_tow 141 (.aload_n 0) 1 142 := ⟨by decide +kernel, rfl⟩
theorem eX7_tow_142 : DC mX7_tow 142 (.aload_n 0) 1 143 := ⟨by decide +kernel, rfl⟩
theorem eX7_tow_143 : DC mX7_tow 143 (.iload_n 1) 1 144 := ⟨by decide +kernel, rfl⟩
theorem eX7_tow_144 : DC mX7_tow 144 (.iload_n 3) 1 145 := ⟨by decide +kernel, rfl⟩
theorem eX7_tow_145 : DC mX7_tow 145 (.iload_n 2) 1 146 := ⟨by decide +kernel, rfl⟩
theorem eX7_tow_146 : DC mX7_tow 146 (.iload 5) 2 148 := ⟨by decide +kernel, rfl⟩
theorem eX7_tow_148 : DC mX7_tow 148 (.invokevirtual 165) 3 151 := ⟨by decide +kernel, rfl⟩
theorem eX7_tow_151 : DC mX7_tow 151 (.invokevirtual 181) 3 154 := ⟨by decide +kernel, rfl⟩
theorem eX7_tow_154 : DJ mX7_tow 154 (.ifCond .eq) 163 157 := ⟨9, by decide +kernel, by decide, rfl⟩
theorem eX7_tow_157 : DC mX7_tow 157 (.aload_n 0) 1 158 := ⟨by decide +kernel, rfl⟩
theorem eX7_tow_158 : DC mX7_tow 158 (.bipush 8) 2 160 := ⟨by decide +kernel, rfl⟩
theorem eX7_tow_160 : DC mX7_tow 160 (.putfield 80) 3 163 := ⟨by decide +kernel, rfl⟩
theorem eX7_tow_163 : DC mX7_tow 163 (.aload_n 0) 1 164 := ⟨by decide +kernel, rfl⟩
theorem eX7_tow_164 : DC mX7_tow 164 (.getfield 80) 3 167 := ⟨by decide +kernel, rfl⟩
theorem eX7_tow_167 : DJ mX7_tow 167 (.ifCond .le) 172 170 := ⟨5, by decide +kernel, by decide, rfl⟩
theorem eX7_tow_170 : DC mX7_tow 170 (.iconst 0) 1 171 := ⟨by decide +kernel, rfl⟩
theorem eX7_tow_171 : DC mX7_tow 171 .ireturn 1 172 := ⟨by decide +kernel, rfl⟩
theorem eX7_tow_172 : DC mX7_tow 172 (.aload_n 0) 1 173 := ⟨by decide +kernel, rfl⟩
theorem eX7_tow_173 : DC mX7_tow 173 (.getfield 59) 3 176 := ⟨by decide +kernel, rfl⟩
theorem eX7_tow_176 : DC mX7_tow 176 (.iload 4) 2 178 := ⟨by decide +kernel, rfl⟩
theorem eX7_tow_178 : DC mX7_tow 178 (.iload_n 2) 1 179 := ⟨by decide +kernel, rfl⟩
theorem eX7_tow_179 : DC mX7_tow 179 (.aload_n 0) 1 180 := ⟨by decide +kernel, rfl⟩
theorem eX7_tow_180 : DC mX7_tow 180 (.getfield 13) 3 183 := ⟨by decide +kernel, rfl⟩
theorem eX7_tow_183 : DC mX7_tow 183 .iadd 1 184 := ⟨by decide +kernel, rfl⟩
theorem eX7_tow_184 : DC mX7_tow 184 .iastore 1 185 := ⟨by decide +kernel, rfl⟩
theorem eX7_tow_185 : DC mX7_tow 185 (.aload_n 0) 1 186 := ⟨by decide +kernel, rfl⟩
theorem eX7_tow_186 : DC mX7_tow 186 (.getfield 53) 3 189 := ⟨by decide +kernel, rfl⟩
theorem eX7_tow_189 : DC mX7_tow 189 (.iload 4) 2 191 := ⟨by decide +kernel, rfl⟩
theorem eX7_tow_191 : DC mX7_tow 191 (.iconst 1) 1 192 := ⟨by decide +kernel, rfl⟩
theorem eX7_tow_192 : DC mX7_tow 192 .iadd 1 193 := ⟨by decide +kernel, rfl⟩
theorem eX7_tow_193 : DC mX7_tow 193 (.iload_n 3) 1 194 := ⟨by decide +kernel, rfl⟩
theorem eX7_tow_194 : DC mX7_tow 194 .iastore 1 195 := ⟨by decide +kernel, rfl⟩
theorem eX7_tow_195 : DC mX7_tow 195 (.aload_n 0) 1 196 := ⟨by decide +kernel, rfl⟩
theorem eX7_tow_196 : DC mX7_tow 196 (.getfield 56) 3 199 := ⟨by decide +kernel, rfl⟩
theorem eX7_tow_199 : DC mX7_tow 199 (.iload 4) 2 201 := ⟨by decide +kernel, rfl⟩
theorem eX7_tow_201 : DC mX7_tow 201 (.iconst 1) 1 202 := ⟨by decide +kernel, rfl⟩
theorem eX7_tow_202 : DC mX7_tow 202 .iadd 1 203 := ⟨by decide +kernel, rfl⟩
theorem eX7_tow_203 : DC mX7_tow 203 (.iload_n 2) 1 204 := ⟨by decide +kernel, rfl⟩
theorem eX7_tow_204 : DC mX7_tow 204 .iastore 1 205 := ⟨by decide +kernel, rfl⟩
theorem eX7_tow_205 : DC mX7_tow 205 (.aload_n 0) 1 206 := ⟨by decide +kernel, rfl⟩
theorem eX7_tow_206 : DC mX7_tow 206 (.getfield 59) 3 209 := ⟨by decide +kernel, rfl⟩
theorem eX7_tow_209 : DC mX7_tow 209 (.iload 4) 2 211 := ⟨by decide +kernel, rfl⟩
theorem eX7_tow_211 : DC mX7_tow 211 (.iconst 1) 1 212 := ⟨by decide +kernel, rfl⟩
theorem eX7_tow_212 : DC mX7_tow 212 .iadd 1 213 := ⟨by decide +kernel, rfl⟩
theorem eX7_tow_213 : DC mX7_tow 213 (.iload 5) 2 215 := ⟨by decide +kernel, rfl⟩
theorem eX7_tow_215 : DC mX7_tow 215 .iastore 1 216 := ⟨by decide +kernel, rfl⟩
theorem eX7_tow_216 : DC mX7_tow 216 (.aload_n 0) 1 217 := ⟨by decide +kernel, rfl⟩
theorem eX7_tow_217 : DC mX7_tow 217 (.getfield 50) 3 220 := ⟨by decide +kernel, rfl⟩
theorem eX7_tow_220 : DC mX7_tow 220 (.iload_n 1) 1 221 := ⟨by decide +kernel, rfl⟩
theorem eX7_tow_221 : DC mX7_tow 221 .dup2 1 222 := ⟨by decide +kernel, rfl⟩
theorem eX7_tow_222 : DC mX7_tow 222 .iaload 1 223 := ⟨by decide +kernel, rfl⟩
theorem eX7_tow_223 : DC mX7_tow 223 (.iconst 1) 1 224 := ⟨by decide +kernel, rfl⟩
theorem eX7_tow_224 : DC mX7_tow 224 .iadd 1 225 := ⟨by decide +kernel, rfl⟩
theorem eX7_tow_225 : DC mX7_tow 225 .iastore 1 226 := ⟨by decide +kernel, rfl⟩
theorem eX7_tow_226 : DC mX7_tow 226 (.iconst 1) 1 227 := ⟨by decide +kernel, rfl⟩
theorem eX7_tow_227 : DC mX7_tow 227 .ireturn 1 228 := ⟨by decide +kernel, rfl⟩
theorem eX7_swap_0 : DC mX7_swap 0 (.aload_n 0) 1 1 := ⟨by decide +kernel, rfl⟩
theorem eX7_swap_1 : DC mX7_swap 1 (.aload_n 0) 1 2 := ⟨by decide +kernel, rfl⟩
theorem eX7_swap_2 : DC mX7_swap 2 (.iload_n 1) 1 3 := ⟨by decide +kernel, rfl⟩
theorem eX7_swap_3 : DC mX7_swap 3 (.invokevirtual 113) 3 6 := ⟨by decide +kernel, rfl⟩
theorem eX7_swap_6 : DJ mX7_swap 6 (.ifCond .eq) 22 9 := ⟨16, by decide +kernel, by decide, rfl⟩
theorem eX7_swap_9 : DC mX7_swap 9 (.aload_n 0) 1 10 := ⟨by decide +kernel, rfl⟩
theorem eX7_swap_10 : DC mX7_swap 10 (.iload_n 2) 1 11 := ⟨by decide +kernel, rfl⟩
theorem eX7_swap_11 : DC mX7_swap 11 (.invokevirtual 113) 3 14 := ⟨by decide +kernel, rfl⟩
theorem eX7_swap_14 : DJ mX7_swap 14 (.ifCond .eq) 22 17 := ⟨8, by decide +kernel, by decide, rfl⟩
theorem eX7_swap_17 : DC mX7_swap 17 (.iload_n 1) 1 18 := ⟨by decide +kernel, rfl⟩
theorem eX7_swap_18 : DC mX7_swap 18 (.iload_n 2) 1 19 := ⟨by decide +kernel, rfl⟩
theorem eX7_swap_19 : DJ mX7_swap 19 (.if_icmp .ne) 26 22 := ⟨7, by decide +kernel, by decide, rfl⟩
theorem eX7_swap_22 : DC mX7_swap 22 (.iconst 2) 1 23 := ⟨by decide +kernel, rfl⟩
theorem eX7_swap_23 : DJ mX7_swap 23 .goto 93 26 := ⟨70, by decide +kernel, by decide, rfl⟩
theorem eX7_swap_26 : DC mX7_swap 26 (.aload_n 0) 1 27 := ⟨by decide +kernel, rfl⟩
theorem eX7_swap_27 : DC mX7_swap 27 (.iload_n 1) 1 28 := ⟨by decide +kernel, rfl⟩
theorem eX7_swap_28 : DC mX7_swap 28 (.invokevirtual 172) 3 31 := ⟨by decide +kernel, rfl⟩
theorem eX7_swap_31 : DJ mX7_swap 31 (.ifCond .ne) 42 34 := ⟨11, by decide +kernel, by decide, rfl⟩
theorem eX7_swap_34 : DC mX7_swap 34 (.aload_n 0) 1 35 := ⟨by decide +kernel, rfl⟩
theorem eX7_swap_35 : DC mX7_swap 35 (.iload_n 2) 1 36 := ⟨by decide +kernel, rfl⟩
theorem eX7_swap_36 : DC mX7_swap 36 (.invokevirtual 172) 3 39 := ⟨by decide +kernel, rfl⟩
theorem eX7_swap_39 : DJ mX7_swap 39 (.ifCond .eq) 46 42 := ⟨7, by decide +kernel, by decide, rfl⟩
theorem eX7_swap_42 : DC mX7_swap 42 (.iconst 5) 1 43 := ⟨by decide +kernel, rfl⟩
theorem eX7_swap_43 : DJ mX7_swap 43 .goto 93 46 := ⟨50, by decide +kernel, by decide, rfl⟩
theorem eX7_swap_46 : DC mX7_swap 46 (.aload_n 0) 1 47 := ⟨by decide +kernel, rfl⟩
theorem eX7_swap_47 : DC mX7_swap 47 (.getfield 50) 3 50 := ⟨by decide +kernel, rfl⟩
theorem eX7_swap_50 : DC mX7_swap 50 (.iload_n 1) 1 51 := ⟨by decide +kernel, rfl⟩
theorem eX7_swap_51 : DC mX7_swap 51 .iaload 1 52 := ⟨by decide +kernel, rfl⟩
theorem eX7_swap_52 : DC mX7_swap 52 (.iconst 1) 1 53 := ⟨by decide +kernel, rfl⟩
theorem eX7_swap_53 : DJ mX7_swap 53 (.if_icmp .ne) 66 56 := ⟨13, by decide +kernel, by decide, rfl⟩
theorem eX7_swap_56 : DC mX7_swap 56 (.aload_n 0) 1 57 := ⟨by decide +kernel, rfl⟩
theorem eX7_swap_57 : DC mX7_swap 57 (.getfield 50) 3 60 := ⟨by decide +kernel, rfl⟩
theorem eX7_swap_60 : DC mX7_swap 60 (.iload_n 2) 1 61 := ⟨by decide +kernel, rfl⟩
theorem eX7_swap_61 : DC mX7_swap 61 .iaload 1 62 := ⟨by decide +kernel, rfl⟩
theorem eX7_swap_62 : DC mX7_swap 62 (.iconst 1) 1 63 := ⟨by decide +kernel, rfl⟩
theorem eX7_swap_63 : DJ mX7_swap 63 (.if_icmp .eq) 71 66 := ⟨8, by decide +kernel, by decide, rfl⟩
theorem eX7_swap_66 : DC mX7_swap 66 (.bipush 6) 2 68 := ⟨by decide +kernel, rfl⟩
theorem eX7_swap_68 : DJ mX7_swap 68 .goto 93 71 := ⟨25, by decide +kernel, by decide, rfl⟩
theorem eX7_swap_71 : DC mX7_swap 71 (.aload_n 0) 1 72 := ⟨by decide +kernel, rfl⟩
theorem eX7_swap_72 : DC mX7_swap 72 (.iload_n 1) 1 73 := ⟨by decide +kernel, rfl⟩
theorem eX7_swap_73 : DC mX7_swap 73 (.invokevirtual 175) 3 76 := ⟨by decide +kernel, rfl⟩
theorem eX7_swap_76 : DJ mX7_swap 76 (.ifCond .ne) 87 79 := ⟨11, by decide +kernel, by decide, rfl⟩
theorem eX7_swap_79 : DC mX7_swap 79 (.aload_n 0) 1 80 := ⟨by decide +kernel, rfl⟩
theorem eX7_swap_80 : DC mX7_swap 80 (.iload_n 2) 1 81 := ⟨by decide +kernel, rfl⟩
theorem eX7_swap_81 : DC mX7_swap 81 (.invokevirtual 175) 3 84 := ⟨by decide +kernel, rfl⟩
theorem eX7_swap_84 : DJ mX7_swap 84 (.ifCond .eq) 92 87 := ⟨8, by decide +kernel, by decide, rfl⟩
theorem eX7_swap_87 : DC mX7_swap 87 (.bipush 7) 2 89 := ⟨by decide +kernel, rfl⟩
theorem eX7_swap_89 : DJ mX7_swap 89 .goto 93 92 := ⟨4, by decide +kernel, by decide, rfl⟩
theorem eX7_swap_92 : DC mX7_swap 92 (.iconst 0) 1 93 := ⟨by decide +kernel, rfl⟩
theorem eX7_swap_93 : DC mX7_swap 93 (.putfield 80) 3 96 := ⟨by decide +kernel, rfl⟩
theorem eX7_swap_96 : DC mX7_swap 96 (.aload_n 0) 1 97 := ⟨by decide +kernel, rfl⟩
theorem eX7_swap_97 : DC mX7_swap 97 (.getfield 80) 3 100 := ⟨by decide +kernel, rfl⟩
theorem eX7_swap_100 : DJ mX7_swap 100 (.ifCond .le) 105 103 := ⟨5, by decide +kernel, by decide, rfl⟩
theorem eX7_swap_103 : DC mX7_swap 103 (.iconst 0) 1 104 := ⟨by decide +kernel, rfl⟩
theorem eX7_swap_104 : DC mX7_swap 104 .ireturn 1 105 := ⟨by decide +kernel, rfl⟩
theorem eX7_swap_105 : DC mX7_swap 105 (.bipush 8) 2 107 := ⟨by decide +kernel, rfl⟩
theorem eX7_swap_107 : DC mX7_swap 107 (.iload_n 1) 1 108 := ⟨by decide +kernel, rfl⟩
theorem eX7_swap_108 : DC mX7_swap 108 .imul 1 109 := ⟨by decide +kernel, rfl⟩
theorem eX7_swap_109 : DC mX7_swap 109 (.istore_n 3) 1 110 := ⟨by decide +kernel, rfl⟩
theorem eX7_swap_110 : DC mX7_swap 110 (.bipush 8) 2 112 := ⟨by decide +kernel, rfl⟩
theorem eX7_swap_112 : DC mX7_swap 112 (.iload_n 2) 1 113 := ⟨by decide +kernel, rfl⟩
theorem eX7_swap_113 : DC mX7_swap 113 .imul 1 114 := ⟨by decide +kernel, rfl⟩
theorem eX7_swap_114 : DC mX7_swap 114 (.istore 4) 2 116 := ⟨by decide +kernel, rfl⟩
theorem eX7_swap_116 : DC mX7_swap 116 (.aload_n 0) 1 117 := ⟨by decide +kernel, rfl⟩
theorem eX7_swap_117 : DC mX7_swap 117 (.getfield 53) 3 120 := ⟨by decide +kernel, rfl⟩
theorem eX7_swap_120 : DC mX7_swap 120 (.iload_n 3) 1 121 := ⟨by decide +kernel, rfl⟩
theorem eX7_swap_121 : DC mX7_swap 121 .iaload 1 122 := ⟨by decide +kernel, rfl⟩
theorem eX7_swap_122 : DC mX7_swap 122 (.istore 5) 2 124 := ⟨by decide +kernel, rfl⟩
theorem eX7_swap_124 : DC mX7_swap 124 (.aload_n 0) 1 125 := ⟨by decide +kernel, rfl⟩
theorem eX7_swap_125 : DC mX7_swap 125 (.getfield 53) 3 128 := ⟨by decide +kernel, rfl⟩
theorem eX7_swap_128 : DC mX7_swap 128 (.iload 4) 2 130 := ⟨by decide +kernel, rfl⟩
theorem eX7_swap_130 : DC mX7_swap 130 .iaload 1 131 := ⟨by decide +kernel, rfl⟩
theorem eX7_swap_131 : DC mX7_swap 131 (.istore 6) 2 133 := ⟨by decide +kernel, rfl⟩
theorem eX7_swap_133 : DC mX7_swap 133 (.aload_n 0) 1 134 := ⟨by decide +kernel, rfl⟩
theorem eX7_swap_134 : DC mX7_swap 134 (.getfield 50) 3 137 := ⟨by decide +kernel, rfl⟩
theorem eX7_swap_137 : DC mX7_swap 137 (.iload_n 1) 1 138 := ⟨by decide +kernel, rfl⟩
theorem eX7_swap_138 : DC mX7_swap 138 (.iconst 0) 1 139 := ⟨by decide +kernel, rfl⟩
theorem eX7_swap_139 : DC mX7_swap 139 .iastore 1 140 := ⟨by decide +kernel, rfl⟩
theorem eX7_swap_140 : DC mX7_swap 140 (.aload_n 0) 1 141 := ⟨by decide +kernel, rfl⟩
theorem eX7_swap_141 : DC mX7_swap 141 (.getfield 50) 3 144 := ⟨by decide +kernel, rfl⟩
theorem eX7_swap_144 : DC mX7_swap 144 (.iload_n 2) 1 145 := ⟨by decide +kernel, rfl⟩
theorem eX7_swap_145 : DC mX7_swap 145 (.iconst 0) 1 146 := ⟨by decide +kernel, rfl⟩
theorem eX7_swap_146 : DC mX7_swap 146 .iastore 1 147 := ⟨by decide +kernel, rfl⟩
theorem eX7_swap_147 : DC mX7_swap 147 (.aload_n 0) 1 148 := ⟨by decide +kernel, rfl⟩
theorem eX7_swap_148 : DC mX7_swap 148 (.aload_n 0) 1 149 := ⟨by decide +kernel, rfl⟩
theorem eX7_swap_149 : DC mX7_swap 149 (.iload_n 1) 1 150 := ⟨by decide +kernel, rfl⟩
theorem eX7_swap_150 : DC mX7_swap 150 (.iload 6) 2 152 := ⟨by decide +kernel, rfl⟩
theorem eX7_swap_152 : DC mX7_swap 152 (.aload_n 0) 1 153 := ⟨by decide +kernel, rfl⟩
theorem eX7_swap_153 : DC mX7_swap 153 (.getfield 56) 3 156 := ⟨by decide +kernel, rfl⟩
theorem eX7_swap_156 : DC mX7_swap 156 (.iload_n 3) 1 157 := ⟨by decide +kernel, rfl⟩
theorem eX7_swap_157 : DC mX7_swap 157 .iaload 1 158 := ⟨by decide +kernel, rfl⟩
theorem eX7_swap_158 : DC mX7_swap 158 (.aload_n 0) 1 159 := ⟨by decide +kernel, rfl⟩
theorem eX7_swap_159 : DC mX7_swap 159 (.getfield 59) 3 162 := ⟨by decide +kernel, rfl⟩
theorem eX7_swap_162 : DC mX7_swap 162 (.iload_n 3) 1 163 := ⟨by decide +kernel, rfl⟩
theorem eX7_swap_163 : DC mX7_swap 163 .iaload 1 164 := ⟨by decide +kernel, rfl⟩
theorem eX7_swap_164 : DC mX7_swap 164 (.invokevirtual 165) 3 167 := ⟨by decide +kernel, rfl⟩
theorem eX7_swap_167 : DC mX7_swap 167 (.invokevirtual 181) 3 170 := ⟨by decide +kernel, rfl⟩
theorem eX7_swap_170 : DC mX7_swap 170 (.istore 7) 2 172 := ⟨by decide +kernel, rfl⟩
theorem eX7_swap_172 : DC mX7_swap 172 (.iload 7) 2 174 := ⟨by decide +kernel, rfl⟩
theorem eX7_swap_174 : DJ mX7_swap 174 (.ifCond .ne) 219 177 := ⟨45, by decide +kernel, by decide, rfl⟩
theorem eX7_swap_177 : DC mX7_swap 177 (.aload_n 0) 1 178 := ⟨by decide +kernel, rfl⟩
theorem eX7_swap_178 : DC mX7_swap 178 (.getfield 53) 3 181 := ⟨by decide +kernel, rfl⟩
theorem eX7_swap_181 : DC mX7_swap 181 (.iload_n 3) 1 182 := ⟨by decide +kernel, rfl⟩
theorem eX7_swap_182 : DC mX7_swap 182 (.iload 6) 2 184 := ⟨by decide +kernel, rfl⟩
theorem eX7_swap_184 : DC mX7_swap 184 .iastore 1 185 := ⟨by decide +kernel, rfl⟩
theorem eX7_swap_185 : DC mX7_swap 185 (.aload_n 0) 1 186 := ⟨by decide +kernel, rfl⟩
theorem eX7_swap_186 : DC mX7_swap 186 (.getfield 50) 3 189 := ⟨by decide +kernel, rfl⟩
theorem eX7_swap_189 : DC mX7_swap 189 (.iload_n 1) 1 190 := ⟨by decide +kernel, rfl⟩
theorem eX7_swap_190 : DC mX7_swap 190 (.iconst 1) 1 191 := ⟨by decide +kernel, rfl⟩
theorem eX7_swap_191 : DC mX7_swap 191 .iastore 1 192 := ⟨by decide +kernel, rfl⟩
theorem eX7_swap_192 : DC mX7_swap 192 (.aload_n 0) 1 193 := ⟨by decide +kernel, rfl⟩
theorem eX7_swap_193 : DC mX7_swap 193 (.aload_n 0) 1 194 := ⟨by decide +kernel, rfl⟩
theorem eX7_swap_194 : DC mX7_swap 194 (.iload_n 2) 1 195 := ⟨by decide +kernel, rfl⟩
theorem eX7_swap_195 : DC mX7_swap 195 (.iload 5) 2 197 := ⟨by decide +kernel, rfl⟩
theorem eX7_swap_197 : DC mX7_swap 197 (.aload_n 0) 1 198 := ⟨by decide +kernel, rfl⟩
theorem eX7_swap_198 : DC mX7_swap 198 (.getfield 56) 3 201 := ⟨by decide +kernel, rfl⟩
theorem eX7_swap_201 : DC mX7_swap 201 (.iload 4) 2 203 := ⟨by decide +kernel, rfl⟩
theorem eX7_swap_203 : DC mX7_swap 203 .iaload 1 204 := ⟨by decide +kernel, rfl⟩
theorem eX7_swap_204 : DC mX7_swap 204 (.aload_n 0) 1 205 := ⟨by decide +kernel, rfl⟩
theorem eX7_swap_205 : DC mX7_swap 205 (.getfield 59) 3 208 := ⟨by decide +kernel, rfl⟩
theorem eX7_swap_208 : DC mX7_swap 208 (.iload 4) 2 210 := ⟨by decide +kernel, rfl⟩
theorem eX7_swap_210 : DC mX7_swap 210 .iaload 1 211 := ⟨by decide +kernel, rfl⟩
theorem eX7_swap_211 : DC mX7_swap 211 (.invokevirtual 165) 3 214 := ⟨by decide +kernel, rfl⟩
theorem eX7_swap_214 : DC mX7_swap 214 (.invokevirtual 181) 3 217 := ⟨by decide +kernel, rfl⟩
theorem eX7_swap_217 : DC mX7_swap 217 (.istore 7) 2 219 := ⟨by decide +kernel, rfl⟩
theorem eX7_swap_219 : DC mX7_swap 219 (.aload_n 0) 1 220 := ⟨by decide +kernel, rfl⟩
theorem eX7_swap_220 : DC mX7_swap 220 (.getfield 50) 3 223 := ⟨by decide +kernel, rfl⟩
theorem eX7_swap_223 : DC mX7_swap 223 (.iload_n 1) 1 224 := ⟨by decide +kernel, rfl⟩
theorem eX7_swap_224 : DC mX7_swap 224 (.iconst 1) 1 225 := ⟨by decide +kernel, rfl⟩
theorem eX7_swap_225 : DC mX7_swap 225 .iastore 1 226 := ⟨by decide +kernel, rfl⟩
theorem eX7_swap_226 : DC mX7_swap 226 (.aload_n 0) 1 227 := ⟨by decide +kernel, rfl⟩
theorem eX7_swap_227 : DC mX7_swap 227 (.getfield 50) 3 230 := ⟨by decide +kernel, rfl⟩
theorem eX7_swap_230 : DC mX7_swap 230 (.iload_n 2) 1 231 := ⟨by decide +kernel, rfl⟩
theorem eX7_swap_231 : DC mX7_swap 231 (.iconst 1) 1 232 := ⟨by decide +kernel, rfl⟩
theorem eX7_swap_232 : DC mX7_swap 232 .iastore 1 233 := ⟨by decide +kernel, rfl⟩
theorem eX7_swap_233 : DC mX7_swap 233 (.aload_n 0) 1 234 := ⟨by decide +kernel, rfl⟩
theorem eX7_swap_234 : DC mX7_swap 234 (.getfield 53) 3 237 := ⟨by decide +kernel, rfl⟩
theorem eX7_swap_237 : DC mX7_swap 237 (.iload_n 3) 1 238 := ⟨by decide +kernel, rfl⟩
theorem eX7_swap_238 : DC mX7_swap 238 (.iload 7) 2 240 := ⟨by decide +kernel, rfl⟩
theorem eX7_swap_240 : DJ mX7_swap 240 (.ifCond .eq) 248 243 := ⟨8, by decide +kernel, by decide, rfl⟩
theorem eX7_swap_243 : DC mX7_swap 243 (.iload 5) 2 245 := ⟨by decide +kernel, rfl⟩
theorem eX7_swap_245 : DJ mX7_swap 245 .goto 250 248 := ⟨5, by decide +kernel, by decide, rfl⟩
theorem eX7_swap_248 : DC mX7_swap 248 (.iload 6) 2 250 := ⟨by decide +kernel, rfl⟩
theorem eX7_swap_250 : DC mX7_swap 250 .iastore 1 251 := ⟨by decide +kernel, rfl⟩
theorem eX7_swap_251 : DC mX7_swap 251 (.aload_n 0) 1 252 := ⟨by decide +kernel, rfl⟩
theorem eX7_swap_252 : DC mX7_swap 252 (.getfield 53) 3 255 := ⟨by decide +kernel, rfl⟩
theorem eX7_swap_255 : DC mX7_swap 255 (.iload 4) 2 257 := ⟨by decide +kernel, rfl⟩
theorem eX7_swap_257 : DC mX7_swap 257 (.iload 7) 2 259 := ⟨by decide +kernel, rfl⟩
theorem eX7_swap_259 : DJ mX7_swap 259 (.ifCond .eq) 267 262 := ⟨8, by decide +kernel, by decide, rfl⟩
theorem eX7_swap_262 : DC mX7_swap 262 (.iload 6) 2 264 := ⟨by decide +kernel, rfl⟩
theorem eX7_swap_264 : DJ mX7_swap 264 .goto 269 267 := ⟨5, by decide +kernel, by decide, rfl⟩
theorem eX7_swap_267 : DC mX7_swap 267 (.iload 5) 2 269 := ⟨by decide +kernel, rfl⟩
theorem eX7_swap_269 : DC mX7_swap 269 .iastore 1 270 := ⟨by decide +kernel, rfl⟩
theorem eX7_swap_270 : DC mX7_swap 270 (.aload_n 0) 1 271 := ⟨by decide +kernel, rfl⟩
theorem eX7_swap_271 : DC mX7_swap 271 (.iload 7) 2 273 := ⟨by decide +kernel, rfl⟩
theorem eX7_swap_273 : DJ mX7_swap 273 (.ifCond .eq) 281 276 := ⟨8, by decide +kernel, by decide, rfl⟩
theorem eX7_swap_276 : DC mX7_swap 276 (.bipush 8) 2 278 := ⟨by decide +kernel, rfl⟩
theorem eX7_swap_278 : DJ mX7_swap 278 .goto 282 281 := ⟨4, by decide +kernel, by decide, rfl⟩
theorem eX7_swap_281 : DC mX7_swap 281 (.iconst 0) 1 282 := ⟨by decide +kernel, rfl⟩
theorem eX7_swap_282 : DC mX7_swap 282 (.putfield 80) 3 285 := ⟨by decide +kernel, rfl⟩
theorem eX7_swap_285 : DC mX7_swap 285 (.iload 7) 2 287 := ⟨by decide +kernel, rfl⟩
theorem eX7_swap_287 : DJ mX7_swap 287 (.ifCond .ne) 294 290 := ⟨7, by decide +kernel, by decide, rfl⟩
theorem eX7_swap_290 : DC mX7_swap 290 (.iconst 1) 1 291 := ⟨by decide +kernel, rfl⟩
theorem eX7_swap_291 : DJ mX7_swap 291 .goto 295 294 := ⟨4, by decide +kernel, by decide, rfl⟩
theorem eX7_swap_294 : DC mX7_swap 294 (.iconst 0) 1 295 := ⟨by decide +kernel, rfl⟩
theorem eX7_swap_295 : DC mX7_swap 295 .ireturn 1 296 := ⟨by decide +kernel, rfl⟩
theorem eX7_lines_0 : DC mX7_lines 0 (.aload_n 0) 1 1 := ⟨by decide +kernel, rfl⟩
theorem eX7_lines_1 : DC mX7_lines 1 (.getfield 188) 3 4 := ⟨by decide +kernel, rfl⟩
theorem eX7_lines_4 : DC mX7_lines 4 (.istore_n 2) 1 5 := ⟨by decide +kernel, rfl⟩
theorem eX7_lines_5 : DC mX7_lines 5 (.iload_n 2) 1 6 := ⟨by decide +kernel, rfl⟩
theorem eX7_lines_6 : DJ mX7_lines 6 (.ifCond .le) 81 9 := ⟨75, by decide +kernel, by decide, rfl⟩
theorem eX7_lines_9 : DC mX7_lines 9 (.aload_n 0) 1 10 := ⟨by decide +kernel, rfl⟩
theorem eX7_lines_10 : DC mX7_lines 10 (.aload_n 0) 1 11 := ⟨by decide +kernel, rfl⟩
theorem eX7_lines_11 : DC mX7_lines 11 (.getfield 62) 3 14 := ⟨by decide +kernel, rfl⟩
theorem eX7_lines_14 : DC mX7_lines 14 (.iload_n 2) 1 15 := ⟨by decide +kernel, rfl⟩
theorem eX7_lines_15 : DC mX7_lines 15 (.iconst 1) 1 16 := ⟨by decide +kernel, rfl⟩
theorem eX7_lines_16 : DC mX7_lines 16 .isub 1 17 := ⟨by decide +kernel, rfl⟩
theorem eX7_lines_17 : DC mX7_lines 17 .iaload 1 18 := ⟨by decide +kernel, rfl⟩
theorem eX7_lines_18 : DC mX7_lines 18 (.invokevirtual 119) 3 21 := ⟨by decide +kernel, rfl⟩
theorem eX7_lines_21 : DC mX7_lines 21 (.aload_n 0) 1 22 := ⟨by decide +kernel, rfl⟩
theorem eX7_lines_22 : DC mX7_lines 22 (.iload_n 1) 1 23 := ⟨by decide +kernel, rfl⟩
theorem eX7_lines_23 : DC mX7_lines 23 (.invokevirtual 119) 3 26 := ⟨by decide +kernel, rfl⟩
theorem eX7_lines_26 : DJ mX7_lines 26 (.if_icmp .gt) 61 29 := ⟨35, by decide +kernel, by decide, rfl⟩
theorem eX7_lines_29 : DC mX7_lines 29 (.aload_n 0) 1 30 := ⟨by decide +kernel, rfl⟩
theorem eX7_lines_30 : DC mX7_lines 30 (.aload_n 0) 1 31 := ⟨by decide +kernel, rfl⟩
theorem eX7_lines_31 : DC mX7_lines 31 (.getfield 62) 3 34 := ⟨by decide +kernel, rfl⟩
theorem eX7_lines_34 : DC mX7_lines 34 (.iload_n 2) 1 35 := ⟨by decide +kernel, rfl⟩
theorem eX7_lines_35 : DC mX7_lines 35 (.iconst 1) 1 36 := ⟨by decide +kernel, rfl⟩
theorem eX7_lines_36 : DC mX7_lines 36 .isub 1 37 := ⟨by decide +kernel, rfl⟩
theorem eX7_lines_37 : DC mX7_lines 37 .iaload 1 38 := ⟨by decide +kernel, rfl⟩
theorem eX7_lines_38 : DC mX7_lines 38 (.invokevirtual 119) 3 41 := ⟨by decide +kernel, rfl⟩
theorem eX7_lines_41 : DC mX7_lines 41 (.aload_n 0) 1 42 := ⟨by decide +kernel, rfl⟩
theorem eX7_lines_42 : DC mX7_lines 42 (.iload_n 1) 1 43 := ⟨by decide +kernel, rfl⟩
theorem eX7_lines_43 : DC mX7_lines 43 (.invokevirtual 119) 3 46 := ⟨by decide +kernel, rfl⟩
theorem eX7_lines_46 : DJ mX7_lines 46 (.if_icmp .ne) 81 49 := ⟨35, by decide +kernel, by decide, rfl⟩
theorem eX7_lines_49 : DC mX7_lines 49 (.aload_n 0) 1 50 := ⟨by decide +kernel, rfl⟩
theorem eX7_lines_50 : DC mX7_lines 50 (.getfield 62) 3 53 := ⟨by decide +kernel, rfl⟩
theorem eX7_lines_53 : DC mX7_lines 53 (.iload_n 2) 1 54 := ⟨by decide +kernel, rfl⟩
theorem eX7_lines_54 : DC mX7_lines 54 (.iconst 1) 1 55 := ⟨by decide +kernel, rfl⟩
theorem eX7_lines_55 : DC mX7_lines 55 .isub 1 56 := ⟨by decide +kernel, rfl⟩
theorem eX7_lines_56 : DC mX7_lines 56 .iaload 1 57 := ⟨by decide +kernel, rfl⟩
theorem eX7_lines_57 : DC mX7_lines 57 (.iload_n 1) 1 58 := ⟨by decide +kernel, rfl⟩
theorem eX7_lines_58 : DJ mX7_lines 58 (.if_icmp .le) 81 61 := ⟨23, by decide +kernel, by decide, rfl⟩
theorem eX7_lines_61 : DC mX7_lines 61 (.aload_n 0) 1 62 := ⟨by decide +kernel, rfl⟩
theorem eX7_lines_62 : DC mX7_lines 62 (.getfield 62) 3 65 := ⟨by decide +kernel, rfl⟩
theorem eX7_lines_65 : DC mX7_lines 65 (.iload_n 2) 1 66 := ⟨by decide +kernel, rfl⟩
theorem eX7_lines_66 : DC mX7_lines 66 (.aload_n 0) 1 67 := ⟨by decide +kernel, rfl⟩
theorem eX7_lines_67 : DC mX7_lines 67 (.getfield 62) 3 70 := ⟨by decide +kernel, rfl⟩
theorem eX7_lines_70 : DC mX7_lines 70 (.iload_n 2) 1 71 := ⟨by decide +kernel, rfl⟩
theorem eX7_lines_71 : DC mX7_lines 71 (.iconst 1) 1 72 := ⟨by decide +kernel, rfl⟩
theorem eX7_lines_72 : DC mX7_lines 72 .isub 1 73 := ⟨by decide +kernel, rfl⟩
theorem eX7_lines_73 : DC mX7_lines 73 .iaload 1 74 := ⟨by decide +kernel, rfl⟩
theorem eX7_lines_74 : DC mX7_lines 74 .iastore 1 75 := ⟨by decide +kernel, rfl⟩
theorem eX7_lines_75 : DC mX7_lines 75 (.iinc 2 (-1)) 3 78 := ⟨by decide +kernel, rfl⟩
theorem eX7_lines_78 : DJ mX7_lines 78 .goto 5 81 := ⟨(-73), by decide +kernel, by decide, rfl⟩
theorem eX7_lines_81 : DC mX7_lines 81 (.aload_n 0) 1 82 := ⟨by decide +kernel, rfl⟩
theorem eX7_lines_82 : DC mX7_lines 82 (.getfield 62) 3 85 := ⟨by decide +kernel, rfl⟩
theorem eX7_lines_85 : DC mX7_lines 85 (.iload_n 2) 1 86 := ⟨by decide +kernel, rfl⟩
theorem eX7_lines_86 : DC mX7_lines 86 (.iload_n 1) 1 87 := ⟨by decide +kernel, rfl⟩
theorem eX7_lines_87 : DC mX7_lines 87 .iastore 1 88 := ⟨by decide +kernel, rfl⟩
theorem eX7_lines_88 : DC mX7_lines 88 (.aload_n 0) 1 89 := ⟨by decide +kernel, rfl⟩
theorem eX7_lines_89 : DC mX7_lines 89 .dup 1 90 := ⟨by decide +kernel, rfl⟩
theorem eX7_lines_90 : DC mX7_lines 90 (.getfield 188) 3 93 := ⟨by decide +kernel, rfl⟩
theorem eX7_lines_93 : DC mX7_lines 93 (.iconst 1) 1 94 := ⟨by decide +kernel, rfl⟩
theorem eX7_lines_94 : DC mX7_lines 94 .iadd 1 95 := ⟨by decide +kernel, rfl⟩
theorem eX7_lines_95 : DC mX7_lines 95 (.putfield 188) 3 98 := ⟨by decide +kernel, rfl⟩
theorem eX7_lines_98 : DC mX7_lines 98 .return_ 1 99 := ⟨by decide +kernel, rfl⟩
theorem eX7_isPlanned_0 : DC mX7_isPlanned 0 (.aload_n 0) 1 1 := ⟨by decide +kernel, rfl⟩
theorem eX7_isPlanned_1 : DC mX7_isPlanned 1 (.iload_n 1) 1 2 := ⟨by decide +kernel, rfl⟩
theorem eX7_isPlanned_2 : DC mX7_isPlanned 2 (.invokevirtual 116) 3 5 := ⟨by decide +kernel, rfl⟩
theorem eX7_isPlanned_5 : DJ mX7_isPlanned 5 (.ifCond .ne) 28 8 := ⟨23, by decide +kernel, by decide, rfl⟩
theorem eX7_isPlanned_8 : DC mX7_isPlanned 8 (.aload_n 0) 1 9 := ⟨by decide +kernel, rfl⟩
theorem eX7_isPlanned_9 : DC mX7_isPlanned 9 (.iload_n 1) 1 10 := ⟨by decide +kernel, rfl⟩
theorem eX7_isPlanned_10 : DC mX7_isPlanned 10 (.invokevirtual 172) 3 13 := ⟨by decide +kernel, rfl⟩
theorem eX7_isPlanned_13 : DJ mX7_isPlanned 13 (.ifCond .ne) 28 16 := ⟨15, by decide +kernel, by decide, rfl⟩
theorem eX7_isPlanned_16 : DC mX7_isPlanned 16 (.aload_n 0) 1 17 := ⟨by decide +kernel, rfl⟩
theorem eX7_isPlanned_17 : DC mX7_isPlanned 17 (.iload_n 1) 1 18 := ⟨by decide +kernel, rfl⟩
theorem eX7_isPlanned_18 : DC mX7_isPlanned 18 (.invokevirtual 175) 3 21 := ⟨by decide +kernel, rfl⟩
theorem eX7_isPlanned_21 : DJ mX7_isPlanned 21 (.ifCond .ne) 28 24 := ⟨7, by decide +kernel, by decide, rfl⟩
theorem eX7_isPlanned_24 : DC mX7_isPlanned 24 (.iconst 1) 1 25 := ⟨by decide +kernel, rfl⟩
theorem eX7_isPlanned_25 : DJ mX7_isPlanned 25 .goto 29 28 := ⟨4, by decide +kernel, by decide, rfl⟩
theorem eX7_isPlanned_28 : DC mX7_isPlanned 28 (.iconst 0) 1 29 := ⟨by decide +kernel, rfl⟩
theorem eX7_isPlanned_29 : DC mX7_isPlanned 29 .ireturn 1 30 := ⟨by decide +kernel, rfl⟩
theorem eX7_plan_0 : DC mX7_plan 0 (.aload_n 0) 1 1 := ⟨by decide +kernel, rfl⟩
theorem eX7_plan_1 : DC mX7_plan 1 (.iconst 0) 1 2 := ⟨by decide +kernel, rfl⟩
theorem eX7_plan_2 : DC mX7_plan 2 (.putfield 188) 3 5 := ⟨by decide +kernel, rfl⟩
theorem eX7_plan_5 : DC mX7_plan 5 (.iconst 0) 1 6 := ⟨by decide +kernel, rfl⟩
theorem eX7_plan_6 : DC mX7_plan 6 (.istore_n 1) 1 7 := ⟨by decide +kernel, rfl⟩
theorem eX7_plan_7 : DC mX7_plan 7 (.iload_n 1) 1 8 := ⟨by decide +kernel, rfl⟩
theorem eX7_plan_8 : DC mX7_plan 8 (.aload_n 0) 1 9 := ⟨by decide +kernel, rfl⟩
theorem eX7_plan_9 : DC mX7_plan 9 (.getfield 89) 3 12 := ⟨by decide +kernel, rfl⟩
theorem eX7_plan_12 : DJ mX7_plan 12 (.if_icmp .ge) 34 15 := ⟨22, by decide +kernel, by decide, rfl⟩
theorem eX7_plan_15 : DC mX7_plan 15 (.aload_n 0) 1 16 := ⟨by decide +kernel, rfl⟩
theorem eX7_plan_16 : DC mX7_plan 16 (.iload_n 1) 1 17 := ⟨by decide +kernel, rfl⟩
theorem eX7_plan_17 : DC mX7_plan 17 (.invokevirtual 191) 3 20 := ⟨by decide +kernel, rfl⟩
theorem eX7_plan_20 : DJ mX7_plan 20 (.ifCond .eq) 28 23 := ⟨8, by decide +kernel, by decide, rfl⟩
theorem eX7_plan_23 : DC mX7_plan 23 (.aload_n 0) 1 24 := ⟨by decide +kernel, rfl⟩
theorem eX7_plan_24 : DC mX7_plan 24 (.iload_n 1) 1 25 := ⟨by decide +kernel, rfl⟩
theorem eX7_plan_25 : DC mX7_plan 25 (.invokevirtual 194) 3 28 := ⟨by decide +kernel, rfl⟩
theorem eX7_plan_28 : DC mX7_plan 28 (.iinc 1 1) 3 31 := ⟨by decide +kernel, rfl⟩
theorem eX7_plan_31 : DJ mX7_plan 31 .goto 7 34 := ⟨(-24), by decide +kernel, by decide, rfl⟩
theorem eX7_plan_34 : DC mX7_plan 34 (.iconst 0) 1 35 := ⟨by decide +kernel, rfl⟩
theorem eX7_plan_35 : DC mX7_plan 35 (.istore_n 1) 1 36 := ⟨by decide +kernel, rfl⟩
theorem eX7_plan_36 : DC mX7_plan 36 (.iconst 0) 1 37 := ⟨by decide +kernel, rfl⟩
theorem eX7_plan_37 : DC mX7_plan 37 (.istore_n 2) 1 38 := ⟨by decide +kernel, rfl⟩
theorem eX7_plan_38 : DC mX7_plan 38 (.iload_n 2) 1 39 := ⟨by decide +kernel, rfl⟩
theorem eX7_plan_39 : DC mX7_plan 39 (.aload_n 0) 1 40 := ⟨by decide +kernel, rfl⟩
theorem eX7_plan_40 : DC mX7_plan 40 (.getfield 188) 3 43 := ⟨by decide +kernel, rfl⟩
theorem eX7_plan_43 : DJ mX7_plan 43 (.if_icmp .ge) 105 46 := ⟨62, by decide +kernel, by decide, rfl⟩
theorem eX7_plan_46 : DC mX7_plan 46 (.aload_n 0) 1 47 := ⟨by decide +kernel, rfl⟩
theorem eX7_plan_47 : DC mX7_plan 47 (.getfield 62) 3 50 := ⟨by decide +kernel, rfl⟩
theorem eX7_plan_50 : DC mX7_plan 50 (.iload_n 2) 1 51 := ⟨by decide +kernel, rfl⟩
theorem eX7_plan_51 : DC mX7_plan 51 .iaload 1 52 := ⟨by decide +kernel, rfl⟩
theorem eX7_plan_52 : DC mX7_plan 52 (.istore_n 3) 1 53 := ⟨by decide +kernel, rfl⟩
theorem eX7_plan_53 : DC mX7_plan 53 (.aload_n 0) 1 54 := ⟨by decide +kernel, rfl⟩
theorem eX7_plan_54 : DC mX7_plan 54 (.iload_n 3) 1 55 := ⟨by decide +kernel, rfl⟩
theorem eX7_plan_55 : DC mX7_plan 55 (.aload_n 0) 1 56 := ⟨by decide +kernel, rfl⟩
theorem eX7_plan_56 : DC mX7_plan 56 (.iload_n 3) 1 57 := ⟨by decide +kernel, rfl⟩
theorem eX7_plan_57 : DC mX7_plan 57 (.invokevirtual 119) 3 60 := ⟨by decide +kernel, rfl⟩
theorem eX7_plan_60 : DC mX7_plan 60 (.aload_n 0) 1 61 := ⟨by decide +kernel, rfl⟩
theorem eX7_plan_61 : DC mX7_plan 61 (.iload_n 3) 1 62 := ⟨by decide +kernel, rfl⟩
theorem eX7_plan_62 : DC mX7_plan 62 (.invokevirtual 178) 3 65 := ⟨by decide +kernel, rfl⟩
theorem eX7_plan_65 : DC mX7_plan 65 (.invokevirtual 198) 3 68 := ⟨by decide +kernel, rfl⟩
theorem eX7_plan_68 : DC mX7_plan 68 (.istore 4) 2 70 := ⟨by decide +kernel, rfl⟩
theorem eX7_plan_70 : DC mX7_plan 70 (.iload 4) 2 72 := ⟨by decide +kernel, rfl⟩
theorem eX7_plan_72 : DC mX7_plan 72 (.iconst (-1)) 1 73 := ⟨by decide +kernel, rfl⟩
theorem eX7_plan_73 : DJ mX7_plan 73 (.if_icmp .ne) 82 76 := ⟨9, by decide +kernel, by decide, rfl⟩
theorem eX7_plan_76 : DC mX7_plan 76 (.iinc 1 1) 3 79 := ⟨by decide +kernel, rfl⟩
theorem eX7_plan_79 : DJ mX7_plan 79 .goto 99 82 := ⟨20, by decide +kernel, by decide, rfl⟩
theorem eX7_plan_82 : DC mX7_plan 82 (.aload_n 0) 1 83 := ⟨by decide +kernel, rfl⟩
theorem eX7_plan_83 : DC mX7_plan 83 (.iload_n 3) 1 84 := ⟨by decide +kernel, rfl⟩
theorem eX7_plan_84 : DC mX7_plan 84 (.iload 4) 2 86 := ⟨by decide +kernel, rfl⟩
theorem eX7_plan_86 : DC mX7_plan 86 (.aload_n 0) 1 87 := ⟨by decide +kernel, rfl⟩
theorem eX7_plan_87 : DC mX7_plan 87 (.iload_n 3) 1 88 := ⟨by decide +kernel, rfl⟩
theorem eX7_plan_88 : DC mX7_plan 88 (.invokevirtual 119) 3 91 := ⟨by decide +kernel, rfl⟩
theorem eX7_plan_91 : DC mX7_plan 91 (.aload_n 0) 1 92 := ⟨by decide +kernel, rfl⟩
theorem eX7_plan_92 : DC mX7_plan 92 (.iload_n 3) 1 93 := ⟨by decide +kernel, rfl⟩
theorem eX7_plan_93 : DC mX7_plan 93 (.invokevirtual 178) 3 96 := ⟨by decide +kernel, rfl⟩
theorem eX7_plan_96 : DC mX7_plan 96 (.invokevirtual 184) 3 99 := ⟨by decide +kernel, rfl⟩
theorem eX7_plan_99 : DC mX7_plan 99 (.iinc 2 1) 3 102 := ⟨by decide +kernel, rfl⟩
theorem eX7_plan_102 : DJ mX7_plan 102 .goto 38 105 := ⟨(-64), by decide +kernel, by decide, rfl⟩
theorem eX7_plan_105 : DC mX7_plan 105 (.aload_n 0) 1 106 := ⟨by decide +kernel, rfl⟩
theorem eX7_plan_106 : DC mX7_plan 106 (.iload_n 1) 1 107 := ⟨by decide +kernel, rfl⟩
theorem eX7_plan_107 : DC mX7_plan 107 (.invokevirtual 96) 3 110 := ⟨by decide +kernel, rfl⟩
theorem eX7_plan_110 : DC mX7_plan 110 .ireturn 1 111 := ⟨by decide +kernel, rfl⟩
theorem eX7_search_0 : DC mX7_search 0 (.aload_n 0) 1 1 := ⟨by decide +kernel, rfl⟩
theorem eX7_search_1 : DC mX7_search 1 (.iconst 0) 1 2 := ⟨by decide +kernel, rfl⟩
theorem eX7_search_2 : DC mX7_search 2 (.putfield 188) 3 5 := ⟨by decide +kernel, rfl⟩
theorem eX7_search_5 : DC mX7_search 5 (.iconst 0) 1 6 := ⟨by decide +kernel, rfl⟩
theorem eX7_search_6 : DC mX7_search 6 (.istore_n 2) 1 7 := ⟨by decide +kernel, rfl⟩
theorem eX7_search_7 : DC mX7_search 7 (.iload_n 2) 1 8 := ⟨by decide +kernel, rfl⟩
theorem eX7_search_8 : DC mX7_search 8 (.aload_n 0) 1 9 := ⟨by decide +kernel, rfl⟩
theorem eX7_search_9 : DC mX7_search 9 (.getfield 89) 3 12 := ⟨by decide +kernel, rfl⟩
theorem eX7_search_12 : DJ mX7_search 12 (.if_icmp .ge) 52 15 := ⟨40, by decide +kernel, by decide, rfl⟩
theorem eX7_search_15 : DC mX7_search 15 (.aload_n 0) 1 16 := ⟨by decide +kernel, rfl⟩
theorem eX7_search_16 : DC mX7_search 16 (.iload_n 2) 1 17 := ⟨by decide +kernel, rfl⟩
theorem eX7_search_17 : DC mX7_search 17 (.invokevirtual 191) 3 20 := ⟨by decide +kernel, rfl⟩
theorem eX7_search_20 : DJ mX7_search 20 (.ifCond .ne) 26 23 := ⟨6, by decide +kernel, by decide, rfl⟩
theorem eX7_search_23 : DJ mX7_search 23 .goto 46 26 := ⟨23, by decide +kernel, by decide, rfl⟩
theorem eX7_search_26 : DC mX7_search 26 (.aload_n 0) 1 27 := ⟨by decide +kernel, rfl⟩
theorem eX7_search_27 : DC mX7_search 27 (.getfield 62) 3 30 := ⟨by decide +kernel, rfl⟩
theorem eX7_search_30 : DC mX7_search 30 (.aload_n 0) 1 31 := ⟨by decide +kernel, rfl⟩
theorem eX7_search_31 : DC mX7_search 31 (.getfield 188) 3 34 := ⟨by decide +kernel, rfl⟩
theorem eX7_search_34 : DC mX7_search 34 (.iload_n 2) 1 35 := ⟨by decide +kernel, rfl⟩
theorem eX7_search_35 : DC mX7_search 35 .iastore 1 36 := ⟨by decide +kernel, rfl⟩
theorem eX7_search_36 : DC mX7_search 36 (.aload_n 0) 1 37 := ⟨by decide +kernel, rfl⟩
theorem eX7_search_37 : DC mX7_search 37 .dup 1 38 := ⟨by decide +kernel, rfl⟩
theorem eX7_search_38 : DC mX7_search 38 (.getfield 188) 3 41 := ⟨by decide +kernel, rfl⟩
theorem eX7_search_41 : DC mX7_search 41 (.iconst 1) 1 42 := ⟨by decide +kernel, rfl⟩
theorem eX7_search_42 : DC mX7_search 42 .iadd 1 43 := ⟨by decide +kernel, rfl⟩
theorem eX7_search_43 : DC mX7_search 43 (.putfield 188) 3 46 := ⟨by decide +kernel, rfl⟩
theorem eX7_search_46 : DC mX7_search 46 (.iinc 2 1) 3 49 := ⟨by decide +kernel, rfl⟩
theorem eX7_search_49 : DJ mX7_search 49 .goto 7 52 := ⟨(-42), by decide +kernel, by decide, rfl⟩
theorem eX7_search_52 : DC mX7_search 52 (.aload_n 0) 1 53 := ⟨by decide +kernel, rfl⟩
theorem eX7_search_53 : DC mX7_search 53 (.iconst 0) 1 54 := ⟨by decide +kernel, rfl⟩
theorem eX7_search_54 : DC mX7_search 54 (.putfield 202) 3 57 := ⟨by decide +kernel, rfl⟩
theorem eX7_search_57 : DC mX7_search 57 (.aload_n 0) 1 58 := ⟨by decide +kernel, rfl⟩
theorem eX7_search_58 : DC mX7_search 58 (.iconst (-1)) 1 59 := ⟨by decide +kernel, rfl⟩
theorem eX7_search_59 : DC mX7_search 59 (.putfield 205) 3 62 := ⟨by decide +kernel, rfl⟩
theorem eX7_search_62 : DC mX7_search 62 (.aload_n 0) 1 63 := ⟨by decide +kernel, rfl⟩
theorem eX7_search_63 : DC mX7_search 63 (.getfield 188) 3 66 := ⟨by decide +kernel, rfl⟩
theorem eX7_search_66 : DJ mX7_search 66 (.ifCond .ne) 76 69 := ⟨10, by decide +kernel, by decide, rfl⟩
theorem eX7_search_69 : DC mX7_search 69 (.aload_n 0) 1 70 := ⟨by decide +kernel, rfl⟩
theorem eX7_search_70 : DC mX7_search 70 (.iconst 0) 1 71 := ⟨by decide +kernel, rfl⟩
theorem eX7_search_71 : DC mX7_search 71 (.putfield 205) 3 74 := ⟨by decide +kernel, rfl⟩
theorem eX7_search_74 : DC mX7_search 74 (.iconst 1) 1 75 := ⟨by decide +kernel, rfl⟩
theorem eX7_search_75 : DC mX7_search 75 .ireturn 1 76 := ⟨by decide +kernel, rfl⟩
theorem eX7_search_76 : DC mX7_search 76 (.iconst 0) 1 77 := ⟨by decide +kernel, rfl⟩
theorem eX7_search_77 : DC mX7_search 77 (.istore_n 2) 1 78 := ⟨by decide +kernel, rfl⟩
theorem eX7_search_78 : DC mX7_search 78 (.aload_n 0) 1 79 := ⟨by decide +kernel, rfl⟩
theorem eX7_search_79 : DC mX7_search 79 (.getfield 65) 3 82 := ⟨by decide +kernel, rfl⟩
theorem eX7_search_82 : DC mX7_search 82 (.iconst 0) 1 83 := ⟨by decide +kernel, rfl⟩
theorem eX7_search_83 : DC mX7_search 83 (.iconst (-1)) 1 84 := ⟨by decide +kernel, rfl⟩
theorem eX7_search_84 : DC mX7_search 84 .iastore 1 85 := ⟨by decide +kernel, rfl⟩
theorem eX7_search_85 : DC mX7_search 85 (.iconst 0) 1 86 := ⟨by decide +kernel, rfl⟩
theorem eX7_search_86 : DC mX7_search 86 (.istore_n 3) 1 87 := ⟨by decide +kernel, rfl⟩
theorem eX7_search_87 : DC mX7_search 87 (.iload_n 2) 1 88 := ⟨by decide +kernel, rfl⟩
theorem eX7_search_88 : DJ mX7_search 88 (.ifCond .lt) 264 91 := ⟨176, by decide +kernel, by decide, rfl⟩
theorem eX7_search_91 : DC mX7_search 91 (.iload_n 3) 1 92 := ⟨by decide +kernel, rfl⟩
theorem eX7_search_92 : DJ mX7_search 92 (.ifCond .ne) 264 95 := ⟨172, by decide +kernel, by decide, rfl⟩
theorem eX7_search_95 : DC mX7_search 95 (.aload_n 0) 1 96 := ⟨by decide +kernel, rfl⟩
theorem eX7_search_96 : DC mX7_search 96 (.getfield 62) 3 99 := ⟨by decide +kernel, rfl⟩
theorem eX7_search_99 : DC mX7_search 99 (.iload_n 2) 1 100 := ⟨by decide +kernel, rfl⟩
theorem eX7_search_100 : DC mX7_search 100 .iaload 1 101 := ⟨by decide +kernel, rfl⟩
theorem eX7_search_101 : DC mX7_search 101 (.istore 4) 2 103 := ⟨by decide +kernel, rfl⟩
theorem eX7_search_103 : DC mX7_search 103 (.aload_n 0) 1 104 := ⟨by decide +kernel, rfl⟩
theorem eX7_search_104 : DC mX7_search 104 (.getfield 50) 3 107 := ⟨by decide +kernel, rfl⟩
theorem eX7_search_107 : DC mX7_search 107 (.iload 4) 2 109 := ⟨by decide +kernel, rfl⟩
theorem eX7_search_109 : DC mX7_search 109 (.iconst 0) 1 110 := ⟨by decide +kernel, rfl⟩
theorem eX7_search_110 : DC mX7_search 110 .iastore 1 111 := ⟨by decide +kernel, rfl⟩
theorem eX7_search_111 : DC mX7_search 111 (.aload_n 0) 1 112 := ⟨by decide +kernel, rfl⟩
theorem eX7_search_112 : DC mX7_search 112 (.getfield 65) 3 115 := ⟨by decide +kernel, rfl⟩
theorem eX7_search_115 : DC mX7_search 115 (.iload_n 2) 1 116 := ⟨by decide +kernel, rfl⟩
theorem eX7_search_116 : DC mX7_search 116 .dup2 1 117 := ⟨by decide +kernel, rfl⟩
theorem eX7_search_117 : DC mX7_search 117 .iaload 1 118 := ⟨by decide +kernel, rfl⟩
theorem eX7_search_118 : DC mX7_search 118 (.iconst 1) 1 119 := ⟨by decide +kernel, rfl⟩
theorem eX7_search_119 : DC mX7_search 119 .iadd 1 120 := ⟨by decide +kernel, rfl⟩
theorem eX7_search_120 : DC mX7_search 120 .iastore 1 121 := ⟨by decide +kernel, rfl⟩
theorem eX7_search_121 : DC mX7_search 121 (.aload_n 0) 1 122 := ⟨by decide +kernel, rfl⟩
theorem eX7_search_122 : DC mX7_search 122 (.getfield 65) 3 125 := ⟨by decide +kernel, rfl⟩
theorem eX7_search_125 : DC mX7_search 125 (.iload_n 2) 1 126 := ⟨by decide +kernel, rfl⟩
theorem eX7_search_126 : DC mX7_search 126 .iaload 1 127 := ⟨by decide +kernel, rfl⟩
theorem eX7_search_127 : DC mX7_search 127 (.aload_n 0) 1 128 := ⟨by decide +kernel, rfl⟩
theorem eX7_search_128 : DC mX7_search 128 (.getfield 86) 3 131 := ⟨by decide +kernel, rfl⟩
theorem eX7_search_131 : DJ mX7_search 131 (.if_icmp .lt) 140 134 := ⟨9, by decide +kernel, by decide, rfl⟩
theorem eX7_search_134 : DC mX7_search 134 (.iinc 2 (-1)) 3 137 := ⟨by decide +kernel, rfl⟩
theorem eX7_search_137 : DJ mX7_search 137 .goto 87 140 := ⟨(-50), by decide +kernel, by decide, rfl⟩
theorem eX7_search_140 : DC mX7_search 140 (.aload_n 0) 1 141 := ⟨by decide +kernel, rfl⟩
theorem eX7_search_141 : DC mX7_search 141 (.getfield 202) 3 144 := ⟨by decide +kernel, rfl⟩
theorem eX7_search_144 : DC mX7_search 144 (.sipush 5000) 3 147 := ⟨by decide +kernel, rfl⟩
theorem eX7_search_147 : DJ mX7_search 147 (.if_icmp .ne) 154 150 := ⟨7, by decide +kernel, by decide, rfl⟩
theorem eX7_search_150 : DC mX7_search 150 (.iconst 1) 1 151 := ⟨by decide +kernel, rfl⟩
theorem eX7_search_151 : DJ mX7_search 151 .goto 155 154 := ⟨4, by decide +kernel, by decide, rfl⟩
theorem eX7_search_154 : DC mX7_search 154 (.iconst 0) 1 155 := ⟨by decide +kernel, rfl⟩
theorem eX7_search_155 : DC mX7_search 155 (.istore_n 3) 1 156 := ⟨by decide +kernel, rfl⟩
theorem eX7_search_156 : DC mX7_search 156 (.iload_n 3) 1 157 := ⟨by decide +kernel, rfl⟩
theorem eX7_search_157 : DJ mX7_search 157 (.ifCond .eq) 163 160 := ⟨6, by decide +kernel, by decide, rfl⟩
theorem eX7_search_160 : DJ mX7_search 160 .goto 87 163 := ⟨(-73), by decide +kernel, by decide, rfl⟩
theorem eX7_search_163 : DC mX7_search 163 (.aload_n 0) 1 164 := ⟨by decide +kernel, rfl⟩
theorem eX7_search_164 : DC mX7_search 164 .dup 1 165 := ⟨by decide +kernel, rfl⟩
theorem eX7_search_165 : DC mX7_search 165 (.getfield 202) 3 168 := ⟨by decide +kernel, rfl⟩
theorem eX7_search_168 : DC mX7_search 168 (.iconst 1) 1 169 := ⟨by decide +kernel, rfl⟩
theorem eX7_search_169 : DC mX7_search 169 .iadd 1 170 := ⟨by decide +kernel, rfl⟩
theorem eX7_search_170 : DC mX7_search 170 (.putfield 202) 3 173 := ⟨by decide +kernel, rfl⟩
theorem eX7_search_173 : DC mX7_search 173 (.aload_n 0) 1 174 := ⟨by decide +kernel, rfl⟩
theorem eX7_search_174 : DC mX7_search 174 (.iload 4) 2 176 := ⟨by decide +kernel, rfl⟩
theorem eX7_search_176 : DC mX7_search 176 (.aload_n 0) 1 177 := ⟨by decide +kernel, rfl⟩
theorem eX7_search_177 : DC mX7_search 177 (.getfield 65) 3 180 := ⟨by decide +kernel, rfl⟩
theorem eX7_search_180 : DC mX7_search 180 (.iload_n 2) 1 181 := ⟨by decide +kernel, rfl⟩
theorem eX7_search_181 : DC mX7_search 181 .iaload 1 182 := ⟨by decide +kernel, rfl⟩
theorem eX7_search_182 : DC mX7_search 182 (.aload_n 0) 1 183 := ⟨by decide +kernel, rfl⟩
theorem eX7_search_183 : DC mX7_search 183 (.iload 4) 2 185 := ⟨by decide +kernel, rfl⟩
theorem eX7_search_185 : DC mX7_search 185 (.invokevirtual 119) 3 188 := ⟨by decide +kernel, rfl⟩
theorem eX7_search_188 : DC mX7_search 188 (.aload_n 0) 1 189 := ⟨by decide +kernel, rfl⟩
theorem eX7_search_189 : DC mX7_search 189 (.iload 4) 2 191 := ⟨by decide +kernel, rfl⟩
theorem eX7_search_191 : DC mX7_search 191 (.invokevirtual 178) 3 194 := ⟨by decide +kernel, rfl⟩
theorem eX7_search_194 : DC mX7_search 194 (.invokevirtual 165) 3 197 := ⟨by decide +kernel, rfl⟩
theorem eX7_search_197 : DJ mX7_search 197 (.ifCond .le) 203 200 := ⟨6, by decide +kernel, by decide, rfl⟩
theorem eX7_search_200 : DJ mX7_search 200 .goto 87 203 := ⟨(-113), by decide +kernel, by decide, rfl⟩
theorem eX7_search_203 : DC mX7_search 203 (.aload_n 0) 1 204 := ⟨by decide +kernel, rfl⟩
theorem eX7_search_204 : DC mX7_search 204 (.iload 4) 2 206 := ⟨by decide +kernel, rfl⟩
theorem eX7_search_206 : DC mX7_search 206 (.aload_n 0) 1 207 := ⟨by decide +kernel, rfl⟩
theorem eX7_search_207 : DC mX7_search 207 (.getfield 65) 3 210 := ⟨by decide +kernel, rfl⟩
theorem eX7_search_210 : DC mX7_search 210 (.iload_n 2) 1 211 := ⟨by decide +kernel, rfl⟩
theorem eX7_search_211 : DC mX7_search 211 .iaload 1 212 := ⟨by decide +kernel, rfl⟩
theorem eX7_search_212 : DC mX7_search 212 (.aload_n 0) 1 213 := ⟨by decide +kernel, rfl⟩
theorem eX7_search_213 : DC mX7_search 213 (.iload 4) 2 215 := ⟨by decide +kernel, rfl⟩
theorem eX7_search_215 : DC mX7_search 215 (.invokevirtual 119) 3 218 := ⟨by decide +kernel, rfl⟩
theorem eX7_search_218 : DC mX7_search 218 (.aload_n 0) 1 219 := ⟨by decide +kernel, rfl⟩
theorem eX7_search_219 : DC mX7_search 219 (.iload 4) 2 221 := ⟨by decide +kernel, rfl⟩
theorem eX7_search_221 : DC mX7_search 221 (.invokevirtual 178) 3 224 := ⟨by decide +kernel, rfl⟩
theorem eX7_search_224 : DC mX7_search 224 (.invokevirtual 184) 3 227 := ⟨by decide +kernel, rfl⟩
theorem eX7_search_227 : DC mX7_search 227 (.iload_n 2) 1 228 := ⟨by decide +kernel, rfl⟩
theorem eX7_search_228 : DC mX7_search 228 (.iconst 1) 1 229 := ⟨by decide +kernel, rfl⟩
theorem eX7_search_229 : DC mX7_search 229 .iadd 1 230 := ⟨by decide +kernel, rfl⟩
theorem eX7_search_230 : DC mX7_search 230 (.aload_n 0) 1 231 := ⟨by decide +kernel, rfl⟩
theorem eX7_search_231 : DC mX7_search 231 (.getfield 188) 3 234 := ⟨by decide +kernel, rfl⟩
theorem eX7_search_234 : DJ mX7_search 234 (.if_icmp .ge) 250 237 := ⟨16, by decide +kernel, by decide, rfl⟩
theorem eX7_search_237 : DC mX7_search 237 (.iinc 2 1) 3 240 := ⟨by decide +kernel, rfl⟩
theorem eX7_search_240 : DC mX7_search 240 (.aload_n 0) 1 241 := ⟨by decide +kernel, rfl⟩
theorem eX7_search_241 : DC mX7_search 241 (.getfield 65) 3 244 := ⟨by decide +kernel, rfl⟩
theorem eX7_search_244 : DC mX7_search 244 (.iload_n 2) 1 245 := ⟨by decide +kernel, rfl⟩
theorem eX7_search_245 : DC mX7_search 245 (.iconst (-1)) 1 246 := ⟨by decide +kernel, rfl⟩
theorem eX7_search_246 : DC mX7_search 246 .iastore 1 247 := ⟨by decide +kernel, rfl⟩
theorem eX7_search_247 : DJ mX7_search 247 .goto 87 250 := ⟨(-160), by decide +kernel, by decide, rfl⟩
theorem eX7_search_250 : DC mX7_search 250 (.aload_n 0) 1 251 := ⟨by decide +kernel, rfl⟩
theorem eX7_search_251 : DC mX7_search 251 (.invokevirtual 208) 3 254 := ⟨by decide +kernel, rfl⟩
theorem eX7_search_254 : DC mX7_search 254 (.iload_n 1) 1 255 := ⟨by decide +kernel, rfl⟩
theorem eX7_search_255 : DJ mX7_search 255 (.ifCond .ne) 261 258 := ⟨6, by decide +kernel, by decide, rfl⟩
theorem eX7_search_258 : DJ mX7_search 258 .goto 264 261 := ⟨6, by decide +kernel, by decide, rfl⟩
theorem eX7_search_261 : DJ mX7_search 261 .goto 87 264 := ⟨(-174), by decide +kernel, by decide, rfl⟩
theorem eX7_search_264 : DC mX7_search 264 (.iconst 0) 1 265 := ⟨by decide +kernel, rfl⟩
theorem eX7_search_265 : DC mX7_search 265 (.istore 4) 2 267 := ⟨by decide +kernel, rfl⟩
theorem eX7_search_267 : DC mX7_search 267 (.iload 4) 2 269 := ⟨by decide +kernel, rfl⟩
theorem eX7_search_269 : DC mX7_search 269 (.aload_n 0) 1 270 := ⟨by decide +kernel, rfl⟩
theorem eX7_search_270 : DC mX7_search 270 (.getfield 188) 3 273 := ⟨by decide +kernel, rfl⟩
theorem eX7_search_273 : DJ mX7_search 273 (.if_icmp .ge) 295 276 := ⟨22, by decide +kernel, by decide, rfl⟩
theorem eX7_search_276 : DC mX7_search 276 (.aload_n 0) 1 277 := ⟨by decide +kernel, rfl⟩
theorem eX7_search_277 : DC mX7_search 277 (.getfield 50) 3 280 := ⟨by decide +kernel, rfl⟩
theorem eX7_search_280 : DC mX7_search 280 (.aload_n 0) 1 281 := ⟨by decide +kernel, rfl⟩
theorem eX7_search_281 : DC mX7_search 281 (.getfield 62) 3 284 := ⟨by decide +kernel, rfl⟩
theorem eX7_search_284 : DC mX7_search 284 (.iload 4) 2 286 := ⟨by decide +kernel, rfl⟩
theorem eX7_search_286 : DC mX7_search 286 .iaload 1 287 := ⟨by decide +kernel, rfl⟩
theorem eX7_search_287 : DC mX7_search 287 (.iconst 0) 1 288 := ⟨by decide +kernel, rfl⟩
theorem eX7_search_288 : DC mX7_search 288 .iastore 1 289 := ⟨by decide +kernel, rfl⟩
theorem eX7_search_289 : DC mX7_search 289 (.iinc 4 1) 3 292 := ⟨by decide +kernel, rfl⟩
theorem eX7_search_292 : DJ mX7_search 292 .goto 267 295 := ⟨(-25), by decide +kernel, by decide, rfl⟩
theorem eX7_search_295 : DC mX7_search 295 (.iload_n 3) 1 296 := ⟨by decide +kernel, rfl⟩
theorem eX7_search_296 : DJ mX7_search 296 (.ifCond .ne) 303 299 := ⟨7, by decide +kernel, by decide, rfl⟩
theorem eX7_search_299 : DC mX7_search 299 (.iconst 1) 1 300 := ⟨by decide +kernel, rfl⟩
theorem eX7_search_300 : DJ mX7_search 300 .goto 304 303 := ⟨4, by decide +kernel, by decide, rfl⟩
theorem eX7_search_303 : DC mX7_search 303 (.iconst 0) 1 304 := ⟨by decide +kernel, rfl⟩
theorem eX7_search_304 : DC mX7_search 304 .ireturn 1 305 := ⟨by decide +kernel, rfl⟩
theorem eX7_whole_0 : DC mX7_whole 0 (.iconst 0) 1 1 := ⟨by decide +kernel, rfl⟩
theorem eX7_whole_1 : DC mX7_whole 1 (.istore_n 1) 1 2 := ⟨by decide +kernel, rfl⟩
theorem eX7_whole_2 : DC mX7_whole 2 (.iconst 0) 1 3 := ⟨by decide +kernel, rfl⟩
theorem eX7_whole_3 : DC mX7_whole 3 (.istore_n 2) 1 4 := ⟨by decide +kernel, rfl⟩
theorem eX7_whole_4 : DC mX7_whole 4 (.iload_n 2) 1 5 := ⟨by decide +kernel, rfl⟩
theorem eX7_whole_5 : DC mX7_whole 5 (.aload_n 0) 1 6 := ⟨by decide +kernel, rfl⟩
theorem eX7_whole_6 : DC mX7_whole 6 (.getfield 188) 3 9 := ⟨by decide +kernel, rfl⟩
theorem eX7_whole_9 : DJ mX7_whole 9 (.if_icmp .ge) 56 12 := ⟨47, by decide +kernel, by decide, rfl⟩
theorem eX7_whole_12 : DC mX7_whole 12 (.iload_n 1) 1 13 := ⟨by decide +kernel, rfl⟩
theorem eX7_whole_13 : DC mX7_whole 13 (.aload_n 0) 1 14 := ⟨by decide +kernel, rfl⟩
theorem eX7_whole_14 : DC mX7_whole 14 (.getfield 16) 3 17 := ⟨by decide +kernel, rfl⟩
theorem eX7_whole_17 : DC mX7_whole 17 (.aload_n 0) 1 18 := ⟨by decide +kernel, rfl⟩
theorem eX7_whole_18 : DC mX7_whole 18 (.getfield 65) 3 21 := ⟨by decide +kernel, rfl⟩
theorem eX7_whole_21 : DC mX7_whole 21 (.iload_n 2) 1 22 := ⟨by decide +kernel, rfl⟩
theorem eX7_whole_22 : DC mX7_whole 22 .iaload 1 23 := ⟨by decide +kernel, rfl⟩
theorem eX7_whole_23 : DC mX7_whole 23 .iaload 1 24 := ⟨by decide +kernel, rfl⟩
theorem eX7_whole_24 : DC mX7_whole 24 (.iconst 2) 1 25 := ⟨by decide +kernel, rfl⟩
theorem eX7_whole_25 : DJ mX7_whole 25 (.if_icmp .eq) 43 28 := ⟨18, by decide +kernel, by decide, rfl⟩
theorem eX7_whole_28 : DC mX7_whole 28 (.aload_n 0) 1 29 := ⟨by decide +kernel, rfl⟩
theorem eX7_whole_29 : DC mX7_whole 29 (.getfield 16) 3 32 := ⟨by decide +kernel, rfl⟩
theorem eX7_whole_32 : DC mX7_whole 32 (.aload_n 0) 1 33 := ⟨by decide +kernel, rfl⟩
theorem eX7_whole_33 : DC mX7_whole 33 (.getfield 65) 3 36 := ⟨by decide +kernel, rfl⟩
theorem eX7_whole_36 : DC mX7_whole 36 (.iload_n 2) 1 37 := ⟨by decide +kernel, rfl⟩
theorem eX7_whole_37 : DC mX7_whole 37 .iaload 1 38 := ⟨by decide +kernel, rfl⟩
theorem eX7_whole_38 : DC mX7_whole 38 .iaload 1 39 := ⟨by decide +kernel, rfl⟩
theorem eX7_whole_39 : DC mX7_whole 39 (.iconst 3) 1 40 := ⟨by decide +kernel, rfl⟩
theorem eX7_whole_40 : DJ mX7_whole 40 (.if_icmp .ne) 47 43 := ⟨7, by decide +kernel, by decide, rfl⟩
theorem eX7_whole_43 : DC mX7_whole 43 (.iconst 1) 1 44 := ⟨by decide +kernel, rfl⟩
theorem eX7_whole_44 : DJ mX7_whole 44 .goto 48 47 := ⟨4, by decide +kernel, by decide, rfl⟩
theorem eX7_whole_47 : DC mX7_whole 47 (.iconst 0) 1 48 := ⟨by decide +kernel, rfl⟩
theorem eX7_whole_48 : DC mX7_whole 48 .iadd 1 49 := ⟨by decide +kernel, rfl⟩
theorem eX7_whole_49 : DC mX7_whole 49 (.istore_n 1) 1 50 := ⟨by decide +kernel, rfl⟩
theorem eX7_whole_50 : DC mX7_whole 50 (.iinc 2 1) 3 53 := ⟨by decide +kernel, rfl⟩
theorem eX7_whole_53 : DJ mX7_whole 53 .goto 4 56 := ⟨(-49), by decide +kernel, by decide, rfl⟩
theorem eX7_whole_56 : DC mX7_whole 56 (.iload_n 1) 1 57 := ⟨by decide +kernel, rfl⟩
theorem eX7_whole_57 : DC mX7_whole 57 (.aload_n 0) 1 58 := ⟨by decide +kernel, rfl⟩
theorem eX7_whole_58 : DC mX7_whole 58 (.getfield 205) 3 61 := ⟨by decide +kernel, rfl⟩
theorem eX7_whole_61 : DJ mX7_whole 61 (.if_icmp .gt) 65 64 := ⟨4, by decide +kernel, by decide, rfl⟩
theorem eX7_whole_64 : DC mX7_whole 64 .return_ 1 65 := ⟨by decide +kernel, rfl⟩
theorem eX7_whole_65 : DC mX7_whole 65 (.aload_n 0) 1 66 := ⟨by decide +kernel, rfl⟩
theorem eX7_whole_66 : DC mX7_whole 66 (.iload_n 1) 1 67 := ⟨by decide +kernel, rfl⟩
theorem eX7_whole_67 : DC mX7_whole 67 (.putfield 205) 3 70 := ⟨by decide +kernel, rfl⟩
theorem eX7_whole_70 : DC mX7_whole 70 (.iconst 0) 1 71 := ⟨by decide +kernel, rfl⟩
theorem eX7_whole_71 : DC mX7_whole 71 (.istore_n 2) 1 72 := ⟨by decide +kernel, rfl⟩
theorem eX7_whole_72 : DC mX7_whole 72 (.iload_n 2) 1 73 := ⟨by decide +kernel, rfl⟩
theorem eX7_whole_73 : DC mX7_whole 73 (.aload_n 0) 1 74 := ⟨by decide +kernel, rfl⟩
theorem eX7_whole_74 : DC mX7_whole 74 (.getfield 188) 3 77 := ⟨by decide +kernel, rfl⟩
theorem eX7_whole_77 : DJ mX7_whole 77 (.if_icmp .ge) 98 80 := ⟨21, by decide +kernel, by decide, rfl⟩
theorem eX7_whole_80 : DC mX7_whole 80 (.aload_n 0) 1 81 := ⟨by decide +kernel, rfl⟩
theorem eX7_whole_81 : DC mX7_whole 81 (.getfield 68) 3 84 := ⟨by decide +kernel, rfl⟩
theorem eX7_whole_84 : DC mX7_whole 84 (.iload_n 2) 1 85 := ⟨by decide +kernel, rfl⟩
theorem eX7_whole_85 : DC mX7_whole 85 (.aload_n 0) 1 86 := ⟨by decide +kernel, rfl⟩
theorem eX7_whole_86 : DC mX7_whole 86 (.getfield 65) 3 89 := ⟨by decide +kernel, rfl⟩
theorem eX7_whole_89 : DC mX7_whole 89 (.iload_n 2) 1 90 := ⟨by decide +kernel, rfl⟩
theorem eX7_whole_90 : DC mX7_whole 90 .iaload 1 91 := ⟨by decide +kernel, rfl⟩
theorem eX7_whole_91 : DC mX7_whole 91 .iastore 1 92 := ⟨by decide +kernel, rfl⟩
theorem eX7_whole_92 : DC mX7_whole 92 (.iinc 2 1) 3 95 := ⟨by decide +kernel, rfl⟩
theorem eX7_whole_95 : DJ mX7_whole 95 .goto 72 98 := ⟨(-23), by decide +kernel, by decide, rfl⟩
theorem eX7_whole_98 : DC mX7_whole 98 .return_ 1 99 := ⟨by decide +kernel, rfl⟩
theorem eX7_found_0 : DC mX7_found 0 (.aload_n 0) 1 1 := ⟨by decide +kernel, rfl⟩
theorem eX7_found_1 : DC mX7_found 1 (.iload_n 1) 1 2 := ⟨by decide +kernel, rfl⟩
theorem eX7_found_2 : DC mX7_found 2 (.invokevirtual 211) 3 5 := ⟨by decide +kernel, rfl⟩
theorem eX7_found_5 : DJ mX7_found 5 (.ifCond .ne) 15 8 := ⟨10, by decide +kernel, by decide, rfl⟩
theorem eX7_found_8 : DC mX7_found 8 (.aload_n 0) 1 9 := ⟨by decide +kernel, rfl⟩
theorem eX7_found_9 : DC mX7_found 9 (.bipush 10) 2 11 := ⟨by decide +kernel, rfl⟩
theorem eX7_found_11 : DC mX7_found 11 (.invokevirtual 92) 3 14 := ⟨by decide +kernel, rfl⟩
theorem eX7_found_14 : DC mX7_found 14 .ireturn 1 15 := ⟨by decide +kernel, rfl⟩
theorem eX7_found_15 : DC mX7_found 15 (.aload_n 0) 1 16 := ⟨by decide +kernel, rfl⟩
theorem eX7_found_16 : DC mX7_found 16 (.getfield 205) 3 19 := ⟨by decide +kernel, rfl⟩
theorem eX7_found_19 : DJ mX7_found 19 (.ifCond .ge) 29 22 := ⟨10, by decide +kernel, by decide, rfl⟩
theorem eX7_found_22 : DC mX7_found 22 (.aload_n 0) 1 23 := ⟨by decide +kernel, rfl⟩
theorem eX7_found_23 : DC mX7_found 23 (.bipush 11) 2 25 := ⟨by decide +kernel, rfl⟩
theorem eX7_found_25 : DC mX7_found 25 (.invokevirtual 92) 3 28 := ⟨by decide +kernel, rfl⟩
theorem eX7_found_28 : DC mX7_found 28 .ireturn 1 29 := ⟨by decide +kernel, rfl⟩
theorem eX7_found_29 : DC mX7_found 29 (.iconst 0) 1 30 := ⟨by decide +kernel, rfl⟩
theorem eX7_found_30 : DC mX7_found 30 (.istore_n 2) 1 31 := ⟨by decide +kernel, rfl⟩
theorem eX7_found_31 : DC mX7_found 31 (.iload_n 2) 1 32 := ⟨by decide +kernel, rfl⟩
theorem eX7_found_32 : DC mX7_found 32 (.aload_n 0) 1 33 := ⟨by decide +kernel, rfl⟩
theorem eX7_found_33 : DC mX7_found 33 (.getfield 188) 3 36 := ⟨by decide +kernel, rfl⟩
theorem eX7_found_36 : DJ mX7_found 36 (.if_icmp .ge) 81 39 := ⟨45, by decide +kernel, by decide, rfl⟩
theorem eX7_found_39 : DC mX7_found 39 (.aload_n 0) 1 40 := ⟨by decide +kernel, rfl⟩
theorem eX7_found_40 : DC mX7_found 40 (.aload_n 0) 1 41 := ⟨by decide +kernel, rfl⟩
theorem eX7_found_41 : DC mX7_found 41 (.getfield 62) 3 44 := ⟨by decide +kernel, rfl⟩
theorem eX7_found_44 : DC mX7_found 44 (.iload_n 2) 1 45 := ⟨by decide +kernel, rfl⟩
theorem eX7_found_45 : DC mX7_found 45 .iaload 1 46 := ⟨by decide +kernel, rfl⟩
theorem eX7_found_46 : DC mX7_found 46 (.aload_n 0) 1 47 := ⟨by decide +kernel, rfl⟩
theorem eX7_found_47 : DC mX7_found 47 (.getfield 68) 3 50 := ⟨by decide +kernel, rfl⟩
theorem eX7_found_50 : DC mX7_found 50 (.iload_n 2) 1 51 := ⟨by decide +kernel, rfl⟩
theorem eX7_found_51 : DC mX7_found 51 .iaload 1 52 := ⟨by decide +kernel, rfl⟩
theorem eX7_found_52 : DC mX7_found 52 (.aload_n 0) 1 53 := ⟨by decide +kernel, rfl⟩
theorem eX7_found_53 : DC mX7_found 53 (.aload_n 0) 1 54 := ⟨by decide +kernel, rfl⟩
theorem eX7_found_54 : DC mX7_found 54 (.getfield 62) 3 57 := ⟨by decide +kernel, rfl⟩
theorem eX7_found_57 : DC mX7_found 57 (.iload_n 2) 1 58 := ⟨by decide +kernel, rfl⟩
theorem eX7_found_58 : DC mX7_found 58 .iaload 1 59 := ⟨by decide +kernel, rfl⟩
theorem eX7_found_59 : DC mX7_found 59 (.invokevirtual 119) 3 62 := ⟨by decide +kernel, rfl⟩
theorem eX7_found_62 : DC mX7_found 62 (.aload_n 0) 1 63 := ⟨by decide +kernel, rfl⟩
theorem eX7_found_63 : DC mX7_found 63 (.aload_n 0) 1 64 := ⟨by decide +kernel, rfl⟩
theorem eX7_found_64 : DC mX7_found 64 (.getfield 62) 3 67 := ⟨by decide +kernel, rfl⟩
theorem eX7_found_67 : DC mX7_found 67 (.iload_n 2) 1 68 := ⟨by decide +kernel, rfl⟩
theorem eX7_found_68 : DC mX7_found 68 .iaload 1 69 := ⟨by decide +kernel, rfl⟩
theorem eX7_found_69 : DC mX7_found 69 (.invokevirtual 178) 3 72 := ⟨by decide +kernel, rfl⟩
theorem eX7_found_72 : DC mX7_found 72 (.invokevirtual 184) 3 75 := ⟨by decide +kernel, rfl⟩
theorem eX7_found_75 : DC mX7_found 75 (.iinc 2 1) 3 78 := ⟨by decide +kernel, rfl⟩
theorem eX7_found_78 : DJ mX7_found 78 .goto 31 81 := ⟨(-47), by decide +kernel, by decide, rfl⟩
theorem eX7_found_81 : DC mX7_found 81 (.aload_n 0) 1 82 := ⟨by decide +kernel, rfl⟩
theorem eX7_found_82 : DC mX7_found 82 (.iload_n 1) 1 83 := ⟨by decide +kernel, rfl⟩
theorem eX7_found_83 : DJ mX7_found 83 (.ifCond .eq) 93 86 := ⟨10, by decide +kernel, by decide, rfl⟩
theorem eX7_found_86 : DC mX7_found 86 (.aload_n 0) 1 87 := ⟨by decide +kernel, rfl⟩
theorem eX7_found_87 : DC mX7_found 87 (.getfield 205) 3 90 := ⟨by decide +kernel, rfl⟩
theorem eX7_found_90 : DJ mX7_found 90 .goto 97 93 := ⟨7, by decide +kernel, by decide, rfl⟩
theorem eX7_found_93 : DC mX7_found 93 (.aload_n 0) 1 94 := ⟨by decide +kernel, rfl⟩
theorem eX7_found_94 : DC mX7_found 94 (.getfield 202) 3 97 := ⟨by decide +kernel, rfl⟩
theorem eX7_found_97 : DC mX7_found 97 (.invokevirtual 96) 3 100 := ⟨by decide +kernel, rfl⟩
theorem eX7_found_100 : DC mX7_found 100 .ireturn 1 101 := ⟨by decide +kernel, rfl⟩
theorem eX7_search__0 : DC mX7_search_ 0 (.aload_n 0) 1 1 := ⟨by decide +kernel, rfl⟩
theorem eX7_search__1 : DC mX7_search_ 1 (.iconst 0) 1 2 := ⟨by decide +kernel, rfl⟩
theorem eX7_search__2 : DC mX7_search_ 2 (.invokevirtual 215) 3 5 := ⟨by decide +kernel, rfl⟩
theorem eX7_search__5 : DC mX7_search_ 5 .ireturn 1 6 := ⟨by decide +kernel, rfl⟩
theorem eX7_most_0 : DC mX7_most 0 (.aload_n 0) 1 1 := ⟨by decide +kernel, rfl⟩
theorem eX7_most_1 : DC mX7_most 1 (.iconst 1) 1 2 := ⟨by decide +kernel, rfl⟩
theorem eX7_most_2 : DC mX7_most 2 (.invokevirtual 215) 3 5 := ⟨by decide +kernel, rfl⟩
theorem eX7_most_5 : DC mX7_most 5 .ireturn 1 6 := ⟨by decide +kernel, rfl⟩
theorem eX7_late_0 : DC mX7_late 0 (.aload_n 0) 1 1 := ⟨by decide +kernel, rfl⟩
theorem eX7_late_1 : DC mX7_late 1 (.iload_n 1) 1 2 := ⟨by decide +kernel, rfl⟩
theorem eX7_late_2 : DC mX7_late 2 (.invokevirtual 113) 3 5 := ⟨by decide +kernel, rfl⟩
theorem eX7_late_5 : DJ mX7_late 5 (.ifCond .ne) 14 8 := ⟨9, by decide +kernel, by decide, rfl⟩
theorem eX7_late_8 : DC mX7_late 8 (.aload_n 0) 1 9 := ⟨by decide +kernel, rfl⟩
theorem eX7_late_9 : DC mX7_late 9 (.iconst 2) 1 10 := ⟨by decide +kernel, rfl⟩
theorem eX7_late_10 : DC mX7_late 10 (.invokevirtual 92) 3 13 := ⟨by decide +kernel, rfl⟩
theorem eX7_late_13 : DC mX7_late 13 .ireturn 1 14 := ⟨by decide +kernel, rfl⟩
theorem eX7_late_14 : DC mX7_late 14 (.aload_n 0) 1 15 := ⟨by decide +kernel, rfl⟩
theorem eX7_late_15 : DC mX7_late 15 (.getfield 44) 3 18 := ⟨by decide +kernel, rfl⟩
theorem eX7_late_18 : DC mX7_late 18 (.iload_n 1) 1 19 := ⟨by decide +kernel, rfl⟩
theorem eX7_late_19 : DC mX7_late 19 .iaload 1 20 := ⟨by decide +kernel, rfl⟩
theorem eX7_late_20 : DC mX7_late 20 (.iconst 4) 1 21 := ⟨by decide +kernel, rfl⟩
theorem eX7_late_21 : DJ mX7_late 21 (.if_icmp .lt) 40 24 := ⟨19, by decide +kernel, by decide, rfl⟩
theorem eX7_late_24 : DC mX7_late 24 (.iload_n 2) 1 25 := ⟨by decide +kernel, rfl⟩
theorem eX7_late_25 : DC mX7_late 25 (.aload_n 0) 1 26 := ⟨by decide +kernel, rfl⟩
theorem eX7_late_26 : DC mX7_late 26 (.iload_n 1) 1 27 := ⟨by decide +kernel, rfl⟩
theorem eX7_late_27 : DC mX7_late 27 (.invokevirtual 178) 3 30 := ⟨by decide +kernel, rfl⟩
theorem eX7_late_30 : DJ mX7_late 30 (.if_icmp .le) 40 33 := ⟨10, by decide +kernel, by decide, rfl⟩
theorem eX7_late_33 : DC mX7_late 33 (.iload_n 2) 1 34 := ⟨by decide +kernel, rfl⟩
theorem eX7_late_34 : DC mX7_late 34 (.sipush 2880) 3 37 := ⟨by decide +kernel, rfl⟩
theorem eX7_late_37 : DJ mX7_late 37 (.if_icmp .le) 46 40 := ⟨9, by decide +kernel, by decide, rfl⟩
theorem eX7_late_40 : DC mX7_late 40 (.aload_n 0) 1 41 := ⟨by decide +kernel, rfl⟩
theorem eX7_late_41 : DC mX7_late 41 (.iconst 3) 1 42 := ⟨by decide +kernel, rfl⟩
theorem eX7_late_42 : DC mX7_late 42 (.invokevirtual 92) 3 45 := ⟨by decide +kernel, rfl⟩
theorem eX7_late_45 : DC mX7_late 45 .ireturn 1 46 := ⟨by decide +kernel, rfl⟩
theorem eX7_late_46 : DC mX7_late 46 (.aload_n 0) 1 47 := ⟨by decide +kernel, rfl⟩
theorem eX7_late_47 : DC mX7_late 47 (.iload_n 1) 1 48 := ⟨by decide +kernel, rfl⟩
theorem eX7_late_48 : DC mX7_late 48 (.invokevirtual 116) 3 51 := ⟨by decide +kernel, rfl⟩
theorem eX7_late_51 : DJ mX7_late 51 (.ifCond .ne) 61 54 := ⟨10, by decide +kernel, by decide, rfl⟩
theorem eX7_late_54 : DC mX7_late 54 (.aload_n 0) 1 55 := ⟨by decide +kernel, rfl⟩
theorem eX7_late_55 : DC mX7_late 55 (.bipush 6) 2 57 := ⟨by decide +kernel, rfl⟩
theorem eX7_late_57 : DC mX7_late 57 (.invokevirtual 92) 3 60 := ⟨by decide +kernel, rfl⟩
theorem eX7_late_60 : DC mX7_late 60 .ireturn 1 61 := ⟨by decide +kernel, rfl⟩
theorem eX7_late_61 : DC mX7_late 61 (.iconst 0) 1 62 := ⟨by decide +kernel, rfl⟩
theorem eX7_late_62 : DC mX7_late 62 (.istore_n 3) 1 63 := ⟨by decide +kernel, rfl⟩
theorem eX7_late_63 : DC mX7_late 63 (.iload_n 3) 1 64 := ⟨by decide +kernel, rfl⟩
theorem eX7_late_64 : DC mX7_late 64 (.aload_n 0) 1 65 := ⟨by decide +kernel, rfl⟩
theorem eX7_late_65 : DC mX7_late 65 (.getfield 89) 3 68 := ⟨by decide +kernel, rfl⟩
theorem eX7_late_68 : DJ mX7_late 68 (.if_icmp .ge) 89 71 := ⟨21, by decide +kernel, by decide, rfl⟩
theorem eX7_late_71 : DC mX7_late 71 (.aload_n 0) 1 72 := ⟨by decide +kernel, rfl⟩
theorem eX7_late_72 : DC mX7_late 72 (.getfield 71) 3 75 := ⟨by decide +kernel, rfl⟩
theorem eX7_late_75 : DC mX7_late 75 (.iload_n 3) 1 76 := ⟨by decide +kernel, rfl⟩
theorem eX7_late_76 : DC mX7_late 76 (.aload_n 0) 1 77 := ⟨by decide +kernel, rfl⟩
theorem eX7_late_77 : DC mX7_late 77 (.getfield 50) 3 80 := ⟨by decide +kernel, rfl⟩
theorem eX7_late_80 : DC mX7_late 80 (.iload_n 3) 1 81 := ⟨by decide +kernel, rfl⟩
theorem eX7_late_81 : DC mX7_late 81 .iaload 1 82 := ⟨by decide +kernel, rfl⟩
theorem eX7_late_82 : DC mX7_late 82 .iastore 1 83 := ⟨by decide +kernel, rfl⟩
theorem eX7_late_83 : DC mX7_late 83 (.iinc 3 1) 3 86 := ⟨by decide +kernel, rfl⟩
theorem eX7_late_86 : DJ mX7_late 86 .goto 63 89 := ⟨(-23), by decide +kernel, by decide, rfl⟩
theorem eX7_late_89 : DC mX7_late 89 (.bipush 8) 2 91 := ⟨by decide +kernel, rfl⟩
theorem eX7_late_91 : DC mX7_late 91 (.iload_n 1) 1 92 := ⟨by decide +kernel, rfl⟩
theorem eX7_late_92 : DC mX7_late 92 .imul 1 93 := ⟨by decide +kernel, rfl⟩
theorem eX7_late_93 : DC mX7_late 93 (.aload_n 0) 1 94 := ⟨by decide +kernel, rfl⟩
theorem eX7_late_94 : DC mX7_late 94 (.getfield 50) 3 97 := ⟨by decide +kernel, rfl⟩
theorem eX7_late_97 : DC mX7_late 97 (.iload_n 1) 1 98 := ⟨by decide +kernel, rfl⟩
theorem eX7_late_98 : DC mX7_late 98 .iaload 1 99 := ⟨by decide +kernel, rfl⟩
theorem eX7_late_99 : DC mX7_late 99 .iadd 1 100 := ⟨by decide +kernel, rfl⟩
theorem eX7_late_100 : DC mX7_late 100 (.iconst 1) 1 101 := ⟨by decide +kernel, rfl⟩
theorem eX7_late_101 : DC mX7_late 101 .isub 1 102 := ⟨by decide +kernel, rfl⟩
theorem eX7_late_102 : DC mX7_late 102 (.istore_n 3) 1 103 := ⟨by decide +kernel, rfl⟩
theorem eX7_late_103 : DC mX7_late 103 (.aload_n 0) 1 104 := ⟨by decide +kernel, rfl⟩
theorem eX7_late_104 : DC mX7_late 104 (.getfield 59) 3 107 := ⟨by decide +kernel, rfl⟩
theorem eX7_late_107 : DC mX7_late 107 (.iload_n 3) 1 108 := ⟨by decide +kernel, rfl⟩
theorem eX7_late_108 : DC mX7_late 108 .iaload 1 109 := ⟨by decide +kernel, rfl⟩
theorem eX7_late_109 : DC mX7_late 109 (.istore 4) 2 111 := ⟨by decide +kernel, rfl⟩
theorem eX7_late_111 : DC mX7_late 111 (.aload_n 0) 1 112 := ⟨by decide +kernel, rfl⟩
theorem eX7_late_112 : DC mX7_late 112 (.iload_n 1) 1 113 := ⟨by decide +kernel, rfl⟩
theorem eX7_late_113 : DC mX7_late 113 (.invokevirtual 178) 3 116 := ⟨by decide +kernel, rfl⟩
theorem eX7_late_116 : DC mX7_late 116 (.istore 5) 2 118 := ⟨by decide +kernel, rfl⟩
theorem eX7_late_118 : DC mX7_late 118 (.aload_n 0) 1 119 := ⟨by decide +kernel, rfl⟩
theorem eX7_late_119 : DC mX7_late 119 (.getfield 47) 3 122 := ⟨by decide +kernel, rfl⟩
theorem eX7_late_122 : DC mX7_late 122 (.iconst 5) 1 123 := ⟨by decide +kernel, rfl⟩
theorem eX7_late_123 : DC mX7_late 123 (.iload_n 1) 1 124 := ⟨by decide +kernel, rfl⟩
theorem eX7_late_124 : DC mX7_late 124 .imul 1 125 := ⟨by decide +kernel, rfl⟩
theorem eX7_late_125 : DC mX7_late 125 (.iconst 3) 1 126 := ⟨by decide +kernel, rfl⟩
theorem eX7_late_126 : DC mX7_late 126 .iadd 1 127 := ⟨by decide +kernel, rfl⟩
theorem eX7_late_127 : DC mX7_late 127 (.iload_n 2) 1 128 := ⟨by decide +kernel, rfl⟩
theorem eX7_late_128 : DC mX7_late 128 .iastore 1 129 := ⟨by decide +kernel, rfl⟩
theorem eX7_late_129 : DC mX7_late 129 (.aload_n 0) 1 130 := ⟨by decide +kernel, rfl⟩
theorem eX7_late_130 : DC mX7_late 130 (.getfield 59) 3 133 := ⟨by decide +kernel, rfl⟩
theorem eX7_late_133 : DC mX7_late 133 (.iload_n 3) 1 134 := ⟨by decide +kernel, rfl⟩
theorem eX7_late_134 : DC mX7_late 134 (.iload_n 2) 1 135 := ⟨by decide +kernel, rfl⟩
theorem eX7_late_135 : DC mX7_late 135 .iastore 1 136 := ⟨by decide +kernel, rfl⟩
theorem eX7_late_136 : DC mX7_late 136 (.aload_n 0) 1 137 := ⟨by decide +kernel, rfl⟩
theorem eX7_late_137 : DC mX7_late 137 (.iconst 0) 1 138 := ⟨by decide +kernel, rfl⟩
theorem eX7_late_138 : DC mX7_late 138 (.putfield 188) 3 141 := ⟨by decide +kernel, rfl⟩
theorem eX7_late_141 : DC mX7_late 141 (.aload_n 0) 1 142 := ⟨by decide +kernel, rfl⟩
theorem eX7_late_142 : DC mX7_late 142 (.iload_n 1) 1 143 := ⟨by decide +kernel, rfl⟩
theorem eX7_late_143 : DC mX7_late 143 (.aload_n 0) 1 144 := ⟨by decide +kernel, rfl⟩
theorem eX7_late_144 : DC mX7_late 144 (.getfield 53) 3 147 := ⟨by decide +kernel, rfl⟩
theorem eX7_late_147 : DC mX7_late 147 (.iload_n 3) 1 148 := ⟨by decide +kernel, rfl⟩
theorem eX7_late_148 : DC mX7_late 148 .iaload 1 149 := ⟨by decide +kernel, rfl⟩
theorem eX7_late_149 : DC mX7_late 149 (.aload_n 0) 1 150 := ⟨by decide +kernel, rfl⟩
theorem eX7_late_150 : DC mX7_late 150 (.getfield 56) 3 153 := ⟨by decide +kernel, rfl⟩
theorem eX7_late_153 : DC mX7_late 153 (.iload_n 3) 1 154 := ⟨by decide +kernel, rfl⟩
theorem eX7_late_154 : DC mX7_late 154 .iaload 1 155 := ⟨by decide +kernel, rfl⟩
theorem eX7_late_155 : DC mX7_late 155 (.iload_n 2) 1 156 := ⟨by decide +kernel, rfl⟩
theorem eX7_late_156 : DC mX7_late 156 (.invokevirtual 165) 3 159 := ⟨by decide +kernel, rfl⟩
theorem eX7_late_159 : DC mX7_late 159 (.istore 6) 2 161 := ⟨by decide +kernel, rfl⟩
theorem eX7_late_161 : DC mX7_late 161 (.iload 6) 2 163 := ⟨by decide +kernel, rfl⟩
theorem eX7_late_163 : DJ mX7_late 163 (.ifCond .le) 314 166 := ⟨151, by decide +kernel, by decide, rfl⟩
theorem eX7_late_166 : DC mX7_late 166 (.aload_n 0) 1 167 := ⟨by decide +kernel, rfl⟩
theorem eX7_late_167 : DC mX7_late 167 (.getfield 134) 3 170 := ⟨by decide +kernel, rfl⟩
theorem eX7_late_170 : DC mX7_late 170 (.istore 7) 2 172 := ⟨by decide +kernel, rfl⟩
theorem eX7_late_172 : DC mX7_late 172 (.iload 6) 2 174 := ⟨by decide +kernel, rfl⟩
theorem eX7_late_174 : DC mX7_late 174 (.iconst 3) 1 175 := ⟨by decide +kernel, rfl⟩
theorem eX7_late_175 : DJ mX7_late 175 (.if_icmp .eq) 184 178 := ⟨9, by decide +kernel, by decide, rfl⟩
theorem eX7_late_178 : DC mX7_late 178 (.iload 6) 2 180 := ⟨by decide +kernel, rfl⟩
theorem eX7_late_180 : DC mX7_late 180 (.iconst 5) 1 181 := ⟨by decide +kernel, rfl⟩
theorem eX7_late_181 : DJ mX7_late 181 (.if_icmp .ne) 193 184 := ⟨12, by decide +kernel, by decide, rfl⟩
theorem eX7_late_184 : DC mX7_late 184 (.aload_n 0) 1 185 := ⟨by decide +kernel, rfl⟩
theorem eX7_late_185 : DC mX7_late 185 (.iload 7) 2 187 := ⟨by decide +kernel, rfl⟩
theorem eX7_late_187 : DC mX7_late 187 (.invokevirtual 175) 3 190 := ⟨by decide +kernel, rfl⟩
theorem eX7_late_190 : DJ mX7_late 190 (.ifCond .eq) 260 193 := ⟨70, by decide +kernel, by decide, rfl⟩
theorem eX7_late_193 : DC mX7_late 193 (.aload_n 0) 1 194 := ⟨by decide +kernel, rfl⟩
theorem eX7_late_194 : DC mX7_late 194 (.iload 6) 2 196 := ⟨by decide +kernel, rfl⟩
theorem eX7_late_196 : DC mX7_late 196 (.invokevirtual 181) 3 199 := ⟨by decide +kernel, rfl⟩
theorem eX7_late_199 : DC mX7_late 199 (.istore 8) 2 201 := ⟨by decide +kernel, rfl⟩
theorem eX7_late_201 : DC mX7_late 201 (.aload_n 0) 1 202 := ⟨by decide +kernel, rfl⟩
theorem eX7_late_202 : DC mX7_late 202 (.getfield 47) 3 205 := ⟨by decide +kernel, rfl⟩
theorem eX7_late_205 : DC mX7_late 205 (.iconst 5) 1 206 := ⟨by decide +kernel, rfl⟩
theorem eX7_late_206 : DC mX7_late 206 (.iload_n 1) 1 207 := ⟨by decide +kernel, rfl⟩
theorem eX7_late_207 : DC mX7_late 207 .imul 1 208 := ⟨by decide +kernel, rfl⟩
theorem eX7_late_208 : DC mX7_late 208 (.iconst 3) 1 209 := ⟨by decide +kernel, rfl⟩
theorem eX7_late_209 : DC mX7_late 209 .iadd 1 210 := ⟨by decide +kernel, rfl⟩
theorem eX7_late_210 : DC mX7_late 210 (.iload 5) 2 212 := ⟨by decide +kernel, rfl⟩
theorem eX7_late_212 : DC mX7_late 212 .iastore 1 213 := ⟨by decide +kernel, rfl⟩
theorem eX7_late_213 : DC mX7_late 213 (.aload_n 0) 1 214 := ⟨by decide +kernel, rfl⟩
theorem eX7_late_214 : DC mX7_late 214 (.getfield 59) 3 217 := ⟨by decide +kernel, rfl⟩
theorem eX7_late_217 : DC mX7_late 217 (.iload_n 3) 1 218 := ⟨by decide +kernel, rfl⟩
theorem eX7_late_218 : DC mX7_late 218 (.iload 4) 2 220 := ⟨by decide +kernel, rfl⟩
theorem eX7_late_220 : DC mX7_late 220 .iastore 1 221 := ⟨by decide +kernel, rfl⟩
theorem eX7_late_221 : DC mX7_late 221 (.iconst 0) 1 222 := ⟨by decide +kernel, rfl⟩
theorem eX7_late_222 : DC mX7_late 222 (.istore 9) 2 224 := ⟨by decide +kernel, rfl⟩
theorem eX7_late_224 : DC mX7_late 224 (.iload 9) 2 226 := ⟨by decide +kernel, rfl⟩
theorem eX7_late_226 : DC mX7_late 226 (.aload_n 0) 1 227 := ⟨by decide +kernel, rfl⟩
theorem eX7_late_227 : DC mX7_late 227 (.getfield 89) 3 230 := ⟨by decide +kernel, rfl⟩
theorem eX7_late_230 : DJ mX7_late 230 (.if_icmp .ge) 253 233 := ⟨23, by decide +kernel, by decide, rfl⟩
theorem eX7_late_233 : DC mX7_late 233 (.aload_n 0) 1 234 := ⟨by decide +kernel, rfl⟩
theorem eX7_late_234 : DC mX7_late 234 (.getfield 50) 3 237 := ⟨by decide +kernel, rfl⟩
theorem eX7_late_237 : DC mX7_late 237 (.iload 9) 2 239 := ⟨by decide +kernel, rfl⟩
theorem eX7_late_239 : DC mX7_late 239 (.aload_n 0) 1 240 := ⟨by decide +kernel, rfl⟩
theorem eX7_late_240 : DC mX7_late 240 (.getfield 71) 3 243 := ⟨by decide +kernel, rfl⟩
theorem eX7_late_243 : DC mX7_late 243 (.iload 9) 2 245 := ⟨by decide +kernel, rfl⟩
theorem eX7_late_245 : DC mX7_late 245 .iaload 1 246 := ⟨by decide +kernel, rfl⟩
theorem eX7_late_246 : DC mX7_late 246 .iastore 1 247 := ⟨by decide +kernel, rfl⟩
theorem eX7_late_247 : DC mX7_late 247 (.iinc 9 1) 3 250 := ⟨by decide +kernel, rfl⟩
theorem eX7_late_250 : DJ mX7_late 250 .goto 224 253 := ⟨(-26), by decide +kernel, by decide, rfl⟩
theorem eX7_late_253 : DC mX7_late 253 (.aload_n 0) 1 254 := ⟨by decide +kernel, rfl⟩
theorem eX7_late_254 : DC mX7_late 254 (.bipush 9) 2 256 := ⟨by decide +kernel, rfl⟩
theorem eX7_late_256 : DC mX7_late 256 (.invokevirtual 92) 3 259 := ⟨by decide +kernel, rfl⟩
theorem eX7_late_259 : DC mX7_late 259 .ireturn 1 260 := ⟨by decide +kernel, rfl⟩
theorem eX7_late_260 : DC mX7_late 260 (.aload_n 0) 1 261 := ⟨by decide +kernel, rfl⟩
theorem eX7_late_261 : DC mX7_late 261 (.getfield 74) 3 264 := ⟨by decide +kernel, rfl⟩
theorem eX7_late_264 : DC mX7_late 264 (.iload 7) 2 266 := ⟨by decide +kernel, rfl⟩
theorem eX7_late_266 : DC mX7_late 266 (.aload_n 0) 1 267 := ⟨by decide +kernel, rfl⟩
theorem eX7_late_267 : DC mX7_late 267 (.getfield 53) 3 270 := ⟨by decide +kernel, rfl⟩
theorem eX7_late_270 : DC mX7_late 270 (.bipush 8) 2 272 := ⟨by decide +kernel, rfl⟩
theorem eX7_late_272 : DC mX7_late 272 (.iload 7) 2 274 := ⟨by decide +kernel, rfl⟩
theorem eX7_late_274 : DC mX7_late 274 .imul 1 275 := ⟨by decide +kernel, rfl⟩
theorem eX7_late_275 : DC mX7_late 275 .iaload 1 276 := ⟨by decide +kernel, rfl⟩
theorem eX7_late_276 : DC mX7_late 276 .iastore 1 277 := ⟨by decide +kernel, rfl⟩
theorem eX7_late_277 : DC mX7_late 277 (.aload_n 0) 1 278 := ⟨by decide +kernel, rfl⟩
theorem eX7_late_278 : DC mX7_late 278 (.getfield 50) 3 281 := ⟨by decide +kernel, rfl⟩
theorem eX7_late_281 : DC mX7_late 281 (.iload 7) 2 283 := ⟨by decide +kernel, rfl⟩
theorem eX7_late_283 : DC mX7_late 283 (.iconst 0) 1 284 := ⟨by decide +kernel, rfl⟩
theorem eX7_late_284 : DC mX7_late 284 .iastore 1 285 := ⟨by decide +kernel, rfl⟩
theorem eX7_late_285 : DC mX7_late 285 (.aload_n 0) 1 286 := ⟨by decide +kernel, rfl⟩
theorem eX7_late_286 : DC mX7_late 286 (.iload 7) 2 288 := ⟨by decide +kernel, rfl⟩
theorem eX7_late_288 : DC mX7_late 288 (.invokevirtual 194) 3 291 := ⟨by decide +kernel, rfl⟩
theorem eX7_late_291 : DC mX7_late 291 (.aload_n 0) 1 292 := ⟨by decide +kernel, rfl⟩
theorem eX7_late_292 : DC mX7_late 292 (.iload_n 1) 1 293 := ⟨by decide +kernel, rfl⟩
theorem eX7_late_293 : DC mX7_late 293 (.aload_n 0) 1 294 := ⟨by decide +kernel, rfl⟩
theorem eX7_late_294 : DC mX7_late 294 (.getfield 53) 3 297 := ⟨by decide +kernel, rfl⟩
theorem eX7_late_297 : DC mX7_late 297 (.iload_n 3) 1 298 := ⟨by decide +kernel, rfl⟩
theorem eX7_late_298 : DC mX7_late 298 .iaload 1 299 := ⟨by decide +kernel, rfl⟩
theorem eX7_late_299 : DC mX7_late 299 (.aload_n 0) 1 300 := ⟨by decide +kernel, rfl⟩
theorem eX7_late_300 : DC mX7_late 300 (.getfield 56) 3 303 := ⟨by decide +kernel, rfl⟩
theorem eX7_late_303 : DC mX7_late 303 (.iload_n 3) 1 304 := ⟨by decide +kernel, rfl⟩
theorem eX7_late_304 : DC mX7_late 304 .iaload 1 305 := ⟨by decide +kernel, rfl⟩
theorem eX7_late_305 : DC mX7_late 305 (.iload_n 2) 1 306 := ⟨by decide +kernel, rfl⟩
theorem eX7_late_306 : DC mX7_late 306 (.invokevirtual 165) 3 309 := ⟨by decide +kernel, rfl⟩
theorem eX7_late_309 : DC mX7_late 309 (.istore 6) 2 311 := ⟨by decide +kernel, rfl⟩
theorem eX7_late_311 : DJ mX7_late 311 .goto 161 314 := ⟨(-150), by decide +kernel, by decide, rfl⟩
theorem eX7_late_314 : DC mX7_late 314 (.aload_n 0) 1 315 := ⟨by decide +kernel, rfl⟩
theorem eX7_late_315 : DC mX7_late 315 (.iconst 0) 1 316 := ⟨by decide +kernel, rfl⟩
theorem eX7_late_316 : DC mX7_late 316 (.putfield 219) 3 319 := ⟨by decide +kernel, rfl⟩
theorem eX7_late_319 : DC mX7_late 319 (.iconst 0) 1 320 := ⟨by decide +kernel, rfl⟩
theorem eX7_late_320 : DC mX7_late 320 (.istore 7) 2 322 := ⟨by decide +kernel, rfl⟩
theorem eX7_late_322 : DC mX7_late 322 (.iload 7) 2 324 := ⟨by decide +kernel, rfl⟩
theorem eX7_late_324 : DC mX7_late 324 (.aload_n 0) 1 325 := ⟨by decide +kernel, rfl⟩
theorem eX7_late_325 : DC mX7_late 325 (.getfield 188) 3 328 := ⟨by decide +kernel, rfl⟩
theorem eX7_late_328 : DJ mX7_late 328 (.if_icmp .ge) 434 331 := ⟨106, by decide +kernel, by decide, rfl⟩
theorem eX7_late_331 : DC mX7_late 331 (.aload_n 0) 1 332 := ⟨by decide +kernel, rfl⟩
theorem eX7_late_332 : DC mX7_late 332 (.getfield 62) 3 335 := ⟨by decide +kernel, rfl⟩
theorem eX7_late_335 : DC mX7_late 335 (.iload 7) 2 337 := ⟨by decide +kernel, rfl⟩
theorem eX7_late_337 : DC mX7_late 337 .iaload 1 338 := ⟨by decide +kernel, rfl⟩
theorem eX7_late_338 : DC mX7_late 338 (.istore 8) 2 340 := ⟨by decide +kernel, rfl⟩
theorem eX7_late_340 : DC mX7_late 340 (.aload_n 0) 1 341 := ⟨by decide +kernel, rfl⟩
theorem eX7_late_341 : DC mX7_late 341 (.iload 8) 2 343 := ⟨by decide +kernel, rfl⟩
theorem eX7_late_343 : DC mX7_late 343 (.aload_n 0) 1 344 := ⟨by decide +kernel, rfl⟩
theorem eX7_late_344 : DC mX7_late 344 (.iload 8) 2 346 := ⟨by decide +kernel, rfl⟩
theorem eX7_late_346 : DC mX7_late 346 (.invokevirtual 119) 3 349 := ⟨by decide +kernel, rfl⟩
theorem eX7_late_349 : DC mX7_late 349 (.aload_n 0) 1 350 := ⟨by decide +kernel, rfl⟩
theorem eX7_late_350 : DC mX7_late 350 (.iload 8) 2 352 := ⟨by decide +kernel, rfl⟩
theorem eX7_late_352 : DC mX7_late 352 (.invokevirtual 178) 3 355 := ⟨by decide +kernel, rfl⟩
theorem eX7_late_355 : DC mX7_late 355 (.invokevirtual 198) 3 358 := ⟨by decide +kernel, rfl⟩
theorem eX7_late_358 : DC mX7_late 358 (.istore 9) 2 360 := ⟨by decide +kernel, rfl⟩
theorem eX7_late_360 : DC mX7_late 360 (.iload 9) 2 362 := ⟨by decide +kernel, rfl⟩
theorem eX7_late_362 : DC mX7_late 362 (.iconst (-1)) 1 363 := ⟨by decide +kernel, rfl⟩
theorem eX7_late_363 : DJ mX7_late 363 (.if_icmp .eq) 386 366 := ⟨23, by decide +kernel, by decide, rfl⟩
theorem eX7_late_366 : DC mX7_late 366 (.aload_n 0) 1 367 := ⟨by decide +kernel, rfl⟩
theorem eX7_late_367 : DC mX7_late 367 (.iload 8) 2 369 := ⟨by decide +kernel, rfl⟩
theorem eX7_late_369 : DC mX7_late 369 (.iload 9) 2 371 := ⟨by decide +kernel, rfl⟩
theorem eX7_late_371 : DC mX7_late 371 (.aload_n 0) 1 372 := ⟨by decide +kernel, rfl⟩
theorem eX7_late_372 : DC mX7_late 372 (.iload 8) 2 374 := ⟨by decide +kernel, rfl⟩
theorem eX7_late_374 : DC mX7_late 374 (.invokevirtual 119) 3 377 := ⟨by decide +kernel, rfl⟩
theorem eX7_late_377 : DC mX7_late 377 (.aload_n 0) 1 378 := ⟨by decide +kernel, rfl⟩
theorem eX7_late_378 : DC mX7_late 378 (.iload 8) 2 380 := ⟨by decide +kernel, rfl⟩
theorem eX7_late_380 : DC mX7_late 380 (.invokevirtual 178) 3 383 := ⟨by decide +kernel, rfl⟩
theorem eX7_late_383 : DC mX7_late 383 (.invokevirtual 184) 3 386 := ⟨by decide +kernel, rfl⟩
theorem eX7_late_386 : DC mX7_late 386 (.iload 9) 2 388 := ⟨by decide +kernel, rfl⟩
theorem eX7_late_388 : DC mX7_late 388 (.iconst (-1)) 1 389 := ⟨by decide +kernel, rfl⟩
theorem eX7_late_389 : DJ mX7_late 389 (.if_icmp .eq) 407 392 := ⟨18, by decide +kernel, by decide, rfl⟩
theorem eX7_late_392 : DC mX7_late 392 (.iload 9) 2 394 := ⟨by decide +kernel, rfl⟩
theorem eX7_late_394 : DC mX7_late 394 (.aload_n 0) 1 395 := ⟨by decide +kernel, rfl⟩
theorem eX7_late_395 : DC mX7_late 395 (.getfield 74) 3 398 := ⟨by decide +kernel, rfl⟩
theorem eX7_late_398 : DC mX7_late 398 (.iload 8) 2 400 := ⟨by decide +kernel, rfl⟩
theorem eX7_late_400 : DC mX7_late 400 .iaload 1 401 := ⟨by decide +kernel, rfl⟩
theorem eX7_late_401 : DJ mX7_late 401 (.if_icmp .ne) 407 404 := ⟨6, by decide +kernel, by decide, rfl⟩
theorem eX7_late_404 : DJ mX7_late 404 .goto 428 407 := ⟨24, by decide +kernel, by decide, rfl⟩
theorem eX7_late_407 : DC mX7_late 407 (.aload_n 0) 1 408 := ⟨by decide +kernel, rfl⟩
theorem eX7_late_408 : DC mX7_late 408 (.getfield 77) 3 411 := ⟨by decide +kernel, rfl⟩
theorem eX7_late_411 : DC mX7_late 411 (.aload_n 0) 1 412 := ⟨by decide +kernel, rfl⟩
theorem eX7_late_412 : DC mX7_late 412 (.getfield 219) 3 415 := ⟨by decide +kernel, rfl⟩
theorem eX7_late_415 : DC mX7_late 415 (.iload 8) 2 417 := ⟨by decide +kernel, rfl⟩
theorem eX7_late_417 : DC mX7_late 417 .iastore 1 418 := ⟨by decide +kernel, rfl⟩
theorem eX7_late_418 : DC mX7_late 418 (.aload_n 0) 1 419 := ⟨by decide +kernel, rfl⟩
theorem eX7_late_419 : DC mX7_late 419 .dup 1 420 := ⟨by decide +kernel, rfl⟩
theorem eX7_late_420 : DC mX7_late 420 (.getfield 219) 3 423 := ⟨by decide +kernel, rfl⟩
theorem eX7_late_423 : DC mX7_late 423 (.iconst 1) 1 424 := ⟨by decide +kernel, rfl⟩
theorem eX7_late_424 : DC mX7_late 424 .iadd 1 425 := ⟨by decide +kernel, rfl⟩
theorem eX7_late_425 : DC mX7_late 425 (.putfield 219) 3 428 := ⟨by decide +kernel, rfl⟩
theorem eX7_late_428 : DC mX7_late 428 (.iinc 7 1) 3 431 := ⟨by decide +kernel, rfl⟩
theorem eX7_late_431 : DJ mX7_late 431 .goto 322 434 := ⟨(-109), by decide +kernel, by decide, rfl⟩
theorem eX7_late_434 : DC mX7_late 434 (.aload_n 0) 1 435 := ⟨by decide +kernel, rfl⟩
theorem eX7_late_435 : DC mX7_late 435 (.aload_n 0) 1 436 := ⟨by decide +kernel, rfl⟩
theorem eX7_late_436 : DC mX7_late 436 (.getfield 219) 3 439 := ⟨by decide +kernel, rfl⟩
theorem eX7_late_439 : DC mX7_late 439 (.invokevirtual 96) 3 442 := ⟨by decide +kernel, rfl⟩
theorem eX7_late_442 : DC mX7_late 442 .ireturn 1 443 := ⟨by decide +kernel, rfl⟩
theorem eX7_changed_0 : DC mX7_changed 0 (.iload_n 1) 1 1 := ⟨by decide +kernel, rfl⟩
theorem eX7_changed_1 : DJ mX7_changed 1 (.ifCond .lt) 12 4 := ⟨11, by decide +kernel, by decide, rfl⟩
theorem eX7_changed_4 : DC mX7_changed 4 (.iload_n 1) 1 5 := ⟨by decide +kernel, rfl⟩
theorem eX7_changed_5 : DC mX7_changed 5 (.aload_n 0) 1 6 := ⟨by decide +kernel, rfl⟩
theorem eX7_changed_6 : DC mX7_changed 6 (.getfield 219) 3 9 := ⟨by decide +kernel, rfl⟩
theorem eX7_changed_9 : DJ mX7_changed 9 (.if_icmp .lt) 16 12 := ⟨7, by decide +kernel, by decide, rfl⟩
theorem eX7_changed_12 : DC mX7_changed 12 (.iconst (-1)) 1 13 := ⟨by decide +kernel, rfl⟩
theorem eX7_changed_13 : DJ mX7_changed 13 .goto 22 16 := ⟨9, by decide +kernel, by decide, rfl⟩
theorem eX7_changed_16 : DC mX7_changed 16 (.aload_n 0) 1 17 := ⟨by decide +kernel, rfl⟩
theorem eX7_changed_17 : DC mX7_changed 17 (.getfield 77) 3 20 := ⟨by decide +kernel, rfl⟩
theorem eX7_changed_20 : DC mX7_changed 20 (.iload_n 1) 1 21 := ⟨by decide +kernel, rfl⟩
theorem eX7_changed_21 : DC mX7_changed 21 .iaload 1 22 := ⟨by decide +kernel, rfl⟩
theorem eX7_changed_22 : DC mX7_changed 22 .ireturn 1 23 := ⟨by decide +kernel, rfl⟩
theorem eX7_isWaiting_0 : DC mX7_isWaiting 0 (.aload_n 0) 1 1 := ⟨by decide +kernel, rfl⟩
theorem eX7_isWaiting_1 : DC mX7_isWaiting 1 (.iload_n 1) 1 2 := ⟨by decide +kernel, rfl⟩
theorem eX7_isWaiting_2 : DC mX7_isWaiting 2 (.invokevirtual 116) 3 5 := ⟨by decide +kernel, rfl⟩
theorem eX7_isWaiting_5 : DJ mX7_isWaiting 5 (.ifCond .ne) 40 8 := ⟨35, by decide +kernel, by decide, rfl⟩
theorem eX7_isWaiting_8 : DC mX7_isWaiting 8 (.aload_n 0) 1 9 := ⟨by decide +kernel, rfl⟩
theorem eX7_isWaiting_9 : DC mX7_isWaiting 9 (.iload_n 1) 1 10 := ⟨by decide +kernel, rfl⟩
theorem eX7_isWaiting_10 : DC mX7_isWaiting 10 (.invokevirtual 172) 3 13 := ⟨by decide +kernel, rfl⟩
theorem eX7_isWaiting_13 : DJ mX7_isWaiting 13 (.ifCond .ne) 40 16 := ⟨27, by decide +kernel, by decide, rfl⟩
theorem eX7_isWaiting_16 : DC mX7_isWaiting 16 (.aload_n 0) 1 17 := ⟨by decide +kernel, rfl⟩
theorem eX7_isWaiting_17 : DC mX7_isWaiting 17 (.iload_n 1) 1 18 := ⟨by decide +kernel, rfl⟩
theorem eX7_isWaiting_18 : DC mX7_isWaiting 18 (.invokevirtual 175) 3 21 := ⟨by decide +kernel, rfl⟩
theorem eX7_isWaiting_21 : DJ mX7_isWaiting 21 (.ifCond .eq) 40 24 := ⟨19, by decide +kernel, by decide, rfl⟩
theorem eX7_isWaiting_24 : DC mX7_isWaiting 24 (.aload_n 0) 1 25 := ⟨by decide +kernel, rfl⟩
theorem eX7_isWaiting_25 : DC mX7_isWaiting 25 (.iload_n 1) 1 26 := ⟨by decide +kernel, rfl⟩
theorem eX7_isWaiting_26 : DC mX7_isWaiting 26 (.invokevirtual 178) 3 29 := ⟨by decide +kernel, rfl⟩
theorem eX7_isWaiting_29 : DC mX7_isWaiting 29 (.aload_n 0) 1 30 := ⟨by decide +kernel, rfl⟩
theorem eX7_isWaiting_30 : DC mX7_isWaiting 30 (.getfield 122) 3 33 := ⟨by decide +kernel, rfl⟩
theorem eX7_isWaiting_33 : DJ mX7_isWaiting 33 (.if_icmp .le) 40 36 := ⟨7, by decide +kernel, by decide, rfl⟩
theorem eX7_isWaiting_36 : DC mX7_isWaiting 36 (.iconst 1) 1 37 := ⟨by decide +kernel, rfl⟩
theorem eX7_isWaiting_37 : DJ mX7_isWaiting 37 .goto 41 40 := ⟨4, by decide +kernel, by decide, rfl⟩
theorem eX7_isWaiting_40 : DC mX7_isWaiting 40 (.iconst 0) 1 41 := ⟨by decide +kernel, rfl⟩
theorem eX7_isWaiting_41 : DC mX7_isWaiting 41 .ireturn 1 42 := ⟨by decide +kernel, rfl⟩
theorem eX7_now_0 : DC mX7_now 0 (.iload_n 1) 1 1 := ⟨by decide +kernel, rfl⟩
theorem eX7_now_1 : DC mX7_now 1 (.aload_n 0) 1 2 := ⟨by decide +kernel, rfl⟩
theorem eX7_now_2 : DC mX7_now 2 (.getfield 122) 3 5 := ⟨by decide +kernel, rfl⟩
theorem eX7_now_5 : DJ mX7_now 5 (.if_icmp .lt) 15 8 := ⟨10, by decide +kernel, by decide, rfl⟩
theorem eX7_now_8 : DC mX7_now 8 (.iload_n 1) 1 9 := ⟨by decide +kernel, rfl⟩
theorem eX7_now_9 : DC mX7_now 9 (.sipush 2880) 3 12 := ⟨by decide +kernel, rfl⟩
theorem eX7_now_12 : DJ mX7_now 12 (.if_icmp .lt) 21 15 := ⟨9, by decide +kernel, by decide, rfl⟩
theorem eX7_now_15 : DC mX7_now 15 (.aload_n 0) 1 16 := ⟨by decide +kernel, rfl⟩
theorem eX7_now_16 : DC mX7_now 16 (.iconst 3) 1 17 := ⟨by decide +kernel, rfl⟩
theorem eX7_now_17 : DC mX7_now 17 (.invokevirtual 92) 3 20 := ⟨by decide +kernel, rfl⟩
theorem eX7_now_20 : DC mX7_now 20 .ireturn 1 21 := ⟨by decide +kernel, rfl⟩
theorem eX7_now_21 : DC mX7_now 21 (.aload_n 0) 1 22 := ⟨by decide +kernel, rfl⟩
theorem eX7_now_22 : DC mX7_now 22 (.iload_n 1) 1 23 := ⟨by decide +kernel, rfl⟩
theorem eX7_now_23 : DC mX7_now 23 (.putfield 122) 3 26 := ⟨by decide +kernel, rfl⟩
theorem eX7_now_26 : DC mX7_now 26 (.aload_n 0) 1 27 := ⟨by decide +kernel, rfl⟩
theorem eX7_now_27 : DC mX7_now 27 (.iconst 0) 1 28 := ⟨by decide +kernel, rfl⟩
theorem eX7_now_28 : DC mX7_now 28 (.putfield 188) 3 31 := ⟨by decide +kernel, rfl⟩
theorem eX7_now_31 : DC mX7_now 31 (.iconst 0) 1 32 := ⟨by decide +kernel, rfl⟩
theorem eX7_now_32 : DC mX7_now 32 (.istore_n 2) 1 33 := ⟨by decide +kernel, rfl⟩
theorem eX7_now_33 : DC mX7_now 33 (.iload_n 2) 1 34 := ⟨by decide +kernel, rfl⟩
theorem eX7_now_34 : DC mX7_now 34 (.aload_n 0) 1 35 := ⟨by decide +kernel, rfl⟩
theorem eX7_now_35 : DC mX7_now 35 (.getfield 89) 3 38 := ⟨by decide +kernel, rfl⟩
theorem eX7_now_38 : DJ mX7_now 38 (.if_icmp .ge) 60 41 := ⟨22, by decide +kernel, by decide, rfl⟩
theorem eX7_now_41 : DC mX7_now 41 (.aload_n 0) 1 42 := ⟨by decide +kernel, rfl⟩
theorem eX7_now_42 : DC mX7_now 42 (.iload_n 2) 1 43 := ⟨by decide +kernel, rfl⟩
theorem eX7_now_43 : DC mX7_now 43 (.invokevirtual 222) 3 46 := ⟨by decide +kernel, rfl⟩
theorem eX7_now_46 : DJ mX7_now 46 (.ifCond .eq) 54 49 := ⟨8, by decide +kernel, by decide, rfl⟩
theorem eX7_now_49 : DC mX7_now 49 (.aload_n 0) 1 50 := ⟨by decide +kernel, rfl⟩
theorem eX7_now_50 : DC mX7_now 50 (.iload_n 2) 1 51 := ⟨by decide +kernel, rfl⟩
theorem eX7_now_51 : DC mX7_now 51 (.invokevirtual 194) 3 54 := ⟨by decide +kernel, rfl⟩
theorem eX7_now_54 : DC mX7_now 54 (.iinc 2 1) 3 57 := ⟨by decide +kernel, rfl⟩
theorem eX7_now_57 : DJ mX7_now 57 .goto 33 60 := ⟨(-24), by decide +kernel, by decide, rfl⟩
theorem eX7_now_60 : DC mX7_now 60 (.iconst 0) 1 61 := ⟨by decide +kernel, rfl⟩
theorem eX7_now_61 : DC mX7_now 61 (.istore_n 2) 1 62 := ⟨by decide +kernel, rfl⟩
theorem eX7_now_62 : DC mX7_now 62 (.iconst 0) 1 63 := ⟨by decide +kernel, rfl⟩
theorem eX7_now_63 : DC mX7_now 63 (.istore_n 3) 1 64 := ⟨by decide +kernel, rfl⟩
theorem eX7_now_64 : DC mX7_now 64 (.iload_n 3) 1 65 := ⟨by decide +kernel, rfl⟩
theorem eX7_now_65 : DC mX7_now 65 (.aload_n 0) 1 66 := ⟨by decide +kernel, rfl⟩
theorem eX7_now_66 : DC mX7_now 66 (.getfield 188) 3 69 := ⟨by decide +kernel, rfl⟩
theorem eX7_now_69 : DJ mX7_now 69 (.if_icmp .ge) 142 72 := ⟨73, by decide +kernel, by decide, rfl⟩
theorem eX7_now_72 : DC mX7_now 72 (.aload_n 0) 1 73 := ⟨by decide +kernel, rfl⟩
theorem eX7_now_73 : DC mX7_now 73 (.aload_n 0) 1 74 := ⟨by decide +kernel, rfl⟩
theorem eX7_now_74 : DC mX7_now 74 (.getfield 62) 3 77 := ⟨by decide +kernel, rfl⟩
theorem eX7_now_77 : DC mX7_now 77 (.iload_n 3) 1 78 := ⟨by decide +kernel, rfl⟩
theorem eX7_now_78 : DC mX7_now 78 .iaload 1 79 := ⟨by decide +kernel, rfl⟩
theorem eX7_now_79 : DC mX7_now 79 (.aload_n 0) 1 80 := ⟨by decide +kernel, rfl⟩
theorem eX7_now_80 : DC mX7_now 80 (.getfield 122) 3 83 := ⟨by decide +kernel, rfl⟩
theorem eX7_now_83 : DC mX7_now 83 (.aload_n 0) 1 84 := ⟨by decide +kernel, rfl⟩
theorem eX7_now_84 : DC mX7_now 84 (.aload_n 0) 1 85 := ⟨by decide +kernel, rfl⟩
theorem eX7_now_85 : DC mX7_now 85 (.getfield 62) 3 88 := ⟨by decide +kernel, rfl⟩
theorem eX7_now_88 : DC mX7_now 88 (.iload_n 3) 1 89 := ⟨by decide +kernel, rfl⟩
theorem eX7_now_89 : DC mX7_now 89 .iaload 1 90 := ⟨by decide +kernel, rfl⟩
theorem eX7_now_90 : DC mX7_now 90 (.invokevirtual 178) 3 93 := ⟨by decide +kernel, rfl⟩
theorem eX7_now_93 : DC mX7_now 93 (.invokevirtual 198) 3 96 := ⟨by decide +kernel, rfl⟩
theorem eX7_now_96 : DC mX7_now 96 (.istore 4) 2 98 := ⟨by decide +kernel, rfl⟩
theorem eX7_now_98 : DC mX7_now 98 (.iload 4) 2 100 := ⟨by decide +kernel, rfl⟩
theorem eX7_now_100 : DC mX7_now 100 (.iconst (-1)) 1 101 := ⟨by decide +kernel, rfl⟩
theorem eX7_now_101 : DJ mX7_now 101 (.if_icmp .ne) 107 104 := ⟨6, by decide +kernel, by decide, rfl⟩
theorem eX7_now_104 : DJ mX7_now 104 .goto 136 107 := ⟨32, by decide +kernel, by decide, rfl⟩
theorem eX7_now_107 : DC mX7_now 107 (.aload_n 0) 1 108 := ⟨by decide +kernel, rfl⟩
theorem eX7_now_108 : DC mX7_now 108 (.aload_n 0) 1 109 := ⟨by decide +kernel, rfl⟩
theorem eX7_now_109 : DC mX7_now 109 (.getfield 62) 3 112 := ⟨by decide +kernel, rfl⟩
theorem eX7_now_112 : DC mX7_now 112 (.iload_n 3) 1 113 := ⟨by decide +kernel, rfl⟩
theorem eX7_now_113 : DC mX7_now 113 .iaload 1 114 := ⟨by decide +kernel, rfl⟩
theorem eX7_now_114 : DC mX7_now 114 (.iload 4) 2 116 := ⟨by decide +kernel, rfl⟩
theorem eX7_now_116 : DC mX7_now 116 (.aload_n 0) 1 117 := ⟨by decide +kernel, rfl⟩
theorem eX7_now_117 : DC mX7_now 117 (.getfield 122) 3 120 := ⟨by decide +kernel, rfl⟩
theorem eX7_now_120 : DC mX7_now 120 (.aload_n 0) 1 121 := ⟨by decide +kernel, rfl⟩
theorem eX7_now_121 : DC mX7_now 121 (.aload_n 0) 1 122 := ⟨by decide +kernel, rfl⟩
theorem eX7_now_122 : DC mX7_now 122 (.getfield 62) 3 125 := ⟨by decide +kernel, rfl⟩
theorem eX7_now_125 : DC mX7_now 125 (.iload_n 3) 1 126 := ⟨by decide +kernel, rfl⟩
theorem eX7_now_126 : DC mX7_now 126 .iaload 1 127 := ⟨by decide +kernel, rfl⟩
theorem eX7_now_127 : DC mX7_now 127 (.invokevirtual 178) 3 130 := ⟨by decide +kernel, rfl⟩
theorem eX7_now_130 : DC mX7_now 130 (.invokevirtual 184) 3 133 := ⟨by decide +kernel, rfl⟩
theorem eX7_now_133 : DC mX7_now 133 (.iinc 2 1) 3 136 := ⟨by decide +kernel, rfl⟩
theorem eX7_now_136 : DC mX7_now 136 (.iinc 3 1) 3 139 := ⟨by decide +kernel, rfl⟩
theorem eX7_now_139 : DJ mX7_now 139 .goto 64 142 := ⟨(-75), by decide +kernel, by decide, rfl⟩
theorem eX7_now_142 : DC mX7_now 142 (.aload_n 0) 1 143 := ⟨by decide +kernel, rfl⟩
theorem eX7_now_143 : DC mX7_now 143 (.iload_n 2) 1 144 := ⟨by decide +kernel, rfl⟩
theorem eX7_now_144 : DC mX7_now 144 (.invokevirtual 96) 3 147 := ⟨by decide +kernel, rfl⟩
theorem eX7_now_147 : DC mX7_now 147 .ireturn 1 148 := ⟨by decide +kernel, rfl⟩
theorem eX7_waiting_0 : DC mX7_waiting 0 (.iconst 0) 1 1 := ⟨by decide +kernel, rfl⟩
theorem eX7_waiting_1 : DC mX7_waiting 1 (.istore_n 1) 1 2 := ⟨by decide +kernel, rfl⟩
theorem eX7_waiting_2 : DC mX7_waiting 2 (.iconst 0) 1 3 := ⟨by decide +kernel, rfl⟩
theorem eX7_waiting_3 : DC mX7_waiting 3 (.istore_n 2) 1 4 := ⟨by decide +kernel, rfl⟩
theorem eX7_waiting_4 : DC mX7_waiting 4 (.iload_n 2) 1 5 := ⟨by decide +kernel, rfl⟩
theorem eX7_waiting_5 : DC mX7_waiting 5 (.aload_n 0) 1 6 := ⟨by decide +kernel, rfl⟩
theorem eX7_waiting_6 : DC mX7_waiting 6 (.getfield 89) 3 9 := ⟨by decide +kernel, rfl⟩
theorem eX7_waiting_9 : DJ mX7_waiting 9 (.if_icmp .ge) 34 12 := ⟨25, by decide +kernel, by decide, rfl⟩
theorem eX7_waiting_12 : DC mX7_waiting 12 (.iload_n 1) 1 13 := ⟨by decide +kernel, rfl⟩
theorem eX7_waiting_13 : DC mX7_waiting 13 (.aload_n 0) 1 14 := ⟨by decide +kernel, rfl⟩
theorem eX7_waiting_14 : DC mX7_waiting 14 (.iload_n 2) 1 15 := ⟨by decide +kernel, rfl⟩
theorem eX7_waiting_15 : DC mX7_waiting 15 (.invokevirtual 222) 3 18 := ⟨by decide +kernel, rfl⟩
theorem eX7_waiting_18 : DJ mX7_waiting 18 (.ifCond .eq) 25 21 := ⟨7, by decide +kernel, by decide, rfl⟩
theorem eX7_waiting_21 : DC mX7_waiting 21 (.iconst 1) 1 22 := ⟨by decide +kernel, rfl⟩
theorem eX7_waiting_22 : DJ mX7_waiting 22 .goto 26 25 := ⟨4, by decide +kernel, by decide, rfl⟩
theorem eX7_waiting_25 : DC mX7_waiting 25 (.iconst 0) 1 26 := ⟨by decide +kernel, rfl⟩
theorem eX7_waiting_26 : DC mX7_waiting 26 .iadd 1 27 := ⟨by decide +kernel, rfl⟩
theorem eX7_waiting_27 : DC mX7_waiting 27 (.istore_n 1) 1 28 := ⟨by decide +kernel, rfl⟩
theorem eX7_waiting_28 : DC mX7_waiting 28 (.iinc 2 1) 3 31 := ⟨by decide +kernel, rfl⟩
theorem eX7_waiting_31 : DJ mX7_waiting 31 .goto 4 34 := ⟨(-27), by decide +kernel, by decide, rfl⟩
theorem eX7_waiting_34 : DC mX7_waiting 34 (.iload_n 1) 1 35 := ⟨by decide +kernel, rfl⟩
theorem eX7_waiting_35 : DC mX7_waiting 35 .ireturn 1 36 := ⟨by decide +kernel, rfl⟩
theorem eX7_stays_0 : DC mX7_stays 0 (.aload_n 0) 1 1 := ⟨by decide +kernel, rfl⟩
theorem eX7_stays_1 : DC mX7_stays 1 (.iload_n 1) 1 2 := ⟨by decide +kernel, rfl⟩
theorem eX7_stays_2 : DC mX7_stays 2 (.invokevirtual 113) 3 5 := ⟨by decide +kernel, rfl⟩
theorem eX7_stays_5 : DJ mX7_stays 5 (.ifCond .eq) 21 8 := ⟨16, by decide +kernel, by decide, rfl⟩
theorem eX7_stays_8 : DC mX7_stays 8 (.aload_n 0) 1 9 := ⟨by decide +kernel, rfl⟩
theorem eX7_stays_9 : DC mX7_stays 9 (.aload_n 0) 1 10 := ⟨by decide +kernel, rfl⟩
theorem eX7_stays_10 : DC mX7_stays 10 (.getfield 50) 3 13 := ⟨by decide +kernel, rfl⟩
theorem eX7_stays_13 : DC mX7_stays 13 (.iload_n 1) 1 14 := ⟨by decide +kernel, rfl⟩
theorem eX7_stays_14 : DC mX7_stays 14 .iaload 1 15 := ⟨by decide +kernel, rfl⟩
theorem eX7_stays_15 : DC mX7_stays 15 (.invokevirtual 96) 3 18 := ⟨by decide +kernel, rfl⟩
theorem eX7_stays_18 : DJ mX7_stays 18 .goto 26 21 := ⟨8, by decide +kernel, by decide, rfl⟩
theorem eX7_stays_21 : DC mX7_stays 21 (.aload_n 0) 1 22 := ⟨by decide +kernel, rfl⟩
theorem eX7_stays_22 : DC mX7_stays 22 (.iconst 2) 1 23 := ⟨by decide +kernel, rfl⟩
theorem eX7_stays_23 : DC mX7_stays 23 (.invokevirtual 92) 3 26 := ⟨by decide +kernel, rfl⟩
theorem eX7_stays_26 : DC mX7_stays 26 .ireturn 1 27 := ⟨by decide +kernel, rfl⟩
theorem eX7_stay_0 : DC mX7_stay 0 (.aload_n 0) 1 1 := ⟨by decide +kernel, rfl⟩
theorem eX7_stay_1 : DC mX7_stay 1 (.iload_n 1) 1 2 := ⟨by decide +kernel, rfl⟩
theorem eX7_stay_2 : DC mX7_stay 2 (.invokevirtual 113) 3 5 := ⟨by decide +kernel, rfl⟩
theorem eX7_stay_5 : DJ mX7_stay 5 (.ifCond .ne) 14 8 := ⟨9, by decide +kernel, by decide, rfl⟩
theorem eX7_stay_8 : DC mX7_stay 8 (.aload_n 0) 1 9 := ⟨by decide +kernel, rfl⟩
theorem eX7_stay_9 : DC mX7_stay 9 (.iconst 2) 1 10 := ⟨by decide +kernel, rfl⟩
theorem eX7_stay_10 : DC mX7_stay 10 (.invokevirtual 92) 3 13 := ⟨by decide +kernel, rfl⟩
theorem eX7_stay_13 : DC mX7_stay 13 .ireturn 1 14 := ⟨by decide +kernel, rfl⟩
theorem eX7_stay_14 : DC mX7_stay 14 (.iload_n 2) 1 15 := ⟨by decide +kernel, rfl⟩
theorem eX7_stay_15 : DJ mX7_stay 15 (.ifCond .lt) 37 18 := ⟨22, by decide +kernel, by decide, rfl⟩
theorem eX7_stay_18 : DC mX7_stay 18 (.iload_n 2) 1 19 := ⟨by decide +kernel, rfl⟩
theorem eX7_stay_19 : DC mX7_stay 19 (.aload_n 0) 1 20 := ⟨by decide +kernel, rfl⟩
theorem eX7_stay_20 : DC mX7_stay 20 (.getfield 50) 3 23 := ⟨by decide +kernel, rfl⟩
theorem eX7_stay_23 : DC mX7_stay 23 (.iload_n 1) 1 24 := ⟨by decide +kernel, rfl⟩
theorem eX7_stay_24 : DC mX7_stay 24 .iaload 1 25 := ⟨by decide +kernel, rfl⟩
theorem eX7_stay_25 : DJ mX7_stay 25 (.if_icmp .ge) 37 28 := ⟨12, by decide +kernel, by decide, rfl⟩
theorem eX7_stay_28 : DC mX7_stay 28 (.iload_n 3) 1 29 := ⟨by decide +kernel, rfl⟩
theorem eX7_stay_29 : DJ mX7_stay 29 (.ifCond .lt) 37 32 := ⟨8, by decide +kernel, by decide, rfl⟩
theorem eX7_stay_32 : DC mX7_stay 32 (.iload_n 3) 1 33 := ⟨by decide +kernel, rfl⟩
theorem eX7_stay_33 : DC mX7_stay 33 (.iconst 2) 1 34 := ⟨by decide +kernel, rfl⟩
theorem eX7_stay_34 : DJ mX7_stay 34 (.if_icmp .le) 43 37 := ⟨9, by decide +kernel, by decide, rfl⟩
theorem eX7_stay_37 : DC mX7_stay 37 (.aload_n 0) 1 38 := ⟨by decide +kernel, rfl⟩
theorem eX7_stay_38 : DC mX7_stay 38 (.iconst 3) 1 39 := ⟨by decide +kernel, rfl⟩
theorem eX7_stay_39 : DC mX7_stay 39 (.invokevirtual 92) 3 42 := ⟨by decide +kernel, rfl⟩
theorem eX7_stay_42 : DC mX7_stay 42 .ireturn 1 43 := ⟨by decide +kernel, rfl⟩
theorem eX7_stay_43 : DC mX7_stay 43 (.bipush 8) 2 45 := ⟨by decide +kernel, rfl⟩
theorem eX7_stay_45 : DC mX7_stay 45 (.iload_n 1) 1 46 := ⟨by decide +kernel, rfl⟩
theorem eX7_stay_46 : DC mX7_stay 46 .imul 1 47 := ⟨by decide +kernel, rfl⟩
theorem eX7_stay_47 : DC mX7_stay 47 (.iload_n 2) 1 48 := ⟨by decide +kernel, rfl⟩
theorem eX7_stay_48 : DC mX7_stay 48 .iadd 1 49 := ⟨by decide +kernel, rfl⟩
theorem eX7_stay_49 : DC mX7_stay 49 (.istore 4) 2 51 := ⟨by decide +kernel, rfl⟩
theorem eX7_stay_51 : DC mX7_stay 51 (.aload_n 0) 1 52 := ⟨by decide +kernel, rfl⟩
theorem eX7_stay_52 : DC mX7_stay 52 (.iload_n 3) 1 53 := ⟨by decide +kernel, rfl⟩
theorem eX7_stay_53 : DJ mX7_stay 53 (.ifCond .ne) 66 56 := ⟨13, by decide +kernel, by decide, rfl⟩
theorem eX7_stay_56 : DC mX7_stay 56 (.aload_n 0) 1 57 := ⟨by decide +kernel, rfl⟩
theorem eX7_stay_57 : DC mX7_stay 57 (.getfield 53) 3 60 := ⟨by decide +kernel, rfl⟩
theorem eX7_stay_60 : DC mX7_stay 60 (.iload 4) 2 62 := ⟨by decide +kernel, rfl⟩
theorem eX7_stay_62 : DC mX7_stay 62 .iaload 1 63 := ⟨by decide +kernel, rfl⟩
theorem eX7_stay_63 : DJ mX7_stay 63 .goto 88 66 := ⟨25, by decide +kernel, by decide, rfl⟩
theorem eX7_stay_66 : DC mX7_stay 66 (.iload_n 3) 1 67 := ⟨by decide +kernel, rfl⟩
theorem eX7_stay_67 : DC mX7_stay 67 (.iconst 1) 1 68 := ⟨by decide +kernel, rfl⟩
theorem eX7_stay_68 : DJ mX7_stay 68 (.if_icmp .ne) 81 71 := ⟨13, by decide +kernel, by decide, rfl⟩
theorem eX7_stay_71 : DC mX7_stay 71 (.aload_n 0) 1 72 := ⟨by decide +kernel, rfl⟩
theorem eX7_stay_72 : DC mX7_stay 72 (.getfield 56) 3 75 := ⟨by decide +kernel, rfl⟩
theorem eX7_stay_75 : DC mX7_stay 75 (.iload 4) 2 77 := ⟨by decide +kernel, rfl⟩
theorem eX7_stay_77 : DC mX7_stay 77 .iaload 1 78 := ⟨by decide +kernel, rfl⟩
theorem eX7_stay_78 : DJ mX7_stay 78 .goto 88 81 := ⟨10, by decide +kernel, by decide, rfl⟩
theorem eX7_stay_81 : DC mX7_stay 81 (.aload_n 0) 1 82 := ⟨by decide +kernel, rfl⟩
theorem eX7_stay_82 : DC mX7_stay 82 (.getfield 59) 3 85 := ⟨by decide +kernel, rfl⟩
theorem eX7_stay_85 : DC mX7_stay 85 (.iload 4) 2 87 := ⟨by decide +kernel, rfl⟩
theorem eX7_stay_87 : DC mX7_stay 87 .iaload 1 88 := ⟨by decide +kernel, rfl⟩
theorem eX7_stay_88 : DC mX7_stay 88 (.invokevirtual 96) 3 91 := ⟨by decide +kernel, rfl⟩
theorem eX7_stay_91 : DC mX7_stay 91 .ireturn 1 92 := ⟨by decide +kernel, rfl⟩
theorem eX7_at_0 : DC mX7_at 0 (.aload_n 0) 1 1 := ⟨by decide +kernel, rfl⟩
theorem eX7_at_1 : DC mX7_at 1 (.iload_n 1) 1 2 := ⟨by decide +kernel, rfl⟩
theorem eX7_at_2 : DC mX7_at 2 (.invokevirtual 99) 3 5 := ⟨by decide +kernel, rfl⟩
theorem eX7_at_5 : DJ mX7_at 5 (.ifCond .eq) 23 8 := ⟨18, by decide +kernel, by decide, rfl⟩
theorem eX7_at_8 : DC mX7_at 8 (.iload_n 2) 1 9 := ⟨by decide +kernel, rfl⟩
theorem eX7_at_9 : DJ mX7_at 9 (.ifCond .lt) 23 12 := ⟨14, by decide +kernel, by decide, rfl⟩
theorem eX7_at_12 : DC mX7_at 12 (.iload_n 2) 1 13 := ⟨by decide +kernel, rfl⟩
theorem eX7_at_13 : DC mX7_at 13 (.sipush 2880) 3 16 := ⟨by decide +kernel, rfl⟩
theorem eX7_at_16 : DJ mX7_at 16 (.if_icmp .ge) 23 19 := ⟨7, by decide +kernel, by decide, rfl⟩
theorem eX7_at_19 : DC mX7_at 19 (.iload_n 3) 1 20 := ⟨by decide +kernel, rfl⟩
theorem eX7_at_20 : DJ mX7_at 20 (.ifCond .ge) 25 23 := ⟨5, by decide +kernel, by decide, rfl⟩
theorem eX7_at_23 : DC mX7_at 23 (.iconst (-1)) 1 24 := ⟨by decide +kernel, rfl⟩
theorem eX7_at_24 : DC mX7_at 24 .ireturn 1 25 := ⟨by decide +kernel, rfl⟩
theorem eX7_at_25 : DC mX7_at 25 (.iload_n 3) 1 26 := ⟨by decide +kernel, rfl⟩
theorem eX7_at_26 : DC mX7_at 26 (.istore 4) 2 28 := ⟨by decide +kernel, rfl⟩
theorem eX7_at_28 : DC mX7_at 28 (.iconst 0) 1 29 := ⟨by decide +kernel, rfl⟩
theorem eX7_at_29 : DC mX7_at 29 (.istore 5) 2 31 := ⟨by decide +kernel, rfl⟩
theorem eX7_at_31 : DC mX7_at 31 (.iload 5) 2 33 := ⟨by decide +kernel, rfl⟩
theorem eX7_at_33 : DC mX7_at 33 (.aload_n 0) 1 34 := ⟨by decide +kernel, rfl⟩
theorem eX7_at_34 : DC mX7_at 34 (.getfield 89) 3 37 := ⟨by decide +kernel, rfl⟩
theorem eX7_at_37 : DJ mX7_at 37 (.if_icmp .ge) 153 40 := ⟨116, by decide +kernel, by decide, rfl⟩
theorem eX7_at_40 : DC mX7_at 40 (.iconst 0) 1 41 := ⟨by decide +kernel, rfl⟩
theorem eX7_at_41 : DC mX7_at 41 (.istore 6) 2 43 := ⟨by decide +kernel, rfl⟩
theorem eX7_at_43 : DC mX7_at 43 (.bipush 8) 2 45 := ⟨by decide +kernel, rfl⟩
theorem eX7_at_45 : DC mX7_at 45 (.iload 5) 2 47 := ⟨by decide +kernel, rfl⟩
theorem eX7_at_47 : DC mX7_at 47 .imul 1 48 := ⟨by decide +kernel, rfl⟩
theorem eX7_at_48 : DC mX7_at 48 (.istore 7) 2 50 := ⟨by decide +kernel, rfl⟩
theorem eX7_at_50 : DC mX7_at 50 (.iload 7) 2 52 := ⟨by decide +kernel, rfl⟩
theorem eX7_at_52 : DC mX7_at 52 (.bipush 8) 2 54 := ⟨by decide +kernel, rfl⟩
theorem eX7_at_54 : DC mX7_at 54 (.iload 5) 2 56 := ⟨by decide +kernel, rfl⟩
theorem eX7_at_56 : DC mX7_at 56 .imul 1 57 := ⟨by decide +kernel, rfl⟩
theorem eX7_at_57 : DC mX7_at 57 (.aload_n 0) 1 58 := ⟨by decide +kernel, rfl⟩
theorem eX7_at_58 : DC mX7_at 58 (.getfield 50) 3 61 := ⟨by decide +kernel, rfl⟩
theorem eX7_at_61 : DC mX7_at 61 (.iload 5) 2 63 := ⟨by decide +kernel, rfl⟩
theorem eX7_at_63 : DC mX7_at 63 .iaload 1 64 := ⟨by decide +kernel, rfl⟩
theorem eX7_at_64 : DC mX7_at 64 .iadd 1 65 := ⟨by decide +kernel, rfl⟩
theorem eX7_at_65 : DJ mX7_at 65 (.if_icmp .ge) 119 68 := ⟨54, by decide +kernel, by decide, rfl⟩
theorem eX7_at_68 : DC mX7_at 68 (.iload 6) 2 70 := ⟨by decide +kernel, rfl⟩
theorem eX7_at_70 : DJ mX7_at 70 (.ifCond .ne) 106 73 := ⟨36, by decide +kernel, by decide, rfl⟩
theorem eX7_at_73 : DC mX7_at 73 (.aload_n 0) 1 74 := ⟨by decide +kernel, rfl⟩
theorem eX7_at_74 : DC mX7_at 74 (.getfield 53) 3 77 := ⟨by decide +kernel, rfl⟩
theorem eX7_at_77 : DC mX7_at 77 (.iload 7) 2 79 := ⟨by decide +kernel, rfl⟩
theorem eX7_at_79 : DC mX7_at 79 .iaload 1 80 := ⟨by decide +kernel, rfl⟩
theorem eX7_at_80 : DC mX7_at 80 (.iload_n 1) 1 81 := ⟨by decide +kernel, rfl⟩
theorem eX7_at_81 : DJ mX7_at 81 (.if_icmp .ne) 110 84 := ⟨29, by decide +kernel, by decide, rfl⟩
theorem eX7_at_84 : DC mX7_at 84 (.aload_n 0) 1 85 := ⟨by decide +kernel, rfl⟩
theorem eX7_at_85 : DC mX7_at 85 (.getfield 56) 3 88 := ⟨by decide +kernel, rfl⟩
theorem eX7_at_88 : DC mX7_at 88 (.iload 7) 2 90 := ⟨by decide +kernel, rfl⟩
theorem eX7_at_90 : DC mX7_at 90 .iaload 1 91 := ⟨by decide +kernel, rfl⟩
theorem eX7_at_91 : DC mX7_at 91 (.iload_n 2) 1 92 := ⟨by decide +kernel, rfl⟩
theorem eX7_at_92 : DJ mX7_at 92 (.if_icmp .gt) 110 95 := ⟨18, by decide +kernel, by decide, rfl⟩
theorem eX7_at_95 : DC mX7_at 95 (.aload_n 0) 1 96 := ⟨by decide +kernel, rfl⟩
theorem eX7_at_96 : DC mX7_at 96 (.getfield 59) 3 99 := ⟨by decide +kernel, rfl⟩
theorem eX7_at_99 : DC mX7_at 99 (.iload 7) 2 101 := ⟨by decide +kernel, rfl⟩
theorem eX7_at_101 : DC mX7_at 101 .iaload 1 102 := ⟨by decide +kernel, rfl⟩
theorem eX7_at_102 : DC mX7_at 102 (.iload_n 2) 1 103 := ⟨by decide +kernel, rfl⟩
theorem eX7_at_103 : DJ mX7_at 103 (.if_icmp .le) 110 106 := ⟨7, by decide +kernel, by decide, rfl⟩
theorem eX7_at_106 : DC mX7_at 106 (.iconst 1) 1 107 := ⟨by decide +kernel, rfl⟩
theorem eX7_at_107 : DJ mX7_at 107 .goto 111 110 := ⟨4, by decide +kernel, by decide, rfl⟩
theorem eX7_at_110 : DC mX7_at 110 (.iconst 0) 1 111 := ⟨by decide +kernel, rfl⟩
theorem eX7_at_111 : DC mX7_at 111 (.istore 6) 2 113 := ⟨by decide +kernel, rfl⟩
theorem eX7_at_113 : DC mX7_at 113 (.iinc 7 1) 3 116 := ⟨by decide +kernel, rfl⟩
theorem eX7_at_116 : DJ mX7_at 116 .goto 50 119 := ⟨(-66), by decide +kernel, by decide, rfl⟩
theorem eX7_at_119 : DC mX7_at 119 (.iload 6) 2 121 := ⟨by decide +kernel, rfl⟩
theorem eX7_at_121 : DJ mX7_at 121 (.ifCond .eq) 132 124 := ⟨11, by decide +kernel, by decide, rfl⟩
theorem eX7_at_124 : DC mX7_at 124 (.iload 4) 2 126 := ⟨by decide +kernel, rfl⟩
theorem eX7_at_126 : DJ mX7_at 126 (.ifCond .ne) 132 129 := ⟨6, by decide +kernel, by decide, rfl⟩
theorem eX7_at_129 : DC mX7_at 129 (.iload 5) 2 131 := ⟨by decide +kernel, rfl⟩
theorem eX7_at_131 : DC mX7_at 131 .ireturn 1 132 := ⟨by decide +kernel, rfl⟩
theorem eX7_at_132 : DC mX7_at 132 (.iload 4) 2 134 := ⟨by decide +kernel, rfl⟩
theorem eX7_at_134 : DC mX7_at 134 (.iload 6) 2 136 := ⟨by decide +kernel, rfl⟩
theorem eX7_at_136 : DJ mX7_at 136 (.ifCond .eq) 143 139 := ⟨7, by decide +kernel, by decide, rfl⟩
theorem eX7_at_139 : DC mX7_at 139 (.iconst 1) 1 140 := ⟨by decide +kernel, rfl⟩
theorem eX7_at_140 : DJ mX7_at 140 .goto 144 143 := ⟨4, by decide +kernel, by decide, rfl⟩
theorem eX7_at_143 : DC mX7_at 143 (.iconst 0) 1 144 := ⟨by decide +kernel, rfl⟩
theorem eX7_at_144 : DC mX7_at 144 .isub 1 145 := ⟨by decide +kernel, rfl⟩
theorem eX7_at_145 : DC mX7_at 145 (.istore 4) 2 147 := ⟨by decide +kernel, rfl⟩
theorem eX7_at_147 : DC mX7_at 147 (.iinc 5 1) 3 150 := ⟨by decide +kernel, rfl⟩
theorem eX7_at_150 : DJ mX7_at 150 .goto 31 153 := ⟨(-119), by decide +kernel, by decide, rfl⟩
theorem eX7_at_153 : DC mX7_at 153 (.iconst 0) 1 154 := ⟨by decide +kernel, rfl⟩
theorem eX7_at_154 : DC mX7_at 154 (.istore 5) 2 156 := ⟨by decide +kernel, rfl⟩
theorem eX7_at_156 : DC mX7_at 156 (.iload 5) 2 158 := ⟨by decide +kernel, rfl⟩
theorem eX7_at_158 : DC mX7_at 158 (.aload_n 0) 1 159 := ⟨by decide +kernel, rfl⟩
theorem eX7_at_159 : DC mX7_at 159 (.getfield 110) 3 162 := ⟨by decide +kernel, rfl⟩
theorem eX7_at_162 : DJ mX7_at 162 (.if_icmp .ge) 207 165 := ⟨45, by decide +kernel, by decide, rfl⟩
theorem eX7_at_165 : DC mX7_at 165 (.aload_n 0) 1 166 := ⟨by decide +kernel, rfl⟩
theorem eX7_at_166 : DC mX7_at 166 (.getfield 35) 3 169 := ⟨by decide +kernel, rfl⟩
theorem eX7_at_169 : DC mX7_at 169 (.iload 5) 2 171 := ⟨by decide +kernel, rfl⟩
theorem eX7_at_171 : DC mX7_at 171 .iaload 1 172 := ⟨by decide +kernel, rfl⟩
theorem eX7_at_172 : DC mX7_at 172 (.iload_n 1) 1 173 := ⟨by decide +kernel, rfl⟩
theorem eX7_at_173 : DJ mX7_at 173 (.if_icmp .ne) 201 176 := ⟨28, by decide +kernel, by decide, rfl⟩
theorem eX7_at_176 : DC mX7_at 176 (.aload_n 0) 1 177 := ⟨by decide +kernel, rfl⟩
theorem eX7_at_177 : DC mX7_at 177 (.getfield 38) 3 180 := ⟨by decide +kernel, rfl⟩
theorem eX7_at_180 : DC mX7_at 180 (.iload 5) 2 182 := ⟨by decide +kernel, rfl⟩
theorem eX7_at_182 : DC mX7_at 182 .iaload 1 183 := ⟨by decide +kernel, rfl⟩
theorem eX7_at_183 : DC mX7_at 183 (.iload_n 2) 1 184 := ⟨by decide +kernel, rfl⟩
theorem eX7_at_184 : DJ mX7_at 184 (.if_icmp .gt) 201 187 := ⟨17, by decide +kernel, by decide, rfl⟩
theorem eX7_at_187 : DC mX7_at 187 (.aload_n 0) 1 188 := ⟨by decide +kernel, rfl⟩
theorem eX7_at_188 : DC mX7_at 188 (.getfield 41) 3 191 := ⟨by decide +kernel, rfl⟩
theorem eX7_at_191 : DC mX7_at 191 (.iload 5) 2 193 := ⟨by decide +kernel, rfl⟩
theorem eX7_at_193 : DC mX7_at 193 .iaload 1 194 := ⟨by decide +kernel, rfl⟩
theorem eX7_at_194 : DC mX7_at 194 (.iload_n 2) 1 195 := ⟨by decide +kernel, rfl⟩
theorem eX7_at_195 : DJ mX7_at 195 (.if_icmp .le) 201 198 := ⟨6, by decide +kernel, by decide, rfl⟩
theorem eX7_at_198 : DC mX7_at 198 (.bipush (-2)) 2 200 := ⟨by decide +kernel, rfl⟩
theorem eX7_at_200 : DC mX7_at 200 .ireturn 1 201 := ⟨by decide +kernel, rfl⟩
theorem eX7_at_201 : DC mX7_at 201 (.iinc 5 1) 3 204 := ⟨by decide +kernel, rfl⟩
theorem eX7_at_204 : DJ mX7_at 204 .goto 156 207 := ⟨(-48), by decide +kernel, by decide, rfl⟩
theorem eX7_at_207 : DC mX7_at 207 (.iconst (-1)) 1 208 := ⟨by decide +kernel, rfl⟩
theorem eX7_at_208 : DC mX7_at 208 .ireturn 1 209 := ⟨by decide +kernel, rfl⟩
theorem eX7_crowd_0 : DC mX7_crowd 0 (.iload_n 1) 1 1 := ⟨by decide +kernel, rfl⟩
theorem eX7_crowd_1 : DJ mX7_crowd 1 (.ifCond .lt) 28 4 := ⟨27, by decide +kernel, by decide, rfl⟩
theorem eX7_crowd_4 : DC mX7_crowd 4 (.iload_n 1) 1 5 := ⟨by decide +kernel, rfl⟩
theorem eX7_crowd_5 : DC mX7_crowd 5 (.sipush 2880) 3 8 := ⟨by decide +kernel, rfl⟩
theorem eX7_crowd_8 : DJ mX7_crowd 8 (.if_icmp .ge) 28 11 := ⟨20, by decide +kernel, by decide, rfl⟩
theorem eX7_crowd_11 : DC mX7_crowd 11 (.iload_n 2) 1 12 := ⟨by decide +kernel, rfl⟩
theorem eX7_crowd_12 : DC mX7_crowd 12 (.bipush 10) 2 14 := ⟨by decide +kernel, rfl⟩
theorem eX7_crowd_14 : DJ mX7_crowd 14 (.if_icmp .lt) 28 17 := ⟨14, by decide +kernel, by decide, rfl⟩
theorem eX7_crowd_17 : DC mX7_crowd 17 (.iload_n 2) 1 18 := ⟨by decide +kernel, rfl⟩
theorem eX7_crowd_18 : DC mX7_crowd 18 (.sipush 200) 3 21 := ⟨by decide +kernel, rfl⟩
theorem eX7_crowd_21 : DJ mX7_crowd 21 (.if_icmp .gt) 28 24 := ⟨7, by decide +kernel, by decide, rfl⟩
theorem eX7_crowd_24 : DC mX7_crowd 24 (.iload_n 3) 1 25 := ⟨by decide +kernel, rfl⟩
theorem eX7_crowd_25 : DJ mX7_crowd 25 (.ifCond .ge) 30 28 := ⟨5, by decide +kernel, by decide, rfl⟩
theorem eX7_crowd_28 : DC mX7_crowd 28 (.iconst (-1)) 1 29 := ⟨by decide +kernel, rfl⟩
theorem eX7_crowd_29 : DC mX7_crowd 29 .ireturn 1 30 := ⟨by decide +kernel, rfl⟩
theorem eX7_crowd_30 : DC mX7_crowd 30 (.iload_n 3) 1 31 := ⟨by decide +kernel, rfl⟩
theorem eX7_crowd_31 : DC mX7_crowd 31 (.istore 4) 2 33 := ⟨by decide +kernel, rfl⟩
theorem eX7_crowd_33 : DC mX7_crowd 33 (.iconst 0) 1 34 := ⟨by decide +kernel, rfl⟩
theorem eX7_crowd_34 : DC mX7_crowd 34 (.istore 5) 2 36 := ⟨by decide +kernel, rfl⟩
theorem eX7_crowd_36 : DC mX7_crowd 36 (.iload 5) 2 38 := ⟨by decide +kernel, rfl⟩
theorem eX7_crowd_38 : DC mX7_crowd 38 (.aload_n 0) 1 39 := ⟨by decide +kernel, rfl⟩
theorem eX7_crowd_39 : DC mX7_crowd 39 (.getfield 86) 3 42 := ⟨by decide +kernel, rfl⟩
theorem eX7_crowd_42 : DJ mX7_crowd 42 (.if_icmp .ge) 82 45 := ⟨40, by decide +kernel, by decide, rfl⟩
theorem eX7_crowd_45 : DC mX7_crowd 45 (.aload_n 0) 1 46 := ⟨by decide +kernel, rfl⟩
theorem eX7_crowd_46 : DC mX7_crowd 46 (.iconst (-1)) 1 47 := ⟨by decide +kernel, rfl⟩
theorem eX7_crowd_47 : DC mX7_crowd 47 (.iconst 1) 1 48 := ⟨by decide +kernel, rfl⟩
theorem eX7_crowd_48 : DC mX7_crowd 48 (.iload_n 2) 1 49 := ⟨by decide +kernel, rfl⟩
theorem eX7_crowd_49 : DC mX7_crowd 49 (.iconst 0) 1 50 := ⟨by decide +kernel, rfl⟩
theorem eX7_crowd_50 : DC mX7_crowd 50 (.iload 5) 2 52 := ⟨by decide +kernel, rfl⟩
theorem eX7_crowd_52 : DC mX7_crowd 52 (.iload_n 1) 1 53 := ⟨by decide +kernel, rfl⟩
theorem eX7_crowd_53 : DC mX7_crowd 53 (.iload_n 1) 1 54 := ⟨by decide +kernel, rfl⟩
theorem eX7_crowd_54 : DC mX7_crowd 54 (.iconst 1) 1 55 := ⟨by decide +kernel, rfl⟩
theorem eX7_crowd_55 : DC mX7_crowd 55 .iadd 1 56 := ⟨by decide +kernel, rfl⟩
theorem eX7_crowd_56 : DC mX7_crowd 56 (.invokevirtual 161) 3 59 := ⟨by decide +kernel, rfl⟩
theorem eX7_crowd_59 : DJ mX7_crowd 59 (.ifCond .le) 65 62 := ⟨6, by decide +kernel, by decide, rfl⟩
theorem eX7_crowd_62 : DJ mX7_crowd 62 .goto 76 65 := ⟨14, by decide +kernel, by decide, rfl⟩
theorem eX7_crowd_65 : DC mX7_crowd 65 (.iload 4) 2 67 := ⟨by decide +kernel, rfl⟩
theorem eX7_crowd_67 : DJ mX7_crowd 67 (.ifCond .ne) 73 70 := ⟨6, by decide +kernel, by decide, rfl⟩
theorem eX7_crowd_70 : DC mX7_crowd 70 (.iload 5) 2 72 := ⟨by decide +kernel, rfl⟩
theorem eX7_crowd_72 : DC mX7_crowd 72 .ireturn 1 73 := ⟨by decide +kernel, rfl⟩
theorem eX7_crowd_73 : DC mX7_crowd 73 (.iinc 4 (-1)) 3 76 := ⟨by decide +kernel, rfl⟩
theorem eX7_crowd_76 : DC mX7_crowd 76 (.iinc 5 1) 3 79 := ⟨by decide +kernel, rfl⟩
theorem eX7_crowd_79 : DJ mX7_crowd 79 .goto 36 82 := ⟨(-43), by decide +kernel, by decide, rfl⟩
theorem eX7_crowd_82 : DC mX7_crowd 82 (.iconst (-1)) 1 83 := ⟨by decide +kernel, rfl⟩
theorem eX7_crowd_83 : DC mX7_crowd 83 .ireturn 1 84 := ⟨by decide +kernel, rfl⟩
end
section
/-! NUMBERS, and small words of the specification -/
def tC2 (L : List Value) : Bool := L.all (fun w => match w with
  | .int _ => true
  | .ref _ => true
  | _ => false)
theorem CT.of2 {z : tMS} {as : List Value} {σ : tSt} {Q : Option Int32 → tSt → Prop} (j : Nat) (hy : plainName z.1.cls = true) (hc : tC2 as = true) (hn : as.length + j = z.2.2.1) (h : TT z 0 (as ++ List.replicate j .null) [] σ Q) : CT z as σ Q :=
  CT.of j hy (fun v hv => by have := List.all_eq_true.mp hc v hv; cases v <;> simp_all [Value.category]) hn h
theorem tr_imulC {y : tMS} {pc pc' : Nat} {L st : List Value} {σ : tSt} {Q : Option Int32 → tSt → Prop} {a b : Int32} (d : DC y pc .imul 1 pc') (k : TT y pc' L (.int (b * a) :: st) σ Q) : TT y pc L (.int b :: .int a :: st) σ Q := by
  refine tr_imul d ?_
  rw [Int32.mul_comm]
  exact k
def bi (P : Prop) [Decidable P] : Int32 := if P then nI 1 else nI 0
theorem bi_0 {P : Prop} [Decidable P] (h : bi P = 0) : ¬ P := by
  intro hp
  rw [bi, if_pos hp] at h
  exact absurd h (by decide)
theorem bi_n {P : Prop} [Decidable P] (h : ¬ bi P = 0) : P := by
  by_cases hp : P
  · exact hp
  · rw [bi, if_neg hp] at h
    exact absurd rfl h
theorem bi_t {P : Prop} [Decidable P] (h : P) : nI 1 = bi P := by rw [bi, if_pos h]
theorem bi_f {P : Prop} [Decidable P] (h : ¬ P) : nI 0 = bi P := by rw [bi, if_neg h]
theorem bi_iff {P R : Prop} [Decidable P] [Decidable R] (h : P ↔ R) : bi P = bi R := by
  unfold bi
  by_cases hp : P
  · rw [if_pos hp, if_pos (h.mp hp)]
  · rw [if_neg hp, if_neg (fun q => hp (h.mpr q))]
theorem nar_bi (P : Prop) [Decidable P] : narrow .boolean (.int (bi P)) = .int (bi P) := by
  unfold bi
  by_cases hp : P
  · rw [if_pos hp]; rfl
  · rw [if_neg hp]; rfl
theorem ci_m1 : Int32.ofInt (-1) = (-1 : Int32) := by decide
theorem ci_0 : Int32.ofInt 0 = nI 0 := by decide
theorem ci_1 : Int32.ofInt 1 = nI 1 := by decide
theorem ci_2 : Int32.ofInt 2 = nI 2 := by decide
theorem ci_3 : Int32.ofInt 3 = nI 3 := by decide
theorem ci_4 : Int32.ofInt 4 = nI 4 := by decide
theorem ci_5 : Int32.ofInt 5 = nI 5 := by decide
theorem in_row {v : Int32} (c : Nat) (hc : c < 5) (h : vp_in v 40) : vp_in (v * nI 5 + nI c) 200 := by
  obtain ⟨j, hj, rfl⟩ := vp_in_of h (by decide)
  rw [pk_mul, nI_add]
  exact vp_in_nI (by omega) (by decide)
theorem in_row0 {v : Int32} (h : vp_in v 40) : vp_in (v * nI 5) 200 := by
  obtain ⟨j, hj, rfl⟩ := vp_in_of h (by decide)
  rw [pk_mul]
  exact vp_in_nI (by omega) (by decide)
theorem in_slot {v k : Int32} (h : vp_in v 40) (hk : vp_in k 8) : vp_in (v * nI 8 + k) 320 := by
  obtain ⟨j, hj, rfl⟩ := vp_in_of h (by decide)
  obtain ⟨i, hi, rfl⟩ := vp_in_of hk (by decide)
  rw [pk_mul, nI_add]
  exact vp_in_nI (by omega) (by decide)
theorem in_slot0 {v : Int32} (h : vp_in v 40) : vp_in (v * nI 8) 320 := by
  obtain ⟨j, hj, rfl⟩ := vp_in_of h (by decide)
  rw [pk_mul]
  exact vp_in_nI (by omega) (by decide)
theorem in_lt {x : Int32} {n N : Nat} (h0 : ¬ x < 0) (h1 : x < nI n) (hn : n ≤ N) (hN : N < 2 ^ 31) : vp_in x N := by
  obtain ⟨j, hj, rfl⟩ := nI_of h0
  exact vp_in_nI (by have := (nI_ltI hj (by omega)).mp h1; omega) hN
theorem add_n0 (x : Int32) : x + nI 0 = x := by
  show x + 0 = x
  simp
theorem n0 : nI 0 = 0 := rfl
/-- the first of f ints from i on for which P, else -1 -/
def fi (P : Int32 → Bool) : Nat → Nat → Int32
  | 0, _ => -1
  | f + 1, i => if P (nI i) then nI i else fi P f (i + 1)
/-- is there one of f ints from i on for which P -/
def an (P : Int32 → Bool) : Nat → Nat → Bool
  | 0, _ => false
  | f + 1, i => P (nI i) || an P f (i + 1)
/-- how many of f ints from i on, for which P -/
def ct (P : Int32 → Bool) : Nat → Nat → Nat
  | 0, _ => 0
  | f + 1, i => (if P (nI i) then 1 else 0) + ct P f (i + 1)
theorem an_iff {P : Int32 → Bool} : ∀ {f i : Nat}, an P f i = true ↔ ∃ j, i ≤ j ∧ j < i + f ∧ P (nI j) = true
  | 0, i => by simp [an]; intro j h1 h2; omega
  | f + 1, i => by
    simp only [an, Bool.or_eq_true, an_iff (f := f) (i := i + 1)]
    constructor
    · rintro (h | ⟨j, h1, h2, h3⟩)
      · exact ⟨i, Nat.le_refl _, by omega, h⟩
      · exact ⟨j, by omega, by omega, h3⟩
    · rintro ⟨j, h1, h2, h3⟩
      by_cases hj : j = i
      · subst hj; exact Or.inl h3
      · exact Or.inr ⟨j, by omega, by omega, h3⟩
theorem an_congr {P R : Int32 → Bool} : ∀ {f i : Nat}, (∀ j, i ≤ j → j < i + f → P (nI j) = R (nI j)) → an P f i = an R f i
  | 0, _, _ => rfl
  | f + 1, i, h => by
    simp only [an]
    rw [h i (Nat.le_refl _) (by omega), an_congr (f := f) (i := i + 1) (fun j h1 h2 => h j (by omega) (by omega))]
theorem fi_congr {P R : Int32 → Bool} : ∀ {f i : Nat}, (∀ j, i ≤ j → j < i + f → P (nI j) = R (nI j)) → fi P f i = fi R f i
  | 0, _, _ => rfl
  | f + 1, i, h => by
    simp only [fi]
    rw [h i (Nat.le_refl _) (by omega), fi_congr (f := f) (i := i + 1) (fun j h1 h2 => h j (by omega) (by omega))]
theorem fi_some {P : Int32 → Bool} : ∀ {f i : Nat}, fi P f i ≠ -1 → ∃ j, i ≤ j ∧ j < i + f ∧ fi P f i = nI j ∧ P (nI j) = true
  | 0, i, h => absurd rfl h
  | f + 1, i, h => by
    simp only [fi] at h ⊢
    by_cases hp : P (nI i) = true
    · exact ⟨i, Nat.le_refl _, by omega, by rw [if_pos hp], hp⟩
    · rw [if_neg hp] at h ⊢
      obtain ⟨j, h1, h2, h3, h4⟩ := fi_some (f := f) (i := i + 1) h
      exact ⟨j, by omega, by omega, h3, h4⟩
theorem nI_ne_m1 {n : Nat} (h : n < 2 ^ 31) : nI n ≠ -1 := by
  intro q
  have := nI_toInt h
  rw [q] at this
  have h2 : (-1 : Int32).toInt = -1 := by decide
  omega
theorem fi_none {P : Int32 → Bool} : ∀ {f i : Nat}, i + f < 2 ^ 31 → (fi P f i = -1 ↔ ∀ j, i ≤ j → j < i + f → P (nI j) = false)
  | 0, i, _ => by simp [fi]; intro j h1 h2; omega
  | f + 1, i, hb => by
    simp only [fi]
    by_cases hp : P (nI i) = true
    · rw [if_pos hp]
      constructor
      · intro h; exact absurd h (nI_ne_m1 (by omega))
      · intro h; rw [h i (Nat.le_refl _) (by omega)] at hp; cases hp
    · rw [if_neg hp, fi_none (f := f) (i := i + 1) (by omega)]
      constructor
      · intro h j h1 h2
        by_cases hj : j = i
        · subst hj; simpa using hp
        · exact h j (by omega) (by omega)
      · intro h j h1 h2; exact h j (by omega) (by omega)
theorem up_f {σ : tSt} {k k' a b : Nat} {x : Int32} (h : nI b ≠ nI a) : up σ k (nI a) x k' (nI b) = σ k' (nI b) := up_n h
theorem inc_n (i : Nat) : nI i + Int32.ofInt 1 = nI (i + 1) := nI_1 i
theorem ge_of {x : Int32} {n i : Nat} (hx : x = nI n) (hn : n < 2 ^ 31) (hi : i < 2 ^ 31) (h : x ≤ nI i) : n ≤ i := (nI_leI hn hi).mp (hx ▸ h)
theorem lt_of {x : Int32} {n i : Nat} (hx : x = nI n) (hn : n < 2 ^ 31) (hi : i < 2 ^ 31) (h : ¬ x ≤ nI i) : i < n := Nat.not_le.mp fun q => h (hx ▸ (nI_leI hn hi).mpr q)
theorem fi_t {P : Int32 → Bool} {f i : Nat} (h : P (nI i) = true) : nI i = fi P (f + 1) i := by rw [fi, if_pos h]
theorem an_t {P : Int32 → Bool} {f i : Nat} (h : P (nI i) = true) : an P (f + 1) i = true := by rw [an, h]; rfl
theorem lpF {y : tMS} {pc : Nat} {L st : List Value} {σ τ : tSt} {P : Int32 → Bool} {f i : Nat} (h : P (nI i) = false) (k : TT y pc L st σ (PE (some (fi P f (i + 1))) τ)) : TT y pc L st σ (PE (some (fi P (f + 1) i)) τ) := by
  rw [fi, if_neg (by rw [h]; decide)]
  exact k
theorem lpA {y : tMS} {pc : Nat} {L st : List Value} {σ τ : tSt} {P : Int32 → Bool} {f i : Nat} (h : P (nI i) = false) (k : TT y pc L st σ (PE (some (bi (an P f (i + 1) = true))) τ)) : TT y pc L st σ (PE (some (bi (an P (f + 1) i = true))) τ) := by
  have e : an P (f + 1) i = an P f (i + 1) := by rw [an, h]; rfl
  rw [bi_iff (P := an P (f + 1) i = true) (R := an P f (i + 1) = true) (by rw [e])]
  exact k
theorem up_up {σ : tSt} {k : Nat} {i x z : Int32} : up (up σ k i x) k i z = up σ k i z := by
  funext k' i'
  simp only [up]
  by_cases hk : k' = k
  · simp [hk]
    by_cases hi : i' = i <;> simp [hi]
  · simp [hk]
abbrev tn (x : Int32) : Nat := x.toNatClampNeg
theorem tn_of {x : Int32} {n : Nat} (h : x = nI n) (hn : n < 2 ^ 31) : tn x = n := by rw [h]; exact nI_clamp hn
/-- forget locals -/
def fgl (ks : List Nat) (L : List Value) : List Value := ks.foldl (fun l k => l.set k .null) L
theorem fgl_at : ∀ (ks : List Nat) (L : List Value) (k : Nat) (v : Value), (fgl ks L)[k]? = some v → v ≠ .null → L[k]? = some v
  | [], _, _, _, h, _ => h
  | a :: ks, L, k, v, h, hv => by
    have h1 := fgl_at ks (L.set a .null) k v h hv
    by_cases hk : k = a
    · subst hk
      have hlt : k < L.length := by
        have := (List.getElem?_eq_some_iff.mp h1).1
        simpa using this
      rw [List.getElem?_set_self hlt] at h1
      exact absurd (Option.some.inj h1).symm hv
    · rw [List.getElem?_set_ne (Ne.symm hk)] at h1
      exact h1
theorem TT.fg {y : tMS} {pc : Nat} {L st : List Value} {σ : tSt} {Q : Option Int32 → tSt → Prop} (ks : List Nat) (h : TT y pc (fgl ks L) st σ Q) : TT y pc L st σ Q := by
  intro l D ad cA cZ p e s m args below meth c H locs ls hC hP hS hL
  exact h l D ad cA cZ p e s m args below meth c H locs ls hC hP hS ⟨hL.1, hL.2.1, fun k v hk hv => hL.2.2 k v (fgl_at ks L k v hk hv) hv⟩
end
section
theorem k_X6_isWithin {σ : tSt} {n lo hi : Int32} : CT mX6_isWithin [.int n, .int lo, .int hi] σ (PE (some (bi (¬ n < lo ∧ ¬ hi < n))) σ) := by
  refine CT.of2 0 (by decide) rfl rfl ?_
  refine tr_iload_n eX6_isWithin_0 rfl ?_
  refine tr_iload_n eX6_isWithin_1 rfl ?_
  refine tr_icmp_lt eX6_isWithin_2 (fun h2 => ?_) (fun h2 => ?_)
  · skip
    refine tr_iconst eX6_isWithin_14 (nI 0) ci_0 ?_
    refine tr_ret eX6_isWithin_15 rfl (by first | rfl | exact nar_bi _) ?_
    first | with_reducible exact ⟨rfl, rfl⟩ | (refine ⟨congrArg some ?_, rfl⟩; unfold bi; split <;> first | with_reducible rfl | (exfalso; simp_all; done) | (exfalso; simp only [Int32.lt_iff_toInt_lt, Int32.le_iff_toInt_le] at *; omega)) | exact ⟨rfl, rfl⟩
  · skip
    refine tr_iload_n eX6_isWithin_5 rfl ?_
    refine tr_iload_n eX6_isWithin_6 rfl ?_
    refine tr_icmp_gt eX6_isWithin_7 (fun h7 => ?_) (fun h7 => ?_)
    · skip
      refine tr_iconst eX6_isWithin_14 (nI 0) ci_0 ?_
      refine tr_ret eX6_isWithin_15 rfl (by first | rfl | exact nar_bi _) ?_
      first | with_reducible exact ⟨rfl, rfl⟩ | (refine ⟨congrArg some ?_, rfl⟩; unfold bi; split <;> first | with_reducible rfl | (exfalso; simp_all; done) | (exfalso; simp only [Int32.lt_iff_toInt_lt, Int32.le_iff_toInt_le] at *; omega)) | exact ⟨rfl, rfl⟩
    · skip
      refine tr_iconst eX6_isWithin_10 (nI 1) ci_1 ?_
      refine tr_goto eX6_isWithin_11 ?_
      refine tr_ret eX6_isWithin_15 rfl (by first | rfl | exact nar_bi _) ?_
      first | with_reducible exact ⟨rfl, rfl⟩ | (refine ⟨congrArg some ?_, rfl⟩; unfold bi; split <;> first | with_reducible rfl | (exfalso; simp_all; done) | (exfalso; simp only [Int32.lt_iff_toInt_lt, Int32.le_iff_toInt_le] at *; omega)) | exact ⟨rfl, rfl⟩

theorem k_X6_isSpan {σ : tSt} {a b : Int32} : CT mX6_isSpan [.int a, .int b] σ (PE (some (bi (¬ a < 0 ∧ ¬ b ≤ a ∧ ¬ nI 2880 < b))) σ) := by
  refine CT.of2 0 (by decide) rfl rfl ?_
  refine tr_iload_n eX6_isSpan_0 rfl ?_
  refine tr_if_lt eX6_isSpan_1 (fun h1 => ?_) (fun h1 => ?_)
  · skip
    refine tr_iconst eX6_isSpan_20 (nI 0) ci_0 ?_
    refine tr_ret eX6_isSpan_21 rfl (by first | rfl | exact nar_bi _) ?_
    first | with_reducible exact ⟨rfl, rfl⟩ | (refine ⟨congrArg some ?_, rfl⟩; unfold bi; split <;> first | with_reducible rfl | (exfalso; simp_all; done) | (exfalso; simp only [Int32.lt_iff_toInt_lt, Int32.le_iff_toInt_le] at *; omega)) | exact ⟨rfl, rfl⟩
  · skip
    refine tr_iload_n eX6_isSpan_4 rfl ?_
    refine tr_iload_n eX6_isSpan_5 rfl ?_
    refine tr_icmp_ge eX6_isSpan_6 (fun h6 => ?_) (fun h6 => ?_)
    · skip
      refine tr_iconst eX6_isSpan_20 (nI 0) ci_0 ?_
      refine tr_ret eX6_isSpan_21 rfl (by first | rfl | exact nar_bi _) ?_
      first | with_reducible exact ⟨rfl, rfl⟩ | (refine ⟨congrArg some ?_, rfl⟩; unfold bi; split <;> first | with_reducible rfl | (exfalso; simp_all; done) | (exfalso; simp only [Int32.lt_iff_toInt_lt, Int32.le_iff_toInt_le] at *; omega)) | exact ⟨rfl, rfl⟩
    · skip
      refine tr_iload_n eX6_isSpan_9 rfl ?_
      refine tr_sipush eX6_isSpan_10 (nI 2880) (by decide) ?_
      refine tr_icmp_gt eX6_isSpan_13 (fun h13 => ?_) (fun h13 => ?_)
      · skip
        refine tr_iconst eX6_isSpan_20 (nI 0) ci_0 ?_
        refine tr_ret eX6_isSpan_21 rfl (by first | rfl | exact nar_bi _) ?_
        first | with_reducible exact ⟨rfl, rfl⟩ | (refine ⟨congrArg some ?_, rfl⟩; unfold bi; split <;> first | with_reducible rfl | (exfalso; simp_all; done) | (exfalso; simp only [Int32.lt_iff_toInt_lt, Int32.le_iff_toInt_le] at *; omega)) | exact ⟨rfl, rfl⟩
      · skip
        refine tr_iconst eX6_isSpan_16 (nI 1) ci_1 ?_
        refine tr_goto eX6_isSpan_17 ?_
        refine tr_ret eX6_isSpan_21 rfl (by first | rfl | exact nar_bi _) ?_
        first | with_reducible exact ⟨rfl, rfl⟩ | (refine ⟨congrArg some ?_, rfl⟩; unfold bi; split <;> first | with_reducible rfl | (exfalso; simp_all; done) | (exfalso; simp only [Int32.lt_iff_toInt_lt, Int32.le_iff_toInt_le] at *; omega)) | exact ⟨rfl, rfl⟩

/-- spans with a minute in common -/
def s_hc (a b c d : Int32) : Bool := decide (a < d) && decide (c < b)
theorem k_X6_haveCommonMinute {σ : tSt} {a b c d : Int32} : CT mX6_haveCommonMinute [.int a, .int b, .int c, .int d] σ (PE (some (bi (s_hc a b c d = true))) σ) := by
  refine CT.of2 0 (by decide) rfl rfl ?_
  refine tr_iload_n eX6_haveCommonMinute_0 rfl ?_
  refine tr_iload_n eX6_haveCommonMinute_1 rfl ?_
  refine tr_icmp_ge eX6_haveCommonMinute_2 (fun h2 => ?_) (fun h2 => ?_)
  · skip
    refine tr_iconst eX6_haveCommonMinute_14 (nI 0) ci_0 ?_
    refine tr_ret eX6_haveCommonMinute_15 rfl (by first | rfl | exact nar_bi _) ?_
    refine ⟨congrArg some ?_, rfl⟩
    first | (refine bi_t ?_; simp_all [s_hc]; done) | (refine bi_f ?_; simp_all [s_hc]; done) | (refine bi_f ?_; simp_all [s_hc]; simp only [Int32.lt_iff_toInt_lt, Int32.le_iff_toInt_le] at *; omega)
  · skip
    refine tr_iload_n eX6_haveCommonMinute_5 rfl ?_
    refine tr_iload_n eX6_haveCommonMinute_6 rfl ?_
    refine tr_icmp_ge eX6_haveCommonMinute_7 (fun h7 => ?_) (fun h7 => ?_)
    · skip
      refine tr_iconst eX6_haveCommonMinute_14 (nI 0) ci_0 ?_
      refine tr_ret eX6_haveCommonMinute_15 rfl (by first | rfl | exact nar_bi _) ?_
      refine ⟨congrArg some ?_, rfl⟩
      first | (refine bi_t ?_; simp_all [s_hc]; done) | (refine bi_f ?_; simp_all [s_hc]; done) | (refine bi_f ?_; simp_all [s_hc]; simp only [Int32.lt_iff_toInt_lt, Int32.le_iff_toInt_le] at *; omega)
    · skip
      refine tr_iconst eX6_haveCommonMinute_10 (nI 1) ci_1 ?_
      refine tr_goto eX6_haveCommonMinute_11 ?_
      refine tr_ret eX6_haveCommonMinute_15 rfl (by first | rfl | exact nar_bi _) ?_
      refine ⟨congrArg some ?_, rfl⟩
      first | (refine bi_t ?_; simp_all [s_hc]; done) | (refine bi_f ?_; simp_all [s_hc]; done) | (refine bi_f ?_; simp_all [s_hc]; simp only [Int32.lt_iff_toInt_lt, Int32.le_iff_toInt_le] at *; omega)

theorem k_X6_grant {σ : tSt} {x : Int32} : CT mX6_grant [.ref 0, .int x] σ (PE (some x) (up σ 0 (nI 7) (nI 0))) := by
  refine CT.of2 0 (by decide) rfl rfl ?_
  refine tr_aload_n eX6_grant_0 rfl ?_
  refine tr_iconst eX6_grant_1 (nI 0) ci_0 ?_
  refine tr_put eX6_grant_2 fp_X6_61 rfl rfl ?_
  refine tr_iload_n eX6_grant_5 rfl ?_
  refine tr_ret eX6_grant_6 rfl rfl ?_
  first | with_reducible exact ⟨rfl, rfl⟩ | (refine ⟨congrArg some ?_, rfl⟩; unfold bi; split <;> first | with_reducible rfl | (exfalso; simp_all; done) | (exfalso; simp only [Int32.lt_iff_toInt_lt, Int32.le_iff_toInt_le] at *; omega)) | exact ⟨rfl, rfl⟩

theorem k_X6_allow {σ : tSt} : CT mX6_allow [.ref 0] σ (PE (some (nI 1)) (up σ 0 (nI 7) (nI 0))) := by
  refine CT.of2 0 (by decide) rfl rfl ?_
  refine tr_aload_n eX6_allow_0 rfl ?_
  refine tr_iconst eX6_allow_1 (nI 0) ci_0 ?_
  refine tr_put eX6_allow_2 fp_X6_61 rfl rfl ?_
  refine tr_iconst eX6_allow_5 (nI 1) ci_1 ?_
  refine tr_ret eX6_allow_6 rfl (by first | rfl | exact nar_bi _) ?_
  first | with_reducible exact ⟨rfl, rfl⟩ | (refine ⟨congrArg some ?_, rfl⟩; unfold bi; split <;> first | with_reducible rfl | (exfalso; simp_all; done) | (exfalso; simp only [Int32.lt_iff_toInt_lt, Int32.le_iff_toInt_le] at *; omega)) | exact ⟨rfl, rfl⟩

theorem k_X6_refuse {σ : tSt} {x : Int32} : CT mX6_refuse [.ref 0, .int x] σ (PE (some (-1)) (up σ 0 (nI 7) x)) := by
  refine CT.of2 0 (by decide) rfl rfl ?_
  refine tr_aload_n eX6_refuse_0 rfl ?_
  refine tr_iload_n eX6_refuse_1 rfl ?_
  refine tr_put eX6_refuse_2 fp_X6_61 rfl rfl ?_
  refine tr_iconst eX6_refuse_5 (-1) ci_m1 ?_
  refine tr_ret eX6_refuse_6 rfl rfl ?_
  first | with_reducible exact ⟨rfl, rfl⟩ | (refine ⟨congrArg some ?_, rfl⟩; unfold bi; split <;> first | with_reducible rfl | (exfalso; simp_all; done) | (exfalso; simp only [Int32.lt_iff_toInt_lt, Int32.le_iff_toInt_le] at *; omega)) | exact ⟨rfl, rfl⟩

theorem k_X6_deny {σ : tSt} {x : Int32} : CT mX6_deny [.ref 0, .int x] σ (PE (some (nI 0)) (up σ 0 (nI 7) x)) := by
  refine CT.of2 0 (by decide) rfl rfl ?_
  refine tr_aload_n eX6_deny_0 rfl ?_
  refine tr_iload_n eX6_deny_1 rfl ?_
  refine tr_put eX6_deny_2 fp_X6_61 rfl rfl ?_
  refine tr_iconst eX6_deny_5 (nI 0) ci_0 ?_
  refine tr_ret eX6_deny_6 rfl (by first | rfl | exact nar_bi _) ?_
  first | with_reducible exact ⟨rfl, rfl⟩ | (refine ⟨congrArg some ?_, rfl⟩; unfold bi; split <;> first | with_reducible rfl | (exfalso; simp_all; done) | (exfalso; simp only [Int32.lt_iff_toInt_lt, Int32.le_iff_toInt_le] at *; omega)) | exact ⟨rfl, rfl⟩

theorem k_X6_keepReason {σ : tSt} {x : Int32} : CT mX6_keepReason [.ref 0, .int x] σ (PE none (up (up σ 0 (nI 8) x) 0 (nI 9) (σ 19 (nI 7)))) := by
  refine CT.of2 0 (by decide) rfl rfl ?_
  refine tr_aload_n eX6_keepReason_0 rfl ?_
  refine tr_iload_n eX6_keepReason_1 rfl ?_
  refine tr_put eX6_keepReason_2 fp_X6_64 rfl rfl ?_
  refine tr_aload_n eX6_keepReason_5 rfl ?_
  refine tr_aload_n eX6_keepReason_6 rfl ?_
  refine tr_getR eX6_keepReason_7 fk_X6_28 rfl rfl ?_
  refine tr_getI eX6_keepReason_10 fk_X6_283 rfl rfl ?_
  try simp (disch := decide) only [up_k, up_s, up_f]
  refine tr_put eX6_keepReason_13 fp_X6_67 rfl rfl ?_
  refine tr_vret eX6_keepReason_16 rfl ?_
  first | with_reducible exact ⟨rfl, rfl⟩ | (refine ⟨congrArg some ?_, rfl⟩; unfold bi; split <;> first | with_reducible rfl | (exfalso; simp_all; done) | (exfalso; simp only [Int32.lt_iff_toInt_lt, Int32.le_iff_toInt_le] at *; omega)) | exact ⟨rfl, rfl⟩

theorem k_X1_hasStand {σ : tSt} {s : Int32} : CT mX1_hasStand [.ref 17, .int s] σ (PE (some (bi (¬ s < 0 ∧ ¬ σ 17 (nI 9) ≤ s))) σ) := by
  refine CT.of2 0 (by decide) rfl rfl ?_
  refine tr_iload_n eX1_hasStand_0 rfl ?_
  refine tr_if_lt eX1_hasStand_1 (fun h1 => ?_) (fun h1 => ?_)
  · skip
    refine tr_iconst eX1_hasStand_16 (nI 0) ci_0 ?_
    refine tr_ret eX1_hasStand_17 rfl (by first | rfl | exact nar_bi _) ?_
    first | with_reducible exact ⟨rfl, rfl⟩ | (refine ⟨congrArg some ?_, rfl⟩; unfold bi; split <;> first | with_reducible rfl | (exfalso; simp_all; done) | (exfalso; simp only [Int32.lt_iff_toInt_lt, Int32.le_iff_toInt_le] at *; omega)) | exact ⟨rfl, rfl⟩
  · skip
    refine tr_iload_n eX1_hasStand_4 rfl ?_
    refine tr_aload_n eX1_hasStand_5 rfl ?_
    refine tr_getI eX1_hasStand_6 fk_X1_39 rfl rfl ?_
    refine tr_icmp_ge eX1_hasStand_9 (fun h9 => ?_) (fun h9 => ?_)
    · skip
      refine tr_iconst eX1_hasStand_16 (nI 0) ci_0 ?_
      refine tr_ret eX1_hasStand_17 rfl (by first | rfl | exact nar_bi _) ?_
      first | with_reducible exact ⟨rfl, rfl⟩ | (refine ⟨congrArg some ?_, rfl⟩; unfold bi; split <;> first | with_reducible rfl | (exfalso; simp_all; done) | (exfalso; simp only [Int32.lt_iff_toInt_lt, Int32.le_iff_toInt_le] at *; omega)) | exact ⟨rfl, rfl⟩
    · skip
      refine tr_iconst eX1_hasStand_12 (nI 1) ci_1 ?_
      refine tr_goto eX1_hasStand_13 ?_
      refine tr_ret eX1_hasStand_17 rfl (by first | rfl | exact nar_bi _) ?_
      first | with_reducible exact ⟨rfl, rfl⟩ | (refine ⟨congrArg some ?_, rfl⟩; unfold bi; split <;> first | with_reducible rfl | (exfalso; simp_all; done) | (exfalso; simp only [Int32.lt_iff_toInt_lt, Int32.le_iff_toInt_le] at *; omega)) | exact ⟨rfl, rfl⟩

theorem k_X1_addStand {σ : tSt} {k z : Int32} (hn : vp_in (σ 17 (nI 9)) 24) : CT mX1_addStand [.ref 17, .int k, .int z] σ (PE (some (σ 17 (nI 9) + nI 1 - nI 1)) (up (up (up σ 1 (σ 17 (nI 9)) k) 2 (σ 17 (nI 9)) z) 17 (nI 9) (σ 17 (nI 9) + nI 1))) := by
  refine CT.of2 0 (by decide) rfl rfl ?_
  refine tr_aload_n eX1_addStand_0 rfl ?_
  refine tr_getR eX1_addStand_1 fk_X1_9 rfl rfl ?_
  refine tr_aload_n eX1_addStand_4 rfl ?_
  refine tr_getI eX1_addStand_5 fk_X1_39 rfl rfl ?_
  refine tr_iload_n eX1_addStand_8 rfl ?_
  refine tr_iast eX1_addStand_9 rfl (by first | with_reducible assumption | with_reducible exact in_slot (by with_reducible assumption) (by with_reducible assumption) | with_reducible exact in_row _ (by decide) (by with_reducible assumption) | with_reducible exact in_row0 (by with_reducible assumption) | with_reducible exact in_slot0 (by with_reducible assumption) | (simp (disch := decide) only [up_k, up_s, up_f] <;> with_reducible assumption)) ?_
  refine tr_aload_n eX1_addStand_10 rfl ?_
  refine tr_getR eX1_addStand_11 fk_X1_15 rfl rfl ?_
  refine tr_aload_n eX1_addStand_14 rfl ?_
  refine tr_getI eX1_addStand_15 fk_X1_39 rfl rfl ?_
  try simp (disch := decide) only [up_k, up_s, up_f]
  refine tr_iload_n eX1_addStand_18 rfl ?_
  refine tr_iast eX1_addStand_19 rfl (by first | with_reducible assumption | with_reducible exact in_slot (by with_reducible assumption) (by with_reducible assumption) | with_reducible exact in_row _ (by decide) (by with_reducible assumption) | with_reducible exact in_row0 (by with_reducible assumption) | with_reducible exact in_slot0 (by with_reducible assumption) | (simp (disch := decide) only [up_k, up_s, up_f] <;> with_reducible assumption)) ?_
  refine tr_aload_n eX1_addStand_20 rfl ?_
  refine tr_dup eX1_addStand_21 rfl ?_
  refine tr_getI eX1_addStand_22 fk_X1_39 rfl rfl ?_
  try simp (disch := decide) only [up_k, up_s, up_f]
  refine tr_iconst eX1_addStand_25 (nI 1) ci_1 ?_
  refine tr_iadd eX1_addStand_26 ?_
  refine tr_put eX1_addStand_27 fp_X1_39 rfl rfl ?_
  refine tr_aload_n eX1_addStand_30 rfl ?_
  refine tr_getI eX1_addStand_31 fk_X1_39 rfl rfl ?_
  try simp (disch := decide) only [up_k, up_s, up_f]
  refine tr_iconst eX1_addStand_34 (nI 1) ci_1 ?_
  refine tr_isub eX1_addStand_35 ?_
  refine tr_ret eX1_addStand_36 rfl rfl ?_
  first | with_reducible exact ⟨rfl, rfl⟩ | (refine ⟨congrArg some ?_, rfl⟩; unfold bi; split <;> first | with_reducible rfl | (exfalso; simp_all; done) | (exfalso; simp only [Int32.lt_iff_toInt_lt, Int32.le_iff_toInt_le] at *; omega)) | exact ⟨rfl, rfl⟩

theorem k_X1_addPair {σ : tSt} {a b c d : Int32} (hn : vp_in (σ 17 (nI 10)) 40) : CT mX1_addPair [.ref 17, .int a, .int b, .int c, .int d] σ (PE (some (σ 17 (nI 10) + nI 1)) (up (up (up (up (up σ 3 (σ 17 (nI 10)) a) 4 (σ 17 (nI 10)) b) 5 (σ 17 (nI 10)) c) 6 (σ 17 (nI 10)) d) 17 (nI 10) (σ 17 (nI 10) + nI 1))) := by
  refine CT.of2 0 (by decide) rfl rfl ?_
  refine tr_aload_n eX1_addPair_0 rfl ?_
  refine tr_getR eX1_addPair_1 fk_X1_18 rfl rfl ?_
  refine tr_aload_n eX1_addPair_4 rfl ?_
  refine tr_getI eX1_addPair_5 fk_X1_43 rfl rfl ?_
  refine tr_iload_n eX1_addPair_8 rfl ?_
  refine tr_iast eX1_addPair_9 rfl (by first | with_reducible assumption | with_reducible exact in_slot (by with_reducible assumption) (by with_reducible assumption) | with_reducible exact in_row _ (by decide) (by with_reducible assumption) | with_reducible exact in_row0 (by with_reducible assumption) | with_reducible exact in_slot0 (by with_reducible assumption) | (simp (disch := decide) only [up_k, up_s, up_f] <;> with_reducible assumption)) ?_
  refine tr_aload_n eX1_addPair_10 rfl ?_
  refine tr_getR eX1_addPair_11 fk_X1_21 rfl rfl ?_
  refine tr_aload_n eX1_addPair_14 rfl ?_
  refine tr_getI eX1_addPair_15 fk_X1_43 rfl rfl ?_
  try simp (disch := decide) only [up_k, up_s, up_f]
  refine tr_iload_n eX1_addPair_18 rfl ?_
  refine tr_iast eX1_addPair_19 rfl (by first | with_reducible assumption | with_reducible exact in_slot (by with_reducible assumption) (by with_reducible assumption) | with_reducible exact in_row _ (by decide) (by with_reducible assumption) | with_reducible exact in_row0 (by with_reducible assumption) | with_reducible exact in_slot0 (by with_reducible assumption) | (simp (disch := decide) only [up_k, up_s, up_f] <;> with_reducible assumption)) ?_
  refine tr_aload_n eX1_addPair_20 rfl ?_
  refine tr_getR eX1_addPair_21 fk_X1_24 rfl rfl ?_
  refine tr_aload_n eX1_addPair_24 rfl ?_
  refine tr_getI eX1_addPair_25 fk_X1_43 rfl rfl ?_
  try simp (disch := decide) only [up_k, up_s, up_f]
  refine tr_iload_n eX1_addPair_28 rfl ?_
  refine tr_iast eX1_addPair_29 rfl (by first | with_reducible assumption | with_reducible exact in_slot (by with_reducible assumption) (by with_reducible assumption) | with_reducible exact in_row _ (by decide) (by with_reducible assumption) | with_reducible exact in_row0 (by with_reducible assumption) | with_reducible exact in_slot0 (by with_reducible assumption) | (simp (disch := decide) only [up_k, up_s, up_f] <;> with_reducible assumption)) ?_
  refine tr_aload_n eX1_addPair_30 rfl ?_
  refine tr_getR eX1_addPair_31 fk_X1_27 rfl rfl ?_
  refine tr_aload_n eX1_addPair_34 rfl ?_
  refine tr_getI eX1_addPair_35 fk_X1_43 rfl rfl ?_
  try simp (disch := decide) only [up_k, up_s, up_f]
  refine tr_iload eX1_addPair_38 rfl ?_
  refine tr_iast eX1_addPair_40 rfl (by first | with_reducible assumption | with_reducible exact in_slot (by with_reducible assumption) (by with_reducible assumption) | with_reducible exact in_row _ (by decide) (by with_reducible assumption) | with_reducible exact in_row0 (by with_reducible assumption) | with_reducible exact in_slot0 (by with_reducible assumption) | (simp (disch := decide) only [up_k, up_s, up_f] <;> with_reducible assumption)) ?_
  refine tr_aload_n eX1_addPair_41 rfl ?_
  refine tr_dup eX1_addPair_42 rfl ?_
  refine tr_getI eX1_addPair_43 fk_X1_43 rfl rfl ?_
  try simp (disch := decide) only [up_k, up_s, up_f]
  refine tr_iconst eX1_addPair_46 (nI 1) ci_1 ?_
  refine tr_iadd eX1_addPair_47 ?_
  refine tr_put eX1_addPair_48 fp_X1_43 rfl rfl ?_
  refine tr_aload_n eX1_addPair_51 rfl ?_
  refine tr_getI eX1_addPair_52 fk_X1_43 rfl rfl ?_
  try simp (disch := decide) only [up_k, up_s, up_f]
  refine tr_ret eX1_addPair_55 rfl rfl ?_
  first | with_reducible exact ⟨rfl, rfl⟩ | (refine ⟨congrArg some ?_, rfl⟩; unfold bi; split <;> first | with_reducible rfl | (exfalso; simp_all; done) | (exfalso; simp only [Int32.lt_iff_toInt_lt, Int32.le_iff_toInt_le] at *; omega)) | exact ⟨rfl, rfl⟩

theorem k_X1_addCone {σ : tSt} {a b c : Int32} (hn : vp_in (σ 17 (nI 11)) 20) : CT mX1_addCone [.ref 17, .int a, .int b, .int c] σ (PE (some (σ 17 (nI 11) + nI 1 - nI 1)) (up (up (up (up σ 7 (σ 17 (nI 11)) a) 8 (σ 17 (nI 11)) b) 9 (σ 17 (nI 11)) c) 17 (nI 11) (σ 17 (nI 11) + nI 1))) := by
  refine CT.of2 0 (by decide) rfl rfl ?_
  refine tr_aload_n eX1_addCone_0 rfl ?_
  refine tr_getR eX1_addCone_1 fk_X1_30 rfl rfl ?_
  refine tr_aload_n eX1_addCone_4 rfl ?_
  refine tr_getI eX1_addCone_5 fk_X1_46 rfl rfl ?_
  refine tr_iload_n eX1_addCone_8 rfl ?_
  refine tr_iast eX1_addCone_9 rfl (by first | with_reducible assumption | with_reducible exact in_slot (by with_reducible assumption) (by with_reducible assumption) | with_reducible exact in_row _ (by decide) (by with_reducible assumption) | with_reducible exact in_row0 (by with_reducible assumption) | with_reducible exact in_slot0 (by with_reducible assumption) | (simp (disch := decide) only [up_k, up_s, up_f] <;> with_reducible assumption)) ?_
  refine tr_aload_n eX1_addCone_10 rfl ?_
  refine tr_getR eX1_addCone_11 fk_X1_33 rfl rfl ?_
  refine tr_aload_n eX1_addCone_14 rfl ?_
  refine tr_getI eX1_addCone_15 fk_X1_46 rfl rfl ?_
  try simp (disch := decide) only [up_k, up_s, up_f]
  refine tr_iload_n eX1_addCone_18 rfl ?_
  refine tr_iast eX1_addCone_19 rfl (by first | with_reducible assumption | with_reducible exact in_slot (by with_reducible assumption) (by with_reducible assumption) | with_reducible exact in_row _ (by decide) (by with_reducible assumption) | with_reducible exact in_row0 (by with_reducible assumption) | with_reducible exact in_slot0 (by with_reducible assumption) | (simp (disch := decide) only [up_k, up_s, up_f] <;> with_reducible assumption)) ?_
  refine tr_aload_n eX1_addCone_20 rfl ?_
  refine tr_getR eX1_addCone_21 fk_X1_36 rfl rfl ?_
  refine tr_aload_n eX1_addCone_24 rfl ?_
  refine tr_getI eX1_addCone_25 fk_X1_46 rfl rfl ?_
  try simp (disch := decide) only [up_k, up_s, up_f]
  refine tr_iload_n eX1_addCone_28 rfl ?_
  refine tr_iast eX1_addCone_29 rfl (by first | with_reducible assumption | with_reducible exact in_slot (by with_reducible assumption) (by with_reducible assumption) | with_reducible exact in_row _ (by decide) (by with_reducible assumption) | with_reducible exact in_row0 (by with_reducible assumption) | with_reducible exact in_slot0 (by with_reducible assumption) | (simp (disch := decide) only [up_k, up_s, up_f] <;> with_reducible assumption)) ?_
  refine tr_aload_n eX1_addCone_30 rfl ?_
  refine tr_dup eX1_addCone_31 rfl ?_
  refine tr_getI eX1_addCone_32 fk_X1_46 rfl rfl ?_
  try simp (disch := decide) only [up_k, up_s, up_f]
  refine tr_iconst eX1_addCone_35 (nI 1) ci_1 ?_
  refine tr_iadd eX1_addCone_36 ?_
  refine tr_put eX1_addCone_37 fp_X1_46 rfl rfl ?_
  refine tr_aload_n eX1_addCone_40 rfl ?_
  refine tr_getI eX1_addCone_41 fk_X1_46 rfl rfl ?_
  try simp (disch := decide) only [up_k, up_s, up_f]
  refine tr_iconst eX1_addCone_44 (nI 1) ci_1 ?_
  refine tr_isub eX1_addCone_45 ?_
  refine tr_ret eX1_addCone_46 rfl rfl ?_
  first | with_reducible exact ⟨rfl, rfl⟩ | (refine ⟨congrArg some ?_, rfl⟩; unfold bi; split <;> first | with_reducible rfl | (exfalso; simp_all; done) | (exfalso; simp only [Int32.lt_iff_toInt_lt, Int32.le_iff_toInt_le] at *; omega)) | exact ⟨rfl, rfl⟩

theorem k_X1_hasGate {σ : tSt} {s : Int32} (hs : vp_in s 24) : CT mX1_hasGate [.ref 17, .int s] σ (PE (some (bi (σ 1 s = nI 2 ∨ σ 1 s = nI 3))) σ) := by
  refine CT.of2 0 (by decide) rfl rfl ?_
  refine tr_aload_n eX1_hasGate_0 rfl ?_
  refine tr_getR eX1_hasGate_1 fk_X1_9 rfl rfl ?_
  refine tr_iload_n eX1_hasGate_4 rfl ?_
  refine tr_iald eX1_hasGate_5 rfl (by first | with_reducible assumption | with_reducible exact in_slot (by with_reducible assumption) (by with_reducible assumption) | with_reducible exact in_row _ (by decide) (by with_reducible assumption) | with_reducible exact in_row0 (by with_reducible assumption) | with_reducible exact in_slot0 (by with_reducible assumption) | (simp (disch := decide) only [up_k, up_s, up_f] <;> with_reducible assumption)) ?_
  refine tr_iconst eX1_hasGate_6 (nI 2) ci_2 ?_
  refine tr_icmp_eq eX1_hasGate_7 (fun h7 => ?_) (fun h7 => ?_)
  · skip
    refine tr_iconst eX1_hasGate_20 (nI 1) ci_1 ?_
    refine tr_goto eX1_hasGate_21 ?_
    refine tr_ret eX1_hasGate_25 rfl (by first | rfl | exact nar_bi _) ?_
    first | with_reducible exact ⟨rfl, rfl⟩ | (refine ⟨congrArg some ?_, rfl⟩; unfold bi; split <;> first | with_reducible rfl | (exfalso; simp_all; done) | (exfalso; simp only [Int32.lt_iff_toInt_lt, Int32.le_iff_toInt_le] at *; omega)) | exact ⟨rfl, rfl⟩
  · skip
    refine tr_aload_n eX1_hasGate_10 rfl ?_
    refine tr_getR eX1_hasGate_11 fk_X1_9 rfl rfl ?_
    refine tr_iload_n eX1_hasGate_14 rfl ?_
    refine tr_iald eX1_hasGate_15 rfl (by first | with_reducible assumption | with_reducible exact in_slot (by with_reducible assumption) (by with_reducible assumption) | with_reducible exact in_row _ (by decide) (by with_reducible assumption) | with_reducible exact in_row0 (by with_reducible assumption) | with_reducible exact in_slot0 (by with_reducible assumption) | (simp (disch := decide) only [up_k, up_s, up_f] <;> with_reducible assumption)) ?_
    refine tr_iconst eX1_hasGate_16 (nI 3) ci_3 ?_
    refine tr_icmp_ne eX1_hasGate_17 (fun h17 => ?_) (fun h17 => ?_)
    · skip
      refine tr_iconst eX1_hasGate_24 (nI 0) ci_0 ?_
      refine tr_ret eX1_hasGate_25 rfl (by first | rfl | exact nar_bi _) ?_
      first | with_reducible exact ⟨rfl, rfl⟩ | (refine ⟨congrArg some ?_, rfl⟩; unfold bi; split <;> first | with_reducible rfl | (exfalso; simp_all; done) | (exfalso; simp only [Int32.lt_iff_toInt_lt, Int32.le_iff_toInt_le] at *; omega)) | exact ⟨rfl, rfl⟩
    · skip
      refine tr_iconst eX1_hasGate_20 (nI 1) ci_1 ?_
      refine tr_goto eX1_hasGate_21 ?_
      refine tr_ret eX1_hasGate_25 rfl (by first | rfl | exact nar_bi _) ?_
      first | with_reducible exact ⟨rfl, rfl⟩ | (refine ⟨congrArg some ?_, rfl⟩; unfold bi; split <;> first | with_reducible rfl | (exfalso; simp_all; done) | (exfalso; simp only [Int32.lt_iff_toInt_lt, Int32.le_iff_toInt_le] at *; omega)) | exact ⟨rfl, rfl⟩

theorem k_X1_halfOf {σ : tSt} {s : Int32} (hs : vp_in s 24) : CT mX1_halfOf [.ref 17, .int s] σ (PE (some (σ 2 s / nI 2)) σ) := by
  refine CT.of2 0 (by decide) rfl rfl ?_
  refine tr_aload_n eX1_halfOf_0 rfl ?_
  refine tr_getR eX1_halfOf_1 fk_X1_15 rfl rfl ?_
  refine tr_iload_n eX1_halfOf_4 rfl ?_
  refine tr_iald eX1_halfOf_5 rfl (by first | with_reducible assumption | with_reducible exact in_slot (by with_reducible assumption) (by with_reducible assumption) | with_reducible exact in_row _ (by decide) (by with_reducible assumption) | with_reducible exact in_row0 (by with_reducible assumption) | with_reducible exact in_slot0 (by with_reducible assumption) | (simp (disch := decide) only [up_k, up_s, up_f] <;> with_reducible assumption)) ?_
  refine tr_iconst eX1_halfOf_6 (nI 2) ci_2 ?_
  refine tr_idiv eX1_halfOf_7 (by decide) ?_
  refine tr_ret eX1_halfOf_8 rfl rfl ?_
  first | with_reducible exact ⟨rfl, rfl⟩ | (refine ⟨congrArg some ?_, rfl⟩; unfold bi; split <;> first | with_reducible rfl | (exfalso; simp_all; done) | (exfalso; simp only [Int32.lt_iff_toInt_lt, Int32.le_iff_toInt_le] at *; omega)) | exact ⟨rfl, rfl⟩

def s_kind (σ : tSt) (v : Int32) : Int32 := σ 10 (v * nI 5)
def s_wing (σ : tSt) (v : Int32) : Int32 := σ 10 (v * nI 5 + nI 1)
def s_in (σ : tSt) (v : Int32) : Int32 := σ 10 (v * nI 5 + nI 2)
def s_out (σ : tSt) (v : Int32) : Int32 := if σ 11 v ≤ nI 3 then nI 2880 else σ 10 (v * nI 5 + nI 3)
def s_need (σ : tSt) (v : Int32) : Int32 := if σ 11 v ≤ nI 4 then nI 0 else σ 10 (v * nI 5 + nI 4)
def s_unk (σ : tSt) (v : Int32) : Bool := decide (¬ nI 2 < σ 11 v)
def s_put (σ : tSt) (v : Int32) : Bool := decide (¬ σ 12 v ≤ 0)
def s_beg (σ : tSt) (now v : Int32) : Bool := !s_unk σ v && decide (¬ now < s_in σ v)
def s_come (σ : tSt) (now v : Int32) : Bool := !s_put σ v && !s_unk σ v && !s_beg σ now v
def s_wait (σ : tSt) (now v : Int32) : Bool := !s_put σ v && s_beg σ now v && decide (¬ s_out σ v ≤ now)
/-- is stay k of v at s with a minute of from .. to -/
def s_sa (σ : tSt) (v k s a b : Int32) : Bool := decide (σ 13 (v * nI 8 + k) = s) && decide (σ 14 (v * nI 8 + k) < b) && decide (a < σ 15 (v * nI 8 + k))
theorem k_X5_has {σ : tSt} {v : Int32} : CT mX5_has [.ref 18, .int v] σ (PE (some (bi (¬ v < 0 ∧ ¬ σ 18 (nI 6) ≤ v))) σ) := by
  refine CT.of2 0 (by decide) rfl rfl ?_
  refine tr_iload_n eX5_has_0 rfl ?_
  refine tr_if_lt eX5_has_1 (fun h1 => ?_) (fun h1 => ?_)
  · skip
    refine tr_iconst eX5_has_16 (nI 0) ci_0 ?_
    refine tr_ret eX5_has_17 rfl (by first | rfl | exact nar_bi _) ?_
    first | with_reducible exact ⟨rfl, rfl⟩ | (refine ⟨congrArg some ?_, rfl⟩; unfold bi; split <;> first | with_reducible rfl | (exfalso; simp_all; done) | (exfalso; simp only [Int32.lt_iff_toInt_lt, Int32.le_iff_toInt_le] at *; omega)) | exact ⟨rfl, rfl⟩
  · skip
    refine tr_iload_n eX5_has_4 rfl ?_
    refine tr_aload_n eX5_has_5 rfl ?_
    refine tr_getI eX5_has_6 fk_X5_30 rfl rfl ?_
    refine tr_icmp_ge eX5_has_9 (fun h9 => ?_) (fun h9 => ?_)
    · skip
      refine tr_iconst eX5_has_16 (nI 0) ci_0 ?_
      refine tr_ret eX5_has_17 rfl (by first | rfl | exact nar_bi _) ?_
      first | with_reducible exact ⟨rfl, rfl⟩ | (refine ⟨congrArg some ?_, rfl⟩; unfold bi; split <;> first | with_reducible rfl | (exfalso; simp_all; done) | (exfalso; simp only [Int32.lt_iff_toInt_lt, Int32.le_iff_toInt_le] at *; omega)) | exact ⟨rfl, rfl⟩
    · skip
      refine tr_iconst eX5_has_12 (nI 1) ci_1 ?_
      refine tr_goto eX5_has_13 ?_
      refine tr_ret eX5_has_17 rfl (by first | rfl | exact nar_bi _) ?_
      first | with_reducible exact ⟨rfl, rfl⟩ | (refine ⟨congrArg some ?_, rfl⟩; unfold bi; split <;> first | with_reducible rfl | (exfalso; simp_all; done) | (exfalso; simp only [Int32.lt_iff_toInt_lt, Int32.le_iff_toInt_le] at *; omega)) | exact ⟨rfl, rfl⟩

theorem k_X5_kindOf {σ : tSt} {v : Int32} (hv : vp_in v 40) : CT mX5_kindOf [.ref 18, .int v] σ (PE (some (s_kind σ v)) σ) := by
  refine CT.of2 0 (by decide) rfl rfl ?_
  refine tr_aload_n eX5_kindOf_0 rfl ?_
  refine tr_getR eX5_kindOf_1 fk_X5_9 rfl rfl ?_
  refine tr_iload_n eX5_kindOf_4 rfl ?_
  refine tr_iconst eX5_kindOf_5 (nI 5) ci_5 ?_
  refine tr_imul eX5_kindOf_6 ?_
  refine tr_iconst eX5_kindOf_7 (nI 0) ci_0 ?_
  refine tr_iadd eX5_kindOf_8 ?_
  refine tr_iald eX5_kindOf_9 rfl (by first | with_reducible assumption | with_reducible exact in_slot (by with_reducible assumption) (by with_reducible assumption) | with_reducible exact in_row _ (by decide) (by with_reducible assumption) | with_reducible exact in_row0 (by with_reducible assumption) | with_reducible exact in_slot0 (by with_reducible assumption) | (simp (disch := decide) only [up_k, up_s, up_f] <;> with_reducible assumption)) ?_
  refine tr_ret eX5_kindOf_10 rfl rfl ?_
  first | with_reducible exact ⟨rfl, rfl⟩ | (refine ⟨congrArg some ?_, rfl⟩; unfold bi; split <;> first | with_reducible rfl | (exfalso; simp_all [s_wait, s_come]; done) | (exfalso; simp_all [s_kind, s_wing, s_in, s_out, s_need, s_unk, s_put, s_beg, s_come, s_wait, s_sa, add_n0]; done) | (exfalso; simp_all [s_kind, s_wing, s_in, s_out, s_need, s_unk, s_put, s_beg, s_come, s_wait, s_sa, add_n0]; simp only [Int32.lt_iff_toInt_lt, Int32.le_iff_toInt_le] at *; omega)) | (refine ⟨congrArg some ?_, rfl⟩; (first | unfold s_out | unfold s_need); split <;> first | with_reducible rfl | contradiction) | (exact ⟨by simp [s_kind, s_wing, s_in, s_out, s_need, s_unk, s_put, s_beg, s_come, s_wait, s_sa, add_n0], rfl⟩) | exact ⟨rfl, rfl⟩

theorem k_X5_wingOf {σ : tSt} {v : Int32} (hv : vp_in v 40) : CT mX5_wingOf [.ref 18, .int v] σ (PE (some (s_wing σ v)) σ) := by
  refine CT.of2 0 (by decide) rfl rfl ?_
  refine tr_aload_n eX5_wingOf_0 rfl ?_
  refine tr_getR eX5_wingOf_1 fk_X5_9 rfl rfl ?_
  refine tr_iload_n eX5_wingOf_4 rfl ?_
  refine tr_iconst eX5_wingOf_5 (nI 5) ci_5 ?_
  refine tr_imul eX5_wingOf_6 ?_
  refine tr_iconst eX5_wingOf_7 (nI 1) ci_1 ?_
  refine tr_iadd eX5_wingOf_8 ?_
  refine tr_iald eX5_wingOf_9 rfl (by first | with_reducible assumption | with_reducible exact in_slot (by with_reducible assumption) (by with_reducible assumption) | with_reducible exact in_row _ (by decide) (by with_reducible assumption) | with_reducible exact in_row0 (by with_reducible assumption) | with_reducible exact in_slot0 (by with_reducible assumption) | (simp (disch := decide) only [up_k, up_s, up_f] <;> with_reducible assumption)) ?_
  refine tr_ret eX5_wingOf_10 rfl rfl ?_
  first | with_reducible exact ⟨rfl, rfl⟩ | (refine ⟨congrArg some ?_, rfl⟩; unfold bi; split <;> first | with_reducible rfl | (exfalso; simp_all [s_wait, s_come]; done) | (exfalso; simp_all [s_kind, s_wing, s_in, s_out, s_need, s_unk, s_put, s_beg, s_come, s_wait, s_sa, add_n0]; done) | (exfalso; simp_all [s_kind, s_wing, s_in, s_out, s_need, s_unk, s_put, s_beg, s_come, s_wait, s_sa, add_n0]; simp only [Int32.lt_iff_toInt_lt, Int32.le_iff_toInt_le] at *; omega)) | (refine ⟨congrArg some ?_, rfl⟩; (first | unfold s_out | unfold s_need); split <;> first | with_reducible rfl | contradiction) | (exact ⟨by simp [s_kind, s_wing, s_in, s_out, s_need, s_unk, s_put, s_beg, s_come, s_wait, s_sa, add_n0], rfl⟩) | exact ⟨rfl, rfl⟩

theorem k_X5_inOf {σ : tSt} {v : Int32} (hv : vp_in v 40) : CT mX5_inOf [.ref 18, .int v] σ (PE (some (s_in σ v)) σ) := by
  refine CT.of2 0 (by decide) rfl rfl ?_
  refine tr_aload_n eX5_inOf_0 rfl ?_
  refine tr_getR eX5_inOf_1 fk_X5_9 rfl rfl ?_
  refine tr_iload_n eX5_inOf_4 rfl ?_
  refine tr_iconst eX5_inOf_5 (nI 5) ci_5 ?_
  refine tr_imul eX5_inOf_6 ?_
  refine tr_iconst eX5_inOf_7 (nI 2) ci_2 ?_
  refine tr_iadd eX5_inOf_8 ?_
  refine tr_iald eX5_inOf_9 rfl (by first | with_reducible assumption | with_reducible exact in_slot (by with_reducible assumption) (by with_reducible assumption) | with_reducible exact in_row _ (by decide) (by with_reducible assumption) | with_reducible exact in_row0 (by with_reducible assumption) | with_reducible exact in_slot0 (by with_reducible assumption) | (simp (disch := decide) only [up_k, up_s, up_f] <;> with_reducible assumption)) ?_
  refine tr_ret eX5_inOf_10 rfl rfl ?_
  first | with_reducible exact ⟨rfl, rfl⟩ | (refine ⟨congrArg some ?_, rfl⟩; unfold bi; split <;> first | with_reducible rfl | (exfalso; simp_all [s_wait, s_come]; done) | (exfalso; simp_all [s_kind, s_wing, s_in, s_out, s_need, s_unk, s_put, s_beg, s_come, s_wait, s_sa, add_n0]; done) | (exfalso; simp_all [s_kind, s_wing, s_in, s_out, s_need, s_unk, s_put, s_beg, s_come, s_wait, s_sa, add_n0]; simp only [Int32.lt_iff_toInt_lt, Int32.le_iff_toInt_le] at *; omega)) | (refine ⟨congrArg some ?_, rfl⟩; (first | unfold s_out | unfold s_need); split <;> first | with_reducible rfl | contradiction) | (exact ⟨by simp [s_kind, s_wing, s_in, s_out, s_need, s_unk, s_put, s_beg, s_come, s_wait, s_sa, add_n0], rfl⟩) | exact ⟨rfl, rfl⟩

theorem k_X5_outOf {σ : tSt} {v : Int32} (hv : vp_in v 40) : CT mX5_outOf [.ref 18, .int v] σ (PE (some (s_out σ v)) σ) := by
  refine CT.of2 0 (by decide) rfl rfl ?_
  refine tr_aload_n eX5_outOf_0 rfl ?_
  refine tr_getR eX5_outOf_1 fk_X5_15 rfl rfl ?_
  refine tr_iload_n eX5_outOf_4 rfl ?_
  refine tr_iald eX5_outOf_5 rfl (by first | with_reducible assumption | with_reducible exact in_slot (by with_reducible assumption) (by with_reducible assumption) | with_reducible exact in_row _ (by decide) (by with_reducible assumption) | with_reducible exact in_row0 (by with_reducible assumption) | with_reducible exact in_slot0 (by with_reducible assumption) | (simp (disch := decide) only [up_k, up_s, up_f] <;> with_reducible assumption)) ?_
  refine tr_iconst eX5_outOf_6 (nI 3) ci_3 ?_
  refine tr_icmp_le eX5_outOf_7 (fun h7 => ?_) (fun h7 => ?_)
  · skip
    refine tr_sipush eX5_outOf_23 (nI 2880) (by decide) ?_
    refine tr_ret eX5_outOf_26 rfl rfl ?_
    first | with_reducible exact ⟨rfl, rfl⟩ | (refine ⟨congrArg some ?_, rfl⟩; unfold bi; split <;> first | with_reducible rfl | (exfalso; simp_all [s_wait, s_come]; done) | (exfalso; simp_all [s_kind, s_wing, s_in, s_out, s_need, s_unk, s_put, s_beg, s_come, s_wait, s_sa, add_n0]; done) | (exfalso; simp_all [s_kind, s_wing, s_in, s_out, s_need, s_unk, s_put, s_beg, s_come, s_wait, s_sa, add_n0]; simp only [Int32.lt_iff_toInt_lt, Int32.le_iff_toInt_le] at *; omega)) | (refine ⟨congrArg some ?_, rfl⟩; (first | unfold s_out | unfold s_need); split <;> first | with_reducible rfl | contradiction) | (exact ⟨by simp [s_kind, s_wing, s_in, s_out, s_need, s_unk, s_put, s_beg, s_come, s_wait, s_sa, add_n0], rfl⟩) | exact ⟨rfl, rfl⟩
  · skip
    refine tr_aload_n eX5_outOf_10 rfl ?_
    refine tr_getR eX5_outOf_11 fk_X5_9 rfl rfl ?_
    refine tr_iload_n eX5_outOf_14 rfl ?_
    refine tr_iconst eX5_outOf_15 (nI 5) ci_5 ?_
    refine tr_imul eX5_outOf_16 ?_
    refine tr_iconst eX5_outOf_17 (nI 3) ci_3 ?_
    refine tr_iadd eX5_outOf_18 ?_
    refine tr_iald eX5_outOf_19 rfl (by first | with_reducible assumption | with_reducible exact in_slot (by with_reducible assumption) (by with_reducible assumption) | with_reducible exact in_row _ (by decide) (by with_reducible assumption) | with_reducible exact in_row0 (by with_reducible assumption) | with_reducible exact in_slot0 (by with_reducible assumption) | (simp (disch := decide) only [up_k, up_s, up_f] <;> with_reducible assumption)) ?_
    refine tr_goto eX5_outOf_20 ?_
    refine tr_ret eX5_outOf_26 rfl rfl ?_
    first | with_reducible exact ⟨rfl, rfl⟩ | (refine ⟨congrArg some ?_, rfl⟩; unfold bi; split <;> first | with_reducible rfl | (exfalso; simp_all [s_wait, s_come]; done) | (exfalso; simp_all [s_kind, s_wing, s_in, s_out, s_need, s_unk, s_put, s_beg, s_come, s_wait, s_sa, add_n0]; done) | (exfalso; simp_all [s_kind, s_wing, s_in, s_out, s_need, s_unk, s_put, s_beg, s_come, s_wait, s_sa, add_n0]; simp only [Int32.lt_iff_toInt_lt, Int32.le_iff_toInt_le] at *; omega)) | (refine ⟨congrArg some ?_, rfl⟩; (first | unfold s_out | unfold s_need); split <;> first | with_reducible rfl | contradiction) | (exact ⟨by simp [s_kind, s_wing, s_in, s_out, s_need, s_unk, s_put, s_beg, s_come, s_wait, s_sa, add_n0], rfl⟩) | exact ⟨rfl, rfl⟩

theorem k_X5_needOf {σ : tSt} {v : Int32} (hv : vp_in v 40) : CT mX5_needOf [.ref 18, .int v] σ (PE (some (s_need σ v)) σ) := by
  refine CT.of2 0 (by decide) rfl rfl ?_
  refine tr_aload_n eX5_needOf_0 rfl ?_
  refine tr_getR eX5_needOf_1 fk_X5_15 rfl rfl ?_
  refine tr_iload_n eX5_needOf_4 rfl ?_
  refine tr_iald eX5_needOf_5 rfl (by first | with_reducible assumption | with_reducible exact in_slot (by with_reducible assumption) (by with_reducible assumption) | with_reducible exact in_row _ (by decide) (by with_reducible assumption) | with_reducible exact in_row0 (by with_reducible assumption) | with_reducible exact in_slot0 (by with_reducible assumption) | (simp (disch := decide) only [up_k, up_s, up_f] <;> with_reducible assumption)) ?_
  refine tr_iconst eX5_needOf_6 (nI 4) ci_4 ?_
  refine tr_icmp_le eX5_needOf_7 (fun h7 => ?_) (fun h7 => ?_)
  · skip
    refine tr_iconst eX5_needOf_23 (nI 0) ci_0 ?_
    refine tr_ret eX5_needOf_24 rfl rfl ?_
    first | with_reducible exact ⟨rfl, rfl⟩ | (refine ⟨congrArg some ?_, rfl⟩; unfold bi; split <;> first | with_reducible rfl | (exfalso; simp_all [s_wait, s_come]; done) | (exfalso; simp_all [s_kind, s_wing, s_in, s_out, s_need, s_unk, s_put, s_beg, s_come, s_wait, s_sa, add_n0]; done) | (exfalso; simp_all [s_kind, s_wing, s_in, s_out, s_need, s_unk, s_put, s_beg, s_come, s_wait, s_sa, add_n0]; simp only [Int32.lt_iff_toInt_lt, Int32.le_iff_toInt_le] at *; omega)) | (refine ⟨congrArg some ?_, rfl⟩; (first | unfold s_out | unfold s_need); split <;> first | with_reducible rfl | contradiction) | (exact ⟨by simp [s_kind, s_wing, s_in, s_out, s_need, s_unk, s_put, s_beg, s_come, s_wait, s_sa, add_n0], rfl⟩) | exact ⟨rfl, rfl⟩
  · skip
    refine tr_aload_n eX5_needOf_10 rfl ?_
    refine tr_getR eX5_needOf_11 fk_X5_9 rfl rfl ?_
    refine tr_iload_n eX5_needOf_14 rfl ?_
    refine tr_iconst eX5_needOf_15 (nI 5) ci_5 ?_
    refine tr_imul eX5_needOf_16 ?_
    refine tr_iconst eX5_needOf_17 (nI 4) ci_4 ?_
    refine tr_iadd eX5_needOf_18 ?_
    refine tr_iald eX5_needOf_19 rfl (by first | with_reducible assumption | with_reducible exact in_slot (by with_reducible assumption) (by with_reducible assumption) | with_reducible exact in_row _ (by decide) (by with_reducible assumption) | with_reducible exact in_row0 (by with_reducible assumption) | with_reducible exact in_slot0 (by with_reducible assumption) | (simp (disch := decide) only [up_k, up_s, up_f] <;> with_reducible assumption)) ?_
    refine tr_goto eX5_needOf_20 ?_
    refine tr_ret eX5_needOf_24 rfl rfl ?_
    first | with_reducible exact ⟨rfl, rfl⟩ | (refine ⟨congrArg some ?_, rfl⟩; unfold bi; split <;> first | with_reducible rfl | (exfalso; simp_all [s_wait, s_come]; done) | (exfalso; simp_all [s_kind, s_wing, s_in, s_out, s_need, s_unk, s_put, s_beg, s_come, s_wait, s_sa, add_n0]; done) | (exfalso; simp_all [s_kind, s_wing, s_in, s_out, s_need, s_unk, s_put, s_beg, s_come, s_wait, s_sa, add_n0]; simp only [Int32.lt_iff_toInt_lt, Int32.le_iff_toInt_le] at *; omega)) | (refine ⟨congrArg some ?_, rfl⟩; (first | unfold s_out | unfold s_need); split <;> first | with_reducible rfl | contradiction) | (exact ⟨by simp [s_kind, s_wing, s_in, s_out, s_need, s_unk, s_put, s_beg, s_come, s_wait, s_sa, add_n0], rfl⟩) | exact ⟨rfl, rfl⟩

theorem k_X5_isUnknown {σ : tSt} {v : Int32} (hv : vp_in v 40) : CT mX5_isUnknown [.ref 18, .int v] σ (PE (some (bi (s_unk σ v = true))) σ) := by
  refine CT.of2 0 (by decide) rfl rfl ?_
  refine tr_aload_n eX5_isUnknown_0 rfl ?_
  refine tr_getR eX5_isUnknown_1 fk_X5_15 rfl rfl ?_
  refine tr_iload_n eX5_isUnknown_4 rfl ?_
  refine tr_iald eX5_isUnknown_5 rfl (by first | with_reducible assumption | with_reducible exact in_slot (by with_reducible assumption) (by with_reducible assumption) | with_reducible exact in_row _ (by decide) (by with_reducible assumption) | with_reducible exact in_row0 (by with_reducible assumption) | with_reducible exact in_slot0 (by with_reducible assumption) | (simp (disch := decide) only [up_k, up_s, up_f] <;> with_reducible assumption)) ?_
  refine tr_iconst eX5_isUnknown_6 (nI 2) ci_2 ?_
  refine tr_icmp_gt eX5_isUnknown_7 (fun h7 => ?_) (fun h7 => ?_)
  · skip
    refine tr_iconst eX5_isUnknown_14 (nI 0) ci_0 ?_
    refine tr_ret eX5_isUnknown_15 rfl (by first | rfl | exact nar_bi _) ?_
    first | with_reducible exact ⟨rfl, rfl⟩ | (refine ⟨congrArg some ?_, rfl⟩; unfold bi; split <;> first | with_reducible rfl | (exfalso; simp_all [s_wait, s_come]; done) | (exfalso; simp_all [s_kind, s_wing, s_in, s_out, s_need, s_unk, s_put, s_beg, s_come, s_wait, s_sa, add_n0]; done) | (exfalso; simp_all [s_kind, s_wing, s_in, s_out, s_need, s_unk, s_put, s_beg, s_come, s_wait, s_sa, add_n0]; simp only [Int32.lt_iff_toInt_lt, Int32.le_iff_toInt_le] at *; omega)) | (refine ⟨congrArg some ?_, rfl⟩; (first | unfold s_out | unfold s_need); split <;> first | with_reducible rfl | contradiction) | (exact ⟨by simp [s_kind, s_wing, s_in, s_out, s_need, s_unk, s_put, s_beg, s_come, s_wait, s_sa, add_n0], rfl⟩) | exact ⟨rfl, rfl⟩
  · skip
    refine tr_iconst eX5_isUnknown_10 (nI 1) ci_1 ?_
    refine tr_goto eX5_isUnknown_11 ?_
    refine tr_ret eX5_isUnknown_15 rfl (by first | rfl | exact nar_bi _) ?_
    first | with_reducible exact ⟨rfl, rfl⟩ | (refine ⟨congrArg some ?_, rfl⟩; unfold bi; split <;> first | with_reducible rfl | (exfalso; simp_all [s_wait, s_come]; done) | (exfalso; simp_all [s_kind, s_wing, s_in, s_out, s_need, s_unk, s_put, s_beg, s_come, s_wait, s_sa, add_n0]; done) | (exfalso; simp_all [s_kind, s_wing, s_in, s_out, s_need, s_unk, s_put, s_beg, s_come, s_wait, s_sa, add_n0]; simp only [Int32.lt_iff_toInt_lt, Int32.le_iff_toInt_le] at *; omega)) | (refine ⟨congrArg some ?_, rfl⟩; (first | unfold s_out | unfold s_need); split <;> first | with_reducible rfl | contradiction) | (exact ⟨by simp [s_kind, s_wing, s_in, s_out, s_need, s_unk, s_put, s_beg, s_come, s_wait, s_sa, add_n0], rfl⟩) | exact ⟨rfl, rfl⟩

theorem k_X5_isPut {σ : tSt} {v : Int32} (hv : vp_in v 40) : CT mX5_isPut [.ref 18, .int v] σ (PE (some (bi (s_put σ v = true))) σ) := by
  refine CT.of2 0 (by decide) rfl rfl ?_
  refine tr_aload_n eX5_isPut_0 rfl ?_
  refine tr_getR eX5_isPut_1 fk_X5_18 rfl rfl ?_
  refine tr_iload_n eX5_isPut_4 rfl ?_
  refine tr_iald eX5_isPut_5 rfl (by first | with_reducible assumption | with_reducible exact in_slot (by with_reducible assumption) (by with_reducible assumption) | with_reducible exact in_row _ (by decide) (by with_reducible assumption) | with_reducible exact in_row0 (by with_reducible assumption) | with_reducible exact in_slot0 (by with_reducible assumption) | (simp (disch := decide) only [up_k, up_s, up_f] <;> with_reducible assumption)) ?_
  refine tr_if_le eX5_isPut_6 (fun h6 => ?_) (fun h6 => ?_)
  · skip
    refine tr_iconst eX5_isPut_13 (nI 0) ci_0 ?_
    refine tr_ret eX5_isPut_14 rfl (by first | rfl | exact nar_bi _) ?_
    first | with_reducible exact ⟨rfl, rfl⟩ | (refine ⟨congrArg some ?_, rfl⟩; unfold bi; split <;> first | with_reducible rfl | (exfalso; simp_all [s_wait, s_come]; done) | (exfalso; simp_all [s_kind, s_wing, s_in, s_out, s_need, s_unk, s_put, s_beg, s_come, s_wait, s_sa, add_n0]; done) | (exfalso; simp_all [s_kind, s_wing, s_in, s_out, s_need, s_unk, s_put, s_beg, s_come, s_wait, s_sa, add_n0]; simp only [Int32.lt_iff_toInt_lt, Int32.le_iff_toInt_le] at *; omega)) | (refine ⟨congrArg some ?_, rfl⟩; (first | unfold s_out | unfold s_need); split <;> first | with_reducible rfl | contradiction) | (exact ⟨by simp [s_kind, s_wing, s_in, s_out, s_need, s_unk, s_put, s_beg, s_come, s_wait, s_sa, add_n0], rfl⟩) | exact ⟨rfl, rfl⟩
  · skip
    refine tr_iconst eX5_isPut_9 (nI 1) ci_1 ?_
    refine tr_goto eX5_isPut_10 ?_
    refine tr_ret eX5_isPut_14 rfl (by first | rfl | exact nar_bi _) ?_
    first | with_reducible exact ⟨rfl, rfl⟩ | (refine ⟨congrArg some ?_, rfl⟩; unfold bi; split <;> first | with_reducible rfl | (exfalso; simp_all [s_wait, s_come]; done) | (exfalso; simp_all [s_kind, s_wing, s_in, s_out, s_need, s_unk, s_put, s_beg, s_come, s_wait, s_sa, add_n0]; done) | (exfalso; simp_all [s_kind, s_wing, s_in, s_out, s_need, s_unk, s_put, s_beg, s_come, s_wait, s_sa, add_n0]; simp only [Int32.lt_iff_toInt_lt, Int32.le_iff_toInt_le] at *; omega)) | (refine ⟨congrArg some ?_, rfl⟩; (first | unfold s_out | unfold s_need); split <;> first | with_reducible rfl | contradiction) | (exact ⟨by simp [s_kind, s_wing, s_in, s_out, s_need, s_unk, s_put, s_beg, s_come, s_wait, s_sa, add_n0], rfl⟩) | exact ⟨rfl, rfl⟩

theorem k_X5_hasBegun {σ : tSt} {v : Int32} (hv : vp_in v 40) : CT mX5_hasBegun [.ref 18, .int v] σ (PE (some (bi (s_beg σ (σ 18 (nI 7)) v = true))) σ) := by
  refine CT.of2 0 (by decide) rfl rfl ?_
  refine tr_aload_n eX5_hasBegun_0 rfl ?_
  refine tr_iload_n eX5_hasBegun_1 rfl ?_
  refine tr_ce1 eX5_hasBegun_2 zv_X5_isUnknown zi_X5_isUnknown lk_X5_34 ⟨rfl, by decide, by decide⟩ rfl rfl rfl (k_X5_isUnknown (by first | with_reducible assumption | with_reducible exact in_slot (by with_reducible assumption) (by with_reducible assumption) | with_reducible exact in_row _ (by decide) (by with_reducible assumption) | with_reducible exact in_row0 (by with_reducible assumption) | with_reducible exact in_slot0 (by with_reducible assumption) | (simp (disch := decide) only [up_k, up_s, up_f] <;> with_reducible assumption))) ?_
  refine tr_if_ne eX5_hasBegun_5 (fun h5 => ?_) (fun h5 => ?_)
  · skip
    try first | replace h5 := bi_0 h5 | replace h5 := bi_n h5
    refine tr_iconst eX5_hasBegun_24 (nI 0) ci_0 ?_
    refine tr_ret eX5_hasBegun_25 rfl (by first | rfl | exact nar_bi _) ?_
    first | with_reducible exact ⟨rfl, rfl⟩ | (refine ⟨congrArg some ?_, rfl⟩; unfold bi; split <;> first | with_reducible rfl | (exfalso; simp_all [s_wait, s_come]; done) | (exfalso; simp_all [s_kind, s_wing, s_in, s_out, s_need, s_unk, s_put, s_beg, s_come, s_wait, s_sa, add_n0]; done) | (exfalso; simp_all [s_kind, s_wing, s_in, s_out, s_need, s_unk, s_put, s_beg, s_come, s_wait, s_sa, add_n0]; simp only [Int32.lt_iff_toInt_lt, Int32.le_iff_toInt_le] at *; omega)) | (refine ⟨congrArg some ?_, rfl⟩; (first | unfold s_out | unfold s_need); split <;> first | with_reducible rfl | contradiction) | (exact ⟨by simp [s_kind, s_wing, s_in, s_out, s_need, s_unk, s_put, s_beg, s_come, s_wait, s_sa, add_n0], rfl⟩) | exact ⟨rfl, rfl⟩
  · skip
    try first | replace h5 := bi_0 h5 | replace h5 := bi_n h5
    refine tr_aload_n eX5_hasBegun_8 rfl ?_
    refine tr_iload_n eX5_hasBegun_9 rfl ?_
    refine tr_ce1 eX5_hasBegun_10 zv_X5_inOf zi_X5_inOf lk_X5_38 ⟨rfl, by decide, by decide⟩ rfl rfl rfl (k_X5_inOf (by first | with_reducible assumption | with_reducible exact in_slot (by with_reducible assumption) (by with_reducible assumption) | with_reducible exact in_row _ (by decide) (by with_reducible assumption) | with_reducible exact in_row0 (by with_reducible assumption) | with_reducible exact in_slot0 (by with_reducible assumption) | (simp (disch := decide) only [up_k, up_s, up_f] <;> with_reducible assumption))) ?_
    refine tr_aload_n eX5_hasBegun_13 rfl ?_
    refine tr_getI eX5_hasBegun_14 fk_X5_42 rfl rfl ?_
    refine tr_icmp_gt eX5_hasBegun_17 (fun h17 => ?_) (fun h17 => ?_)
    · skip
      refine tr_iconst eX5_hasBegun_24 (nI 0) ci_0 ?_
      refine tr_ret eX5_hasBegun_25 rfl (by first | rfl | exact nar_bi _) ?_
      first | with_reducible exact ⟨rfl, rfl⟩ | (refine ⟨congrArg some ?_, rfl⟩; unfold bi; split <;> first | with_reducible rfl | (exfalso; simp_all [s_wait, s_come]; done) | (exfalso; simp_all [s_kind, s_wing, s_in, s_out, s_need, s_unk, s_put, s_beg, s_come, s_wait, s_sa, add_n0]; done) | (exfalso; simp_all [s_kind, s_wing, s_in, s_out, s_need, s_unk, s_put, s_beg, s_come, s_wait, s_sa, add_n0]; simp only [Int32.lt_iff_toInt_lt, Int32.le_iff_toInt_le] at *; omega)) | (refine ⟨congrArg some ?_, rfl⟩; (first | unfold s_out | unfold s_need); split <;> first | with_reducible rfl | contradiction) | (exact ⟨by simp [s_kind, s_wing, s_in, s_out, s_need, s_unk, s_put, s_beg, s_come, s_wait, s_sa, add_n0], rfl⟩) | exact ⟨rfl, rfl⟩
    · skip
      refine tr_iconst eX5_hasBegun_20 (nI 1) ci_1 ?_
      refine tr_goto eX5_hasBegun_21 ?_
      refine tr_ret eX5_hasBegun_25 rfl (by first | rfl | exact nar_bi _) ?_
      first | with_reducible exact ⟨rfl, rfl⟩ | (refine ⟨congrArg some ?_, rfl⟩; unfold bi; split <;> first | with_reducible rfl | (exfalso; simp_all [s_wait, s_come]; done) | (exfalso; simp_all [s_kind, s_wing, s_in, s_out, s_need, s_unk, s_put, s_beg, s_come, s_wait, s_sa, add_n0]; done) | (exfalso; simp_all [s_kind, s_wing, s_in, s_out, s_need, s_unk, s_put, s_beg, s_come, s_wait, s_sa, add_n0]; simp only [Int32.lt_iff_toInt_lt, Int32.le_iff_toInt_le] at *; omega)) | (refine ⟨congrArg some ?_, rfl⟩; (first | unfold s_out | unfold s_need); split <;> first | with_reducible rfl | contradiction) | (exact ⟨by simp [s_kind, s_wing, s_in, s_out, s_need, s_unk, s_put, s_beg, s_come, s_wait, s_sa, add_n0], rfl⟩) | exact ⟨rfl, rfl⟩

theorem k_X5_isToCome {σ : tSt} {v : Int32} (hv : vp_in v 40) : CT mX5_isToCome [.ref 18, .int v] σ (PE (some (bi (s_come σ (σ 18 (nI 7)) v = true))) σ) := by
  refine CT.of2 0 (by decide) rfl rfl ?_
  refine tr_aload_n eX5_isToCome_0 rfl ?_
  refine tr_iload_n eX5_isToCome_1 rfl ?_
  refine tr_ce1 eX5_isToCome_2 zv_X5_isPut zi_X5_isPut lk_X5_45 ⟨rfl, by decide, by decide⟩ rfl rfl rfl (k_X5_isPut (by first | with_reducible assumption | with_reducible exact in_slot (by with_reducible assumption) (by with_reducible assumption) | with_reducible exact in_row _ (by decide) (by with_reducible assumption) | with_reducible exact in_row0 (by with_reducible assumption) | with_reducible exact in_slot0 (by with_reducible assumption) | (simp (disch := decide) only [up_k, up_s, up_f] <;> with_reducible assumption))) ?_
  refine tr_if_ne eX5_isToCome_5 (fun h5 => ?_) (fun h5 => ?_)
  · skip
    try first | replace h5 := bi_0 h5 | replace h5 := bi_n h5
    refine tr_iconst eX5_isToCome_28 (nI 0) ci_0 ?_
    refine tr_ret eX5_isToCome_29 rfl (by first | rfl | exact nar_bi _) ?_
    first | with_reducible exact ⟨rfl, rfl⟩ | (refine ⟨congrArg some ?_, rfl⟩; unfold bi; split <;> first | with_reducible rfl | (exfalso; simp_all [s_wait, s_come]; done) | (exfalso; simp_all [s_kind, s_wing, s_in, s_out, s_need, s_unk, s_put, s_beg, s_come, s_wait, s_sa, add_n0]; done) | (exfalso; simp_all [s_kind, s_wing, s_in, s_out, s_need, s_unk, s_put, s_beg, s_come, s_wait, s_sa, add_n0]; simp only [Int32.lt_iff_toInt_lt, Int32.le_iff_toInt_le] at *; omega)) | (refine ⟨congrArg some ?_, rfl⟩; (first | unfold s_out | unfold s_need); split <;> first | with_reducible rfl | contradiction) | (exact ⟨by simp [s_kind, s_wing, s_in, s_out, s_need, s_unk, s_put, s_beg, s_come, s_wait, s_sa, add_n0], rfl⟩) | exact ⟨rfl, rfl⟩
  · skip
    try first | replace h5 := bi_0 h5 | replace h5 := bi_n h5
    refine tr_aload_n eX5_isToCome_8 rfl ?_
    refine tr_iload_n eX5_isToCome_9 rfl ?_
    refine tr_ce1 eX5_isToCome_10 zv_X5_isUnknown zi_X5_isUnknown lk_X5_34 ⟨rfl, by decide, by decide⟩ rfl rfl rfl (k_X5_isUnknown (by first | with_reducible assumption | with_reducible exact in_slot (by with_reducible assumption) (by with_reducible assumption) | with_reducible exact in_row _ (by decide) (by with_reducible assumption) | with_reducible exact in_row0 (by with_reducible assumption) | with_reducible exact in_slot0 (by with_reducible assumption) | (simp (disch := decide) only [up_k, up_s, up_f] <;> with_reducible assumption))) ?_
    refine tr_if_ne eX5_isToCome_13 (fun h13 => ?_) (fun h13 => ?_)
    · skip
      try first | replace h13 := bi_0 h13 | replace h13 := bi_n h13
      refine tr_iconst eX5_isToCome_28 (nI 0) ci_0 ?_
      refine tr_ret eX5_isToCome_29 rfl (by first | rfl | exact nar_bi _) ?_
      first | with_reducible exact ⟨rfl, rfl⟩ | (refine ⟨congrArg some ?_, rfl⟩; unfold bi; split <;> first | with_reducible rfl | (exfalso; simp_all [s_wait, s_come]; done) | (exfalso; simp_all [s_kind, s_wing, s_in, s_out, s_need, s_unk, s_put, s_beg, s_come, s_wait, s_sa, add_n0]; done) | (exfalso; simp_all [s_kind, s_wing, s_in, s_out, s_need, s_unk, s_put, s_beg, s_come, s_wait, s_sa, add_n0]; simp only [Int32.lt_iff_toInt_lt, Int32.le_iff_toInt_le] at *; omega)) | (refine ⟨congrArg some ?_, rfl⟩; (first | unfold s_out | unfold s_need); split <;> first | with_reducible rfl | contradiction) | (exact ⟨by simp [s_kind, s_wing, s_in, s_out, s_need, s_unk, s_put, s_beg, s_come, s_wait, s_sa, add_n0], rfl⟩) | exact ⟨rfl, rfl⟩
    · skip
      try first | replace h13 := bi_0 h13 | replace h13 := bi_n h13
      refine tr_aload_n eX5_isToCome_16 rfl ?_
      refine tr_iload_n eX5_isToCome_17 rfl ?_
      refine tr_ce1 eX5_isToCome_18 zv_X5_hasBegun zi_X5_hasBegun lk_X5_48 ⟨rfl, by decide, by decide⟩ rfl rfl rfl (k_X5_hasBegun (by first | with_reducible assumption | with_reducible exact in_slot (by with_reducible assumption) (by with_reducible assumption) | with_reducible exact in_row _ (by decide) (by with_reducible assumption) | with_reducible exact in_row0 (by with_reducible assumption) | with_reducible exact in_slot0 (by with_reducible assumption) | (simp (disch := decide) only [up_k, up_s, up_f] <;> with_reducible assumption))) ?_
      refine tr_if_ne eX5_isToCome_21 (fun h21 => ?_) (fun h21 => ?_)
      · skip
        try first | replace h21 := bi_0 h21 | replace h21 := bi_n h21
        refine tr_iconst eX5_isToCome_28 (nI 0) ci_0 ?_
        refine tr_ret eX5_isToCome_29 rfl (by first | rfl | exact nar_bi _) ?_
        first | with_reducible exact ⟨rfl, rfl⟩ | (refine ⟨congrArg some ?_, rfl⟩; unfold bi; split <;> first | with_reducible rfl | (exfalso; simp_all [s_wait, s_come]; done) | (exfalso; simp_all [s_kind, s_wing, s_in, s_out, s_need, s_unk, s_put, s_beg, s_come, s_wait, s_sa, add_n0]; done) | (exfalso; simp_all [s_kind, s_wing, s_in, s_out, s_need, s_unk, s_put, s_beg, s_come, s_wait, s_sa, add_n0]; simp only [Int32.lt_iff_toInt_lt, Int32.le_iff_toInt_le] at *; omega)) | (refine ⟨congrArg some ?_, rfl⟩; (first | unfold s_out | unfold s_need); split <;> first | with_reducible rfl | contradiction) | (exact ⟨by simp [s_kind, s_wing, s_in, s_out, s_need, s_unk, s_put, s_beg, s_come, s_wait, s_sa, add_n0], rfl⟩) | exact ⟨rfl, rfl⟩
      · skip
        try first | replace h21 := bi_0 h21 | replace h21 := bi_n h21
        refine tr_iconst eX5_isToCome_24 (nI 1) ci_1 ?_
        refine tr_goto eX5_isToCome_25 ?_
        refine tr_ret eX5_isToCome_29 rfl (by first | rfl | exact nar_bi _) ?_
        first | with_reducible exact ⟨rfl, rfl⟩ | (refine ⟨congrArg some ?_, rfl⟩; unfold bi; split <;> first | with_reducible rfl | (exfalso; simp_all [s_wait, s_come]; done) | (exfalso; simp_all [s_kind, s_wing, s_in, s_out, s_need, s_unk, s_put, s_beg, s_come, s_wait, s_sa, add_n0]; done) | (exfalso; simp_all [s_kind, s_wing, s_in, s_out, s_need, s_unk, s_put, s_beg, s_come, s_wait, s_sa, add_n0]; simp only [Int32.lt_iff_toInt_lt, Int32.le_iff_toInt_le] at *; omega)) | (refine ⟨congrArg some ?_, rfl⟩; (first | unfold s_out | unfold s_need); split <;> first | with_reducible rfl | contradiction) | (exact ⟨by simp [s_kind, s_wing, s_in, s_out, s_need, s_unk, s_put, s_beg, s_come, s_wait, s_sa, add_n0], rfl⟩) | exact ⟨rfl, rfl⟩

theorem k_X5_isWaiting {σ : tSt} {v : Int32} (hv : vp_in v 40) : CT mX5_isWaiting [.ref 18, .int v] σ (PE (some (bi (s_wait σ (σ 18 (nI 7)) v = true))) σ) := by
  refine CT.of2 0 (by decide) rfl rfl ?_
  refine tr_aload_n eX5_isWaiting_0 rfl ?_
  refine tr_iload_n eX5_isWaiting_1 rfl ?_
  refine tr_ce1 eX5_isWaiting_2 zv_X5_isPut zi_X5_isPut lk_X5_45 ⟨rfl, by decide, by decide⟩ rfl rfl rfl (k_X5_isPut (by first | with_reducible assumption | with_reducible exact in_slot (by with_reducible assumption) (by with_reducible assumption) | with_reducible exact in_row _ (by decide) (by with_reducible assumption) | with_reducible exact in_row0 (by with_reducible assumption) | with_reducible exact in_slot0 (by with_reducible assumption) | (simp (disch := decide) only [up_k, up_s, up_f] <;> with_reducible assumption))) ?_
  refine tr_if_ne eX5_isWaiting_5 (fun h5 => ?_) (fun h5 => ?_)
  · skip
    try first | replace h5 := bi_0 h5 | replace h5 := bi_n h5
    refine tr_iconst eX5_isWaiting_32 (nI 0) ci_0 ?_
    refine tr_ret eX5_isWaiting_33 rfl (by first | rfl | exact nar_bi _) ?_
    first | with_reducible exact ⟨rfl, rfl⟩ | (refine ⟨congrArg some ?_, rfl⟩; unfold bi; split <;> first | with_reducible rfl | (exfalso; simp_all [s_wait, s_come]; done) | (exfalso; simp_all [s_kind, s_wing, s_in, s_out, s_need, s_unk, s_put, s_beg, s_come, s_wait, s_sa, add_n0]; done) | (exfalso; simp_all [s_kind, s_wing, s_in, s_out, s_need, s_unk, s_put, s_beg, s_come, s_wait, s_sa, add_n0]; simp only [Int32.lt_iff_toInt_lt, Int32.le_iff_toInt_le] at *; omega)) | (refine ⟨congrArg some ?_, rfl⟩; (first | unfold s_out | unfold s_need); split <;> first | with_reducible rfl | contradiction) | (exact ⟨by simp [s_kind, s_wing, s_in, s_out, s_need, s_unk, s_put, s_beg, s_come, s_wait, s_sa, add_n0], rfl⟩) | exact ⟨rfl, rfl⟩
  · skip
    try first | replace h5 := bi_0 h5 | replace h5 := bi_n h5
    refine tr_aload_n eX5_isWaiting_8 rfl ?_
    refine tr_iload_n eX5_isWaiting_9 rfl ?_
    refine tr_ce1 eX5_isWaiting_10 zv_X5_hasBegun zi_X5_hasBegun lk_X5_48 ⟨rfl, by decide, by decide⟩ rfl rfl rfl (k_X5_hasBegun (by first | with_reducible assumption | with_reducible exact in_slot (by with_reducible assumption) (by with_reducible assumption) | with_reducible exact in_row _ (by decide) (by with_reducible assumption) | with_reducible exact in_row0 (by with_reducible assumption) | with_reducible exact in_slot0 (by with_reducible assumption) | (simp (disch := decide) only [up_k, up_s, up_f] <;> with_reducible assumption))) ?_
    refine tr_if_eq eX5_isWaiting_13 (fun h13 => ?_) (fun h13 => ?_)
    · skip
      try first | replace h13 := bi_0 h13 | replace h13 := bi_n h13
      refine tr_iconst eX5_isWaiting_32 (nI 0) ci_0 ?_
      refine tr_ret eX5_isWaiting_33 rfl (by first | rfl | exact nar_bi _) ?_
      first | with_reducible exact ⟨rfl, rfl⟩ | (refine ⟨congrArg some ?_, rfl⟩; unfold bi; split <;> first | with_reducible rfl | (exfalso; simp_all [s_wait, s_come]; done) | (exfalso; simp_all [s_kind, s_wing, s_in, s_out, s_need, s_unk, s_put, s_beg, s_come, s_wait, s_sa, add_n0]; done) | (exfalso; simp_all [s_kind, s_wing, s_in, s_out, s_need, s_unk, s_put, s_beg, s_come, s_wait, s_sa, add_n0]; simp only [Int32.lt_iff_toInt_lt, Int32.le_iff_toInt_le] at *; omega)) | (refine ⟨congrArg some ?_, rfl⟩; (first | unfold s_out | unfold s_need); split <;> first | with_reducible rfl | contradiction) | (exact ⟨by simp [s_kind, s_wing, s_in, s_out, s_need, s_unk, s_put, s_beg, s_come, s_wait, s_sa, add_n0], rfl⟩) | exact ⟨rfl, rfl⟩
    · skip
      try first | replace h13 := bi_0 h13 | replace h13 := bi_n h13
      refine tr_aload_n eX5_isWaiting_16 rfl ?_
      refine tr_iload_n eX5_isWaiting_17 rfl ?_
      refine tr_ce1 eX5_isWaiting_18 zv_X5_outOf zi_X5_outOf lk_X5_51 ⟨rfl, by decide, by decide⟩ rfl rfl rfl (k_X5_outOf (by first | with_reducible assumption | with_reducible exact in_slot (by with_reducible assumption) (by with_reducible assumption) | with_reducible exact in_row _ (by decide) (by with_reducible assumption) | with_reducible exact in_row0 (by with_reducible assumption) | with_reducible exact in_slot0 (by with_reducible assumption) | (simp (disch := decide) only [up_k, up_s, up_f] <;> with_reducible assumption))) ?_
      refine tr_aload_n eX5_isWaiting_21 rfl ?_
      refine tr_getI eX5_isWaiting_22 fk_X5_42 rfl rfl ?_
      refine tr_icmp_le eX5_isWaiting_25 (fun h25 => ?_) (fun h25 => ?_)
      · skip
        refine tr_iconst eX5_isWaiting_32 (nI 0) ci_0 ?_
        refine tr_ret eX5_isWaiting_33 rfl (by first | rfl | exact nar_bi _) ?_
        first | with_reducible exact ⟨rfl, rfl⟩ | (refine ⟨congrArg some ?_, rfl⟩; unfold bi; split <;> first | with_reducible rfl | (exfalso; simp_all [s_wait, s_come]; done) | (exfalso; simp_all [s_kind, s_wing, s_in, s_out, s_need, s_unk, s_put, s_beg, s_come, s_wait, s_sa, add_n0]; done) | (exfalso; simp_all [s_kind, s_wing, s_in, s_out, s_need, s_unk, s_put, s_beg, s_come, s_wait, s_sa, add_n0]; simp only [Int32.lt_iff_toInt_lt, Int32.le_iff_toInt_le] at *; omega)) | (refine ⟨congrArg some ?_, rfl⟩; (first | unfold s_out | unfold s_need); split <;> first | with_reducible rfl | contradiction) | (exact ⟨by simp [s_kind, s_wing, s_in, s_out, s_need, s_unk, s_put, s_beg, s_come, s_wait, s_sa, add_n0], rfl⟩) | exact ⟨rfl, rfl⟩
      · skip
        refine tr_iconst eX5_isWaiting_28 (nI 1) ci_1 ?_
        refine tr_goto eX5_isWaiting_29 ?_
        refine tr_ret eX5_isWaiting_33 rfl (by first | rfl | exact nar_bi _) ?_
        first | with_reducible exact ⟨rfl, rfl⟩ | (refine ⟨congrArg some ?_, rfl⟩; unfold bi; split <;> first | with_reducible rfl | (exfalso; simp_all [s_wait, s_come]; done) | (exfalso; simp_all [s_kind, s_wing, s_in, s_out, s_need, s_unk, s_put, s_beg, s_come, s_wait, s_sa, add_n0]; done) | (exfalso; simp_all [s_kind, s_wing, s_in, s_out, s_need, s_unk, s_put, s_beg, s_come, s_wait, s_sa, add_n0]; simp only [Int32.lt_iff_toInt_lt, Int32.le_iff_toInt_le] at *; omega)) | (refine ⟨congrArg some ?_, rfl⟩; (first | unfold s_out | unfold s_need); split <;> first | with_reducible rfl | contradiction) | (exact ⟨by simp [s_kind, s_wing, s_in, s_out, s_need, s_unk, s_put, s_beg, s_come, s_wait, s_sa, add_n0], rfl⟩) | exact ⟨rfl, rfl⟩

theorem k_X5_standOf {σ : tSt} {v k : Int32} (hv : vp_in v 40) (hk : vp_in k 8) : CT mX5_standOf [.ref 18, .int v, .int k] σ (PE (some (σ 13 (v * nI 8 + k))) σ) := by
  refine CT.of2 0 (by decide) rfl rfl ?_
  refine tr_aload_n eX5_standOf_0 rfl ?_
  refine tr_getR eX5_standOf_1 fk_X5_21 rfl rfl ?_
  refine tr_iload_n eX5_standOf_4 rfl ?_
  refine tr_bipush eX5_standOf_5 (nI 8) (by decide) ?_
  refine tr_imul eX5_standOf_7 ?_
  refine tr_iload_n eX5_standOf_8 rfl ?_
  refine tr_iadd eX5_standOf_9 ?_
  refine tr_iald eX5_standOf_10 rfl (by first | with_reducible assumption | with_reducible exact in_slot (by with_reducible assumption) (by with_reducible assumption) | with_reducible exact in_row _ (by decide) (by with_reducible assumption) | with_reducible exact in_row0 (by with_reducible assumption) | with_reducible exact in_slot0 (by with_reducible assumption) | (simp (disch := decide) only [up_k, up_s, up_f] <;> with_reducible assumption)) ?_
  refine tr_ret eX5_standOf_11 rfl rfl ?_
  first | with_reducible exact ⟨rfl, rfl⟩ | (refine ⟨congrArg some ?_, rfl⟩; unfold bi; split <;> first | with_reducible rfl | (exfalso; simp_all; done) | (exfalso; simp only [Int32.lt_iff_toInt_lt, Int32.le_iff_toInt_le] at *; omega)) | exact ⟨rfl, rfl⟩

theorem k_X5_fromOf {σ : tSt} {v k : Int32} (hv : vp_in v 40) (hk : vp_in k 8) : CT mX5_fromOf [.ref 18, .int v, .int k] σ (PE (some (σ 14 (v * nI 8 + k))) σ) := by
  refine CT.of2 0 (by decide) rfl rfl ?_
  refine tr_aload_n eX5_fromOf_0 rfl ?_
  refine tr_getR eX5_fromOf_1 fk_X5_24 rfl rfl ?_
  refine tr_iload_n eX5_fromOf_4 rfl ?_
  refine tr_bipush eX5_fromOf_5 (nI 8) (by decide) ?_
  refine tr_imul eX5_fromOf_7 ?_
  refine tr_iload_n eX5_fromOf_8 rfl ?_
  refine tr_iadd eX5_fromOf_9 ?_
  refine tr_iald eX5_fromOf_10 rfl (by first | with_reducible assumption | with_reducible exact in_slot (by with_reducible assumption) (by with_reducible assumption) | with_reducible exact in_row _ (by decide) (by with_reducible assumption) | with_reducible exact in_row0 (by with_reducible assumption) | with_reducible exact in_slot0 (by with_reducible assumption) | (simp (disch := decide) only [up_k, up_s, up_f] <;> with_reducible assumption)) ?_
  refine tr_ret eX5_fromOf_11 rfl rfl ?_
  first | with_reducible exact ⟨rfl, rfl⟩ | (refine ⟨congrArg some ?_, rfl⟩; unfold bi; split <;> first | with_reducible rfl | (exfalso; simp_all; done) | (exfalso; simp only [Int32.lt_iff_toInt_lt, Int32.le_iff_toInt_le] at *; omega)) | exact ⟨rfl, rfl⟩

theorem k_X5_endOf {σ : tSt} {v k : Int32} (hv : vp_in v 40) (hk : vp_in k 8) : CT mX5_endOf [.ref 18, .int v, .int k] σ (PE (some (σ 15 (v * nI 8 + k))) σ) := by
  refine CT.of2 0 (by decide) rfl rfl ?_
  refine tr_aload_n eX5_endOf_0 rfl ?_
  refine tr_getR eX5_endOf_1 fk_X5_27 rfl rfl ?_
  refine tr_iload_n eX5_endOf_4 rfl ?_
  refine tr_bipush eX5_endOf_5 (nI 8) (by decide) ?_
  refine tr_imul eX5_endOf_7 ?_
  refine tr_iload_n eX5_endOf_8 rfl ?_
  refine tr_iadd eX5_endOf_9 ?_
  refine tr_iald eX5_endOf_10 rfl (by first | with_reducible assumption | with_reducible exact in_slot (by with_reducible assumption) (by with_reducible assumption) | with_reducible exact in_row _ (by decide) (by with_reducible assumption) | with_reducible exact in_row0 (by with_reducible assumption) | with_reducible exact in_slot0 (by with_reducible assumption) | (simp (disch := decide) only [up_k, up_s, up_f] <;> with_reducible assumption)) ?_
  refine tr_ret eX5_endOf_11 rfl rfl ?_
  first | with_reducible exact ⟨rfl, rfl⟩ | (refine ⟨congrArg some ?_, rfl⟩; unfold bi; split <;> first | with_reducible rfl | (exfalso; simp_all; done) | (exfalso; simp only [Int32.lt_iff_toInt_lt, Int32.le_iff_toInt_le] at *; omega)) | exact ⟨rfl, rfl⟩

theorem k_X5_isStayAt {σ : tSt} {v k s a b : Int32} (hv : vp_in v 40) (hk : vp_in k 8) : CT mX5_isStayAt [.ref 18, .int v, .int k, .int s, .int a, .int b] σ (PE (some (bi (s_sa σ v k s a b = true))) σ) := by
  refine CT.of2 1 (by decide) rfl rfl ?_
  refine tr_iload_n eX5_isStayAt_0 rfl ?_
  refine tr_bipush eX5_isStayAt_1 (nI 8) (by decide) ?_
  refine tr_imul eX5_isStayAt_3 ?_
  refine tr_iload_n eX5_isStayAt_4 rfl ?_
  refine tr_iadd eX5_isStayAt_5 ?_
  refine tr_istore eX5_isStayAt_6 (by decide) rfl ?_
  refine tr_aload_n eX5_isStayAt_8 rfl ?_
  refine tr_getR eX5_isStayAt_9 fk_X5_21 rfl rfl ?_
  refine tr_iload eX5_isStayAt_12 rfl ?_
  refine tr_iald eX5_isStayAt_14 rfl (by first | with_reducible assumption | with_reducible exact in_slot (by with_reducible assumption) (by with_reducible assumption) | with_reducible exact in_row _ (by decide) (by with_reducible assumption) | with_reducible exact in_row0 (by with_reducible assumption) | with_reducible exact in_slot0 (by with_reducible assumption) | (simp (disch := decide) only [up_k, up_s, up_f] <;> with_reducible assumption)) ?_
  refine tr_iload_n eX5_isStayAt_15 rfl ?_
  refine tr_icmp_ne eX5_isStayAt_16 (fun h16 => ?_) (fun h16 => ?_)
  · skip
    refine tr_iconst eX5_isStayAt_47 (nI 0) ci_0 ?_
    refine tr_ret eX5_isStayAt_48 rfl (by first | rfl | exact nar_bi _) ?_
    first | with_reducible exact ⟨rfl, rfl⟩ | (refine ⟨congrArg some ?_, rfl⟩; unfold bi; split <;> first | with_reducible rfl | (exfalso; simp_all [s_wait, s_come]; done) | (exfalso; simp_all [s_kind, s_wing, s_in, s_out, s_need, s_unk, s_put, s_beg, s_come, s_wait, s_sa, add_n0]; done) | (exfalso; simp_all [s_kind, s_wing, s_in, s_out, s_need, s_unk, s_put, s_beg, s_come, s_wait, s_sa, add_n0]; simp only [Int32.lt_iff_toInt_lt, Int32.le_iff_toInt_le] at *; omega)) | (refine ⟨congrArg some ?_, rfl⟩; (first | unfold s_out | unfold s_need); split <;> first | with_reducible rfl | contradiction) | (exact ⟨by simp [s_kind, s_wing, s_in, s_out, s_need, s_unk, s_put, s_beg, s_come, s_wait, s_sa, add_n0], rfl⟩) | exact ⟨rfl, rfl⟩
  · skip
    refine tr_aload_n eX5_isStayAt_19 rfl ?_
    refine tr_getR eX5_isStayAt_20 fk_X5_24 rfl rfl ?_
    refine tr_iload eX5_isStayAt_23 rfl ?_
    refine tr_iald eX5_isStayAt_25 rfl (by first | with_reducible assumption | with_reducible exact in_slot (by with_reducible assumption) (by with_reducible assumption) | with_reducible exact in_row _ (by decide) (by with_reducible assumption) | with_reducible exact in_row0 (by with_reducible assumption) | with_reducible exact in_slot0 (by with_reducible assumption) | (simp (disch := decide) only [up_k, up_s, up_f] <;> with_reducible assumption)) ?_
    refine tr_iload eX5_isStayAt_26 rfl ?_
    refine tr_icmp_ge eX5_isStayAt_28 (fun h28 => ?_) (fun h28 => ?_)
    · skip
      refine tr_iconst eX5_isStayAt_47 (nI 0) ci_0 ?_
      refine tr_ret eX5_isStayAt_48 rfl (by first | rfl | exact nar_bi _) ?_
      first | with_reducible exact ⟨rfl, rfl⟩ | (refine ⟨congrArg some ?_, rfl⟩; unfold bi; split <;> first | with_reducible rfl | (exfalso; simp_all [s_wait, s_come]; done) | (exfalso; simp_all [s_kind, s_wing, s_in, s_out, s_need, s_unk, s_put, s_beg, s_come, s_wait, s_sa, add_n0]; done) | (exfalso; simp_all [s_kind, s_wing, s_in, s_out, s_need, s_unk, s_put, s_beg, s_come, s_wait, s_sa, add_n0]; simp only [Int32.lt_iff_toInt_lt, Int32.le_iff_toInt_le] at *; omega)) | (refine ⟨congrArg some ?_, rfl⟩; (first | unfold s_out | unfold s_need); split <;> first | with_reducible rfl | contradiction) | (exact ⟨by simp [s_kind, s_wing, s_in, s_out, s_need, s_unk, s_put, s_beg, s_come, s_wait, s_sa, add_n0], rfl⟩) | exact ⟨rfl, rfl⟩
    · skip
      refine tr_iload eX5_isStayAt_31 rfl ?_
      refine tr_aload_n eX5_isStayAt_33 rfl ?_
      refine tr_getR eX5_isStayAt_34 fk_X5_27 rfl rfl ?_
      refine tr_iload eX5_isStayAt_37 rfl ?_
      refine tr_iald eX5_isStayAt_39 rfl (by first | with_reducible assumption | with_reducible exact in_slot (by with_reducible assumption) (by with_reducible assumption) | with_reducible exact in_row _ (by decide) (by with_reducible assumption) | with_reducible exact in_row0 (by with_reducible assumption) | with_reducible exact in_slot0 (by with_reducible assumption) | (simp (disch := decide) only [up_k, up_s, up_f] <;> with_reducible assumption)) ?_
      refine tr_icmp_ge eX5_isStayAt_40 (fun h40 => ?_) (fun h40 => ?_)
      · skip
        refine tr_iconst eX5_isStayAt_47 (nI 0) ci_0 ?_
        refine tr_ret eX5_isStayAt_48 rfl (by first | rfl | exact nar_bi _) ?_
        first | with_reducible exact ⟨rfl, rfl⟩ | (refine ⟨congrArg some ?_, rfl⟩; unfold bi; split <;> first | with_reducible rfl | (exfalso; simp_all [s_wait, s_come]; done) | (exfalso; simp_all [s_kind, s_wing, s_in, s_out, s_need, s_unk, s_put, s_beg, s_come, s_wait, s_sa, add_n0]; done) | (exfalso; simp_all [s_kind, s_wing, s_in, s_out, s_need, s_unk, s_put, s_beg, s_come, s_wait, s_sa, add_n0]; simp only [Int32.lt_iff_toInt_lt, Int32.le_iff_toInt_le] at *; omega)) | (refine ⟨congrArg some ?_, rfl⟩; (first | unfold s_out | unfold s_need); split <;> first | with_reducible rfl | contradiction) | (exact ⟨by simp [s_kind, s_wing, s_in, s_out, s_need, s_unk, s_put, s_beg, s_come, s_wait, s_sa, add_n0], rfl⟩) | exact ⟨rfl, rfl⟩
      · skip
        refine tr_iconst eX5_isStayAt_43 (nI 1) ci_1 ?_
        refine tr_goto eX5_isStayAt_44 ?_
        refine tr_ret eX5_isStayAt_48 rfl (by first | rfl | exact nar_bi _) ?_
        first | with_reducible exact ⟨rfl, rfl⟩ | (refine ⟨congrArg some ?_, rfl⟩; unfold bi; split <;> first | with_reducible rfl | (exfalso; simp_all [s_wait, s_come]; done) | (exfalso; simp_all [s_kind, s_wing, s_in, s_out, s_need, s_unk, s_put, s_beg, s_come, s_wait, s_sa, add_n0]; done) | (exfalso; simp_all [s_kind, s_wing, s_in, s_out, s_need, s_unk, s_put, s_beg, s_come, s_wait, s_sa, add_n0]; simp only [Int32.lt_iff_toInt_lt, Int32.le_iff_toInt_le] at *; omega)) | (refine ⟨congrArg some ?_, rfl⟩; (first | unfold s_out | unfold s_need); split <;> first | with_reducible rfl | contradiction) | (exact ⟨by simp [s_kind, s_wing, s_in, s_out, s_need, s_unk, s_put, s_beg, s_come, s_wait, s_sa, add_n0], rfl⟩) | exact ⟨rfl, rfl⟩

theorem k_X5_add {σ : tSt} {a b c d e : Int32} (hn : vp_in (σ 18 (nI 6)) 40) : CT mX5_add [.ref 18, .int a, .int b, .int c, .int d, .int e] σ (PE (some (σ 18 (nI 6) + nI 1 - nI 1)) (up (up (up (up (up (up (up σ 10 (σ 18 (nI 6) * nI 5 + nI 0) a) 10 (σ 18 (nI 6) * nI 5 + nI 1) b) 10 (σ 18 (nI 6) * nI 5 + nI 2) c) 10 (σ 18 (nI 6) * nI 5 + nI 3) d) 10 (σ 18 (nI 6) * nI 5 + nI 4) e) 11 (σ 18 (nI 6)) (nI 5)) 18 (nI 6) (σ 18 (nI 6) + nI 1))) := by
  refine CT.of2 1 (by decide) rfl rfl ?_
  refine tr_aload_n eX5_add_0 rfl ?_
  refine tr_getI eX5_add_1 fk_X5_30 rfl rfl ?_
  refine tr_iconst eX5_add_4 (nI 5) ci_5 ?_
  refine tr_imul eX5_add_5 ?_
  refine tr_istore eX5_add_6 (by decide) rfl ?_
  refine tr_aload_n eX5_add_8 rfl ?_
  refine tr_getR eX5_add_9 fk_X5_9 rfl rfl ?_
  refine tr_iload eX5_add_12 rfl ?_
  refine tr_iconst eX5_add_14 (nI 0) ci_0 ?_
  refine tr_iadd eX5_add_15 ?_
  refine tr_iload_n eX5_add_16 rfl ?_
  refine tr_iast eX5_add_17 rfl (by first | with_reducible assumption | with_reducible exact in_slot (by with_reducible assumption) (by with_reducible assumption) | with_reducible exact in_row _ (by decide) (by with_reducible assumption) | with_reducible exact in_row0 (by with_reducible assumption) | with_reducible exact in_slot0 (by with_reducible assumption) | (simp (disch := decide) only [up_k, up_s, up_f] <;> with_reducible assumption)) ?_
  refine tr_aload_n eX5_add_18 rfl ?_
  refine tr_getR eX5_add_19 fk_X5_9 rfl rfl ?_
  refine tr_iload eX5_add_22 rfl ?_
  refine tr_iconst eX5_add_24 (nI 1) ci_1 ?_
  refine tr_iadd eX5_add_25 ?_
  refine tr_iload_n eX5_add_26 rfl ?_
  refine tr_iast eX5_add_27 rfl (by first | with_reducible assumption | with_reducible exact in_slot (by with_reducible assumption) (by with_reducible assumption) | with_reducible exact in_row _ (by decide) (by with_reducible assumption) | with_reducible exact in_row0 (by with_reducible assumption) | with_reducible exact in_slot0 (by with_reducible assumption) | (simp (disch := decide) only [up_k, up_s, up_f] <;> with_reducible assumption)) ?_
  refine tr_aload_n eX5_add_28 rfl ?_
  refine tr_getR eX5_add_29 fk_X5_9 rfl rfl ?_
  refine tr_iload eX5_add_32 rfl ?_
  refine tr_iconst eX5_add_34 (nI 2) ci_2 ?_
  refine tr_iadd eX5_add_35 ?_
  refine tr_iload_n eX5_add_36 rfl ?_
  refine tr_iast eX5_add_37 rfl (by first | with_reducible assumption | with_reducible exact in_slot (by with_reducible assumption) (by with_reducible assumption) | with_reducible exact in_row _ (by decide) (by with_reducible assumption) | with_reducible exact in_row0 (by with_reducible assumption) | with_reducible exact in_slot0 (by with_reducible assumption) | (simp (disch := decide) only [up_k, up_s, up_f] <;> with_reducible assumption)) ?_
  refine tr_aload_n eX5_add_38 rfl ?_
  refine tr_getR eX5_add_39 fk_X5_9 rfl rfl ?_
  refine tr_iload eX5_add_42 rfl ?_
  refine tr_iconst eX5_add_44 (nI 3) ci_3 ?_
  refine tr_iadd eX5_add_45 ?_
  refine tr_iload eX5_add_46 rfl ?_
  refine tr_iast eX5_add_48 rfl (by first | with_reducible assumption | with_reducible exact in_slot (by with_reducible assumption) (by with_reducible assumption) | with_reducible exact in_row _ (by decide) (by with_reducible assumption) | with_reducible exact in_row0 (by with_reducible assumption) | with_reducible exact in_slot0 (by with_reducible assumption) | (simp (disch := decide) only [up_k, up_s, up_f] <;> with_reducible assumption)) ?_
  refine tr_aload_n eX5_add_49 rfl ?_
  refine tr_getR eX5_add_50 fk_X5_9 rfl rfl ?_
  refine tr_iload eX5_add_53 rfl ?_
  refine tr_iconst eX5_add_55 (nI 4) ci_4 ?_
  refine tr_iadd eX5_add_56 ?_
  refine tr_iload eX5_add_57 rfl ?_
  refine tr_iast eX5_add_59 rfl (by first | with_reducible assumption | with_reducible exact in_slot (by with_reducible assumption) (by with_reducible assumption) | with_reducible exact in_row _ (by decide) (by with_reducible assumption) | with_reducible exact in_row0 (by with_reducible assumption) | with_reducible exact in_slot0 (by with_reducible assumption) | (simp (disch := decide) only [up_k, up_s, up_f] <;> with_reducible assumption)) ?_
  refine tr_aload_n eX5_add_60 rfl ?_
  refine tr_getR eX5_add_61 fk_X5_15 rfl rfl ?_
  refine tr_aload_n eX5_add_64 rfl ?_
  refine tr_getI eX5_add_65 fk_X5_30 rfl rfl ?_
  try simp (disch := decide) only [up_k, up_s, up_f]
  refine tr_iconst eX5_add_68 (nI 5) ci_5 ?_
  refine tr_iast eX5_add_69 rfl (by first | with_reducible assumption | with_reducible exact in_slot (by with_reducible assumption) (by with_reducible assumption) | with_reducible exact in_row _ (by decide) (by with_reducible assumption) | with_reducible exact in_row0 (by with_reducible assumption) | with_reducible exact in_slot0 (by with_reducible assumption) | (simp (disch := decide) only [up_k, up_s, up_f] <;> with_reducible assumption)) ?_
  refine tr_aload_n eX5_add_70 rfl ?_
  refine tr_dup eX5_add_71 rfl ?_
  refine tr_getI eX5_add_72 fk_X5_30 rfl rfl ?_
  try simp (disch := decide) only [up_k, up_s, up_f]
  refine tr_iconst eX5_add_75 (nI 1) ci_1 ?_
  refine tr_iadd eX5_add_76 ?_
  refine tr_put eX5_add_77 fp_X5_30 rfl rfl ?_
  refine tr_aload_n eX5_add_80 rfl ?_
  refine tr_getI eX5_add_81 fk_X5_30 rfl rfl ?_
  try simp (disch := decide) only [up_k, up_s, up_f]
  refine tr_iconst eX5_add_84 (nI 1) ci_1 ?_
  refine tr_isub eX5_add_85 ?_
  refine tr_ret eX5_add_86 rfl rfl ?_
  first | with_reducible exact ⟨rfl, rfl⟩ | (refine ⟨congrArg some ?_, rfl⟩; unfold bi; split <;> first | with_reducible rfl | (exfalso; simp_all; done) | (exfalso; simp only [Int32.lt_iff_toInt_lt, Int32.le_iff_toInt_le] at *; omega)) | exact ⟨rfl, rfl⟩

theorem k_X5_takeOff {σ : tSt} {v : Int32} (hv : vp_in v 40) : CT mX5_takeOff [.ref 18, .int v] σ (PE none (up σ 12 v (nI 0))) := by
  refine CT.of2 0 (by decide) rfl rfl ?_
  refine tr_aload_n eX5_takeOff_0 rfl ?_
  refine tr_getR eX5_takeOff_1 fk_X5_18 rfl rfl ?_
  refine tr_iload_n eX5_takeOff_4 rfl ?_
  refine tr_iconst eX5_takeOff_5 (nI 0) ci_0 ?_
  refine tr_iast eX5_takeOff_6 rfl (by first | with_reducible assumption | with_reducible exact in_slot (by with_reducible assumption) (by with_reducible assumption) | with_reducible exact in_row _ (by decide) (by with_reducible assumption) | with_reducible exact in_row0 (by with_reducible assumption) | with_reducible exact in_slot0 (by with_reducible assumption) | (simp (disch := decide) only [up_k, up_s, up_f] <;> with_reducible assumption)) ?_
  refine tr_vret eX5_takeOff_7 rfl ?_
  first | with_reducible exact ⟨rfl, rfl⟩ | (refine ⟨congrArg some ?_, rfl⟩; unfold bi; split <;> first | with_reducible rfl | (exfalso; simp_all; done) | (exfalso; simp only [Int32.lt_iff_toInt_lt, Int32.le_iff_toInt_le] at *; omega)) | exact ⟨rfl, rfl⟩

theorem k_X5_moveFirstStay {σ : tSt} {v s : Int32} (hv : vp_in (v * nI 8) 320) : CT mX5_moveFirstStay [.ref 18, .int v, .int s] σ (PE none (up σ 13 (v * nI 8) s)) := by
  refine CT.of2 0 (by decide) rfl rfl ?_
  refine tr_aload_n eX5_moveFirstStay_0 rfl ?_
  refine tr_getR eX5_moveFirstStay_1 fk_X5_21 rfl rfl ?_
  refine tr_iload_n eX5_moveFirstStay_4 rfl ?_
  refine tr_bipush eX5_moveFirstStay_5 (nI 8) (by decide) ?_
  refine tr_imul eX5_moveFirstStay_7 ?_
  refine tr_iload_n eX5_moveFirstStay_8 rfl ?_
  refine tr_iast eX5_moveFirstStay_9 rfl (by first | with_reducible assumption | with_reducible exact in_slot (by with_reducible assumption) (by with_reducible assumption) | with_reducible exact in_row _ (by decide) (by with_reducible assumption) | with_reducible exact in_row0 (by with_reducible assumption) | with_reducible exact in_slot0 (by with_reducible assumption) | (simp (disch := decide) only [up_k, up_s, up_f] <;> with_reducible assumption)) ?_
  refine tr_vret eX5_moveFirstStay_10 rfl ?_
  first | with_reducible exact ⟨rfl, rfl⟩ | (refine ⟨congrArg some ?_, rfl⟩; unfold bi; split <;> first | with_reducible rfl | (exfalso; simp_all; done) | (exfalso; simp only [Int32.lt_iff_toInt_lt, Int32.le_iff_toInt_le] at *; omega)) | exact ⟨rfl, rfl⟩

theorem k_X5_endLastStay {σ : tSt} {v t : Int32} (hv : vp_in v 40) (hk : vp_in (v * nI 8 + σ 12 v - nI 1) 320) : CT mX5_endLastStay [.ref 18, .int v, .int t] σ (PE none (up σ 15 (v * nI 8 + σ 12 v - nI 1) t)) := by
  refine CT.of2 0 (by decide) rfl rfl ?_
  refine tr_aload_n eX5_endLastStay_0 rfl ?_
  refine tr_getR eX5_endLastStay_1 fk_X5_27 rfl rfl ?_
  refine tr_iload_n eX5_endLastStay_4 rfl ?_
  refine tr_bipush eX5_endLastStay_5 (nI 8) (by decide) ?_
  refine tr_imul eX5_endLastStay_7 ?_
  refine tr_aload_n eX5_endLastStay_8 rfl ?_
  refine tr_getR eX5_endLastStay_9 fk_X5_18 rfl rfl ?_
  refine tr_iload_n eX5_endLastStay_12 rfl ?_
  refine tr_iald eX5_endLastStay_13 rfl (by first | with_reducible assumption | with_reducible exact in_slot (by with_reducible assumption) (by with_reducible assumption) | with_reducible exact in_row _ (by decide) (by with_reducible assumption) | with_reducible exact in_row0 (by with_reducible assumption) | with_reducible exact in_slot0 (by with_reducible assumption) | (simp (disch := decide) only [up_k, up_s, up_f] <;> with_reducible assumption)) ?_
  refine tr_iadd eX5_endLastStay_14 ?_
  refine tr_iconst eX5_endLastStay_15 (nI 1) ci_1 ?_
  refine tr_isub eX5_endLastStay_16 ?_
  refine tr_iload_n eX5_endLastStay_17 rfl ?_
  refine tr_iast eX5_endLastStay_18 rfl (by first | with_reducible assumption | with_reducible exact in_slot (by with_reducible assumption) (by with_reducible assumption) | with_reducible exact in_row _ (by decide) (by with_reducible assumption) | with_reducible exact in_row0 (by with_reducible assumption) | with_reducible exact in_slot0 (by with_reducible assumption) | (simp (disch := decide) only [up_k, up_s, up_f] <;> with_reducible assumption)) ?_
  refine tr_vret eX5_endLastStay_19 rfl ?_
  first | with_reducible exact ⟨rfl, rfl⟩ | (refine ⟨congrArg some ?_, rfl⟩; unfold bi; split <;> first | with_reducible rfl | (exfalso; simp_all; done) | (exfalso; simp only [Int32.lt_iff_toInt_lt, Int32.le_iff_toInt_le] at *; omega)) | exact ⟨rfl, rfl⟩

theorem k_X5_makeLate {σ : tSt} {v t : Int32} (hv : vp_in v 40) (hk : vp_in (v * nI 8 + σ 12 v - nI 1) 320) : CT mX5_makeLate [.ref 18, .int v, .int t] σ (PE none (up (up σ 10 (v * nI 5 + nI 3) t) 15 (v * nI 8 + σ 12 v - nI 1) t)) := by
  refine CT.of2 0 (by decide) rfl rfl ?_
  refine tr_aload_n eX5_makeLate_0 rfl ?_
  refine tr_getR eX5_makeLate_1 fk_X5_9 rfl rfl ?_
  refine tr_iload_n eX5_makeLate_4 rfl ?_
  refine tr_iconst eX5_makeLate_5 (nI 5) ci_5 ?_
  refine tr_imul eX5_makeLate_6 ?_
  refine tr_iconst eX5_makeLate_7 (nI 3) ci_3 ?_
  refine tr_iadd eX5_makeLate_8 ?_
  refine tr_iload_n eX5_makeLate_9 rfl ?_
  refine tr_iast eX5_makeLate_10 rfl (by first | with_reducible assumption | with_reducible exact in_slot (by with_reducible assumption) (by with_reducible assumption) | with_reducible exact in_row _ (by decide) (by with_reducible assumption) | with_reducible exact in_row0 (by with_reducible assumption) | with_reducible exact in_slot0 (by with_reducible assumption) | (simp (disch := decide) only [up_k, up_s, up_f] <;> with_reducible assumption)) ?_
  refine tr_aload_n eX5_makeLate_11 rfl ?_
  refine tr_iload_n eX5_makeLate_12 rfl ?_
  refine tr_iload_n eX5_makeLate_13 rfl ?_
  refine tr_ce2 eX5_makeLate_14 zv_X5_endLastStay zi_X5_endLastStay lk_X5_62 ⟨rfl, by decide, by decide⟩ rfl rfl rfl (k_X5_endLastStay (by first | with_reducible assumption | with_reducible exact in_slot (by with_reducible assumption) (by with_reducible assumption) | with_reducible exact in_row _ (by decide) (by with_reducible assumption) | with_reducible exact in_row0 (by with_reducible assumption) | with_reducible exact in_slot0 (by with_reducible assumption) | (simp (disch := decide) only [up_k, up_s, up_f] <;> with_reducible assumption)) (by first | with_reducible assumption | with_reducible exact in_slot (by with_reducible assumption) (by with_reducible assumption) | with_reducible exact in_row _ (by decide) (by with_reducible assumption) | with_reducible exact in_row0 (by with_reducible assumption) | with_reducible exact in_slot0 (by with_reducible assumption) | (simp (disch := decide) only [up_k, up_s, up_f] <;> with_reducible assumption))) ?_
  try simp (disch := decide) only [up_k, up_s, up_f]
  refine tr_vret eX5_makeLate_17 rfl ?_
  first | with_reducible exact ⟨rfl, rfl⟩ | (refine ⟨congrArg some ?_, rfl⟩; unfold bi; split <;> first | with_reducible rfl | (exfalso; simp_all; done) | (exfalso; simp only [Int32.lt_iff_toInt_lt, Int32.le_iff_toInt_le] at *; omega)) | exact ⟨rfl, rfl⟩

theorem k_X5_addStay {σ : tSt} {v s a : Int32} (hv : vp_in v 40) (hk : vp_in (σ 12 v) 8) : CT mX5_addStay [.ref 18, .int v, .int s, .int a] σ (PE none (up (up (up (up σ 13 (v * nI 8 + σ 12 v) s) 14 (v * nI 8 + σ 12 v) a) 15 (v * nI 8 + σ 12 v) (s_out σ v)) 12 v (σ 12 v + nI 1))) := by
  refine CT.of2 1 (by decide) rfl rfl ?_
  refine tr_iload_n eX5_addStay_0 rfl ?_
  refine tr_bipush eX5_addStay_1 (nI 8) (by decide) ?_
  refine tr_imul eX5_addStay_3 ?_
  refine tr_aload_n eX5_addStay_4 rfl ?_
  refine tr_getR eX5_addStay_5 fk_X5_18 rfl rfl ?_
  refine tr_iload_n eX5_addStay_8 rfl ?_
  refine tr_iald eX5_addStay_9 rfl (by first | with_reducible assumption | with_reducible exact in_slot (by with_reducible assumption) (by with_reducible assumption) | with_reducible exact in_row _ (by decide) (by with_reducible assumption) | with_reducible exact in_row0 (by with_reducible assumption) | with_reducible exact in_slot0 (by with_reducible assumption) | (simp (disch := decide) only [up_k, up_s, up_f] <;> with_reducible assumption)) ?_
  refine tr_iadd eX5_addStay_10 ?_
  refine tr_istore eX5_addStay_11 (by decide) rfl ?_
  refine tr_aload_n eX5_addStay_13 rfl ?_
  refine tr_getR eX5_addStay_14 fk_X5_21 rfl rfl ?_
  refine tr_iload eX5_addStay_17 rfl ?_
  refine tr_iload_n eX5_addStay_19 rfl ?_
  refine tr_iast eX5_addStay_20 rfl (by first | with_reducible assumption | with_reducible exact in_slot (by with_reducible assumption) (by with_reducible assumption) | with_reducible exact in_row _ (by decide) (by with_reducible assumption) | with_reducible exact in_row0 (by with_reducible assumption) | with_reducible exact in_slot0 (by with_reducible assumption) | (simp (disch := decide) only [up_k, up_s, up_f] <;> with_reducible assumption)) ?_
  refine tr_aload_n eX5_addStay_21 rfl ?_
  refine tr_getR eX5_addStay_22 fk_X5_24 rfl rfl ?_
  refine tr_iload eX5_addStay_25 rfl ?_
  refine tr_iload_n eX5_addStay_27 rfl ?_
  refine tr_iast eX5_addStay_28 rfl (by first | with_reducible assumption | with_reducible exact in_slot (by with_reducible assumption) (by with_reducible assumption) | with_reducible exact in_row _ (by decide) (by with_reducible assumption) | with_reducible exact in_row0 (by with_reducible assumption) | with_reducible exact in_slot0 (by with_reducible assumption) | (simp (disch := decide) only [up_k, up_s, up_f] <;> with_reducible assumption)) ?_
  refine tr_aload_n eX5_addStay_29 rfl ?_
  refine tr_getR eX5_addStay_30 fk_X5_27 rfl rfl ?_
  refine tr_iload eX5_addStay_33 rfl ?_
  refine tr_aload_n eX5_addStay_35 rfl ?_
  refine tr_iload_n eX5_addStay_36 rfl ?_
  refine tr_ce1 eX5_addStay_37 zv_X5_outOf zi_X5_outOf lk_X5_51 ⟨rfl, by decide, by decide⟩ rfl rfl rfl (k_X5_outOf (by first | with_reducible assumption | with_reducible exact in_slot (by with_reducible assumption) (by with_reducible assumption) | with_reducible exact in_row _ (by decide) (by with_reducible assumption) | with_reducible exact in_row0 (by with_reducible assumption) | with_reducible exact in_slot0 (by with_reducible assumption) | (simp (disch := decide) only [up_k, up_s, up_f] <;> with_reducible assumption))) ?_
  try simp (disch := decide) only [up_k, up_s, up_f]
  refine tr_iast eX5_addStay_40 rfl (by first | with_reducible assumption | with_reducible exact in_slot (by with_reducible assumption) (by with_reducible assumption) | with_reducible exact in_row _ (by decide) (by with_reducible assumption) | with_reducible exact in_row0 (by with_reducible assumption) | with_reducible exact in_slot0 (by with_reducible assumption) | (simp (disch := decide) only [up_k, up_s, up_f] <;> with_reducible assumption)) ?_
  refine tr_aload_n eX5_addStay_41 rfl ?_
  refine tr_getR eX5_addStay_42 fk_X5_18 rfl rfl ?_
  refine tr_iload_n eX5_addStay_45 rfl ?_
  refine tr_dup2 eX5_addStay_46 rfl rfl ?_
  refine tr_iald eX5_addStay_47 rfl (by first | with_reducible assumption | with_reducible exact in_slot (by with_reducible assumption) (by with_reducible assumption) | with_reducible exact in_row _ (by decide) (by with_reducible assumption) | with_reducible exact in_row0 (by with_reducible assumption) | with_reducible exact in_slot0 (by with_reducible assumption) | (simp (disch := decide) only [up_k, up_s, up_f] <;> with_reducible assumption)) ?_
  try simp (disch := decide) only [up_k, up_s, up_f]
  refine tr_iconst eX5_addStay_48 (nI 1) ci_1 ?_
  refine tr_iadd eX5_addStay_49 ?_
  refine tr_iast eX5_addStay_50 rfl (by first | with_reducible assumption | with_reducible exact in_slot (by with_reducible assumption) (by with_reducible assumption) | with_reducible exact in_row _ (by decide) (by with_reducible assumption) | with_reducible exact in_row0 (by with_reducible assumption) | with_reducible exact in_slot0 (by with_reducible assumption) | (simp (disch := decide) only [up_k, up_s, up_f] <;> with_reducible assumption)) ?_
  refine tr_vret eX5_addStay_51 rfl ?_
  first | with_reducible exact ⟨rfl, rfl⟩ | (refine ⟨congrArg some ?_, rfl⟩; unfold bi; split <;> first | with_reducible rfl | (exfalso; simp_all; done) | (exfalso; simp only [Int32.lt_iff_toInt_lt, Int32.le_iff_toInt_le] at *; omega)) | exact ⟨rfl, rfl⟩

/-- v gets one stay, at s from a to b -/
def s_set (σ : tSt) (v s a b : Int32) : tSt := up (up (up (up σ 12 v (nI 1)) 13 (v * nI 8) s) 14 (v * nI 8) a) 15 (v * nI 8) b
theorem k_X3_x : True := trivial
end
section
def s_near (σ : tSt) (nP : Nat) (s w q x : Int32) : Bool := an (fun p => (decide (σ 3 p = s) && decide (σ 4 p = q) && (decide (σ 5 p < w) || decide (σ 6 p < x))) || (decide (σ 3 p = q) && decide (σ 4 p = s) && (decide (σ 6 p < w) || decide (σ 5 p < x)))) nP 0
def s_fc (σ : tSt) (nC : Nat) (s a b : Int32) : Int32 := fi (fun c => decide (σ 7 c = s) && s_hc a b (σ 8 c) (σ 9 c)) nC 0
def s_there (σ : tSt) (v s a b : Int32) : Bool := an (fun k => s_sa σ v k s a b) (tn (σ 12 v)) 0
theorem lp_X1_firstCone_3 {σ : tSt} {s a b : Int32} {n : Nat} (hn : σ 17 (nI 11) = nI n) (hb : n ≤ 20) : ∀ f i : Nat, i + f = n → TT mX1_firstCone 3 [.ref 17, .int s, .int a, .int b, .int (nI i)] [] σ (PE (some (fi (fun c => decide (σ 7 c = s) && s_hc a b (σ 8 c) (σ 9 c)) f i)) σ) := by
  intro f
  induction f with
  | zero =>
    intro i hi
    refine tr_iload eX1_firstCone_3 rfl ?_
    refine tr_aload_n eX1_firstCone_5 rfl ?_
    refine tr_getI eX1_firstCone_6 fk_X1_46 rfl rfl ?_
    refine tr_icmp_ge eX1_firstCone_9 (fun h9 => ?_) (fun h9 => ?_)
    · skip
      refine tr_iconst eX1_firstCone_54 (-1) ci_m1 ?_
      refine tr_ret eX1_firstCone_55 rfl rfl ?_
      exact ⟨rfl, rfl⟩
    · skip
      exact absurd (lt_of hn (by omega) (by omega) h9) (by omega)
  | succ f ih =>
    intro i hi
    refine tr_iload eX1_firstCone_3 rfl ?_
    refine tr_aload_n eX1_firstCone_5 rfl ?_
    refine tr_getI eX1_firstCone_6 fk_X1_46 rfl rfl ?_
    refine tr_icmp_ge eX1_firstCone_9 (fun h9 => ?_) (fun h9 => ?_)
    · skip
      exact absurd (ge_of hn (by omega) (by omega) h9) (by omega)
    · skip
      have g9 := lt_of hn (by omega) (by omega) h9
      have hv : vp_in (nI i) 20 := vp_in_nI (by omega) (by decide)
      refine tr_aload_n eX1_firstCone_12 rfl ?_
      refine tr_getR eX1_firstCone_13 fk_X1_30 rfl rfl ?_
      refine tr_iload eX1_firstCone_16 rfl ?_
      refine tr_iald eX1_firstCone_18 rfl (by first | with_reducible assumption | with_reducible exact in_slot (by with_reducible assumption) (by with_reducible assumption) | with_reducible exact in_row _ (by decide) (by with_reducible assumption) | with_reducible exact in_row0 (by with_reducible assumption) | with_reducible exact in_slot0 (by with_reducible assumption) | (simp (disch := decide) only [up_k, up_s, up_f] <;> with_reducible assumption)) ?_
      refine tr_iload_n eX1_firstCone_19 rfl ?_
      refine tr_icmp_ne eX1_firstCone_20 (fun h20 => ?_) (fun h20 => ?_)
      · skip
        refine tr_iinc eX1_firstCone_48 _ (by first | exact inc_n _ | rfl) rfl (by decide) rfl ?_
        refine tr_goto eX1_firstCone_51 ?_
        refine lpF (by simp_all) (ih (i + 1) (by omega))
      · skip
        refine tr_iload_n eX1_firstCone_23 rfl ?_
        refine tr_iload_n eX1_firstCone_24 rfl ?_
        refine tr_aload_n eX1_firstCone_25 rfl ?_
        refine tr_getR eX1_firstCone_26 fk_X1_33 rfl rfl ?_
        refine tr_iload eX1_firstCone_29 rfl ?_
        refine tr_iald eX1_firstCone_31 rfl (by first | with_reducible assumption | with_reducible exact in_slot (by with_reducible assumption) (by with_reducible assumption) | with_reducible exact in_row _ (by decide) (by with_reducible assumption) | with_reducible exact in_row0 (by with_reducible assumption) | with_reducible exact in_slot0 (by with_reducible assumption) | (simp (disch := decide) only [up_k, up_s, up_f] <;> with_reducible assumption)) ?_
        refine tr_aload_n eX1_firstCone_32 rfl ?_
        refine tr_getR eX1_firstCone_33 fk_X1_36 rfl rfl ?_
        refine tr_iload eX1_firstCone_36 rfl ?_
        refine tr_iald eX1_firstCone_38 rfl (by first | with_reducible assumption | with_reducible exact in_slot (by with_reducible assumption) (by with_reducible assumption) | with_reducible exact in_row _ (by decide) (by with_reducible assumption) | with_reducible exact in_row0 (by with_reducible assumption) | with_reducible exact in_slot0 (by with_reducible assumption) | (simp (disch := decide) only [up_k, up_s, up_f] <;> with_reducible assumption)) ?_
        refine tr_se4 eX1_firstCone_39 zv_X6_haveCommonMinute zs_X6_haveCommonMinute lk_X1_49 ⟨rfl, by decide, by decide⟩ rfl k_X6_haveCommonMinute ?_
        refine tr_if_eq eX1_firstCone_42 (fun h42 => ?_) (fun h42 => ?_)
        · skip
          try first | replace h42 := bi_0 h42 | replace h42 := bi_n h42
          refine tr_iinc eX1_firstCone_48 _ (by first | exact inc_n _ | rfl) rfl (by decide) rfl ?_
          refine tr_goto eX1_firstCone_51 ?_
          refine lpF (by simp_all) (ih (i + 1) (by omega))
        · skip
          try first | replace h42 := bi_0 h42 | replace h42 := bi_n h42
          refine tr_iload eX1_firstCone_45 rfl ?_
          refine tr_ret eX1_firstCone_47 rfl rfl ?_
          exact ⟨congrArg some (fi_t (by simp_all)), rfl⟩
theorem k_X1_firstCone {σ : tSt} {s a b : Int32} {n : Nat} (hn : σ 17 (nI 11) = nI n) (hb : n ≤ 20) : CT mX1_firstCone [.ref 17, .int s, .int a, .int b] σ (PE (some (s_fc σ n s a b)) σ) := by
  refine CT.of2 1 (by decide) rfl rfl ?_
  refine tr_iconst eX1_firstCone_0 (nI 0) ci_0 ?_
  refine tr_istore eX1_firstCone_1 (by decide) rfl ?_
  exact lp_X1_firstCone_3 hn hb n 0 (by omega)

theorem lp_X1_areTooNear_3 {σ : tSt} {s w q x : Int32} {n : Nat} (hn : σ 17 (nI 10) = nI n) (hb : n ≤ 40) : ∀ f i : Nat, i + f = n → TT mX1_areTooNear 3 [.ref 17, .int s, .int w, .int q, .int x, .int (nI i), .null, .null] [] σ (PE (some (bi (an (fun p => (decide (σ 3 p = s) && decide (σ 4 p = q) && (decide (σ 5 p < w) || decide (σ 6 p < x))) || (decide (σ 3 p = q) && decide (σ 4 p = s) && (decide (σ 6 p < w) || decide (σ 5 p < x)))) f i = true))) σ) := by
  intro f
  induction f with
  | zero =>
    intro i hi
    refine tr_iload eX1_areTooNear_3 rfl ?_
    refine tr_aload_n eX1_areTooNear_5 rfl ?_
    refine tr_getI eX1_areTooNear_6 fk_X1_43 rfl rfl ?_
    refine tr_icmp_ge eX1_areTooNear_9 (fun h9 => ?_) (fun h9 => ?_)
    · skip
      refine tr_iconst eX1_areTooNear_136 (nI 0) ci_0 ?_
      refine tr_ret eX1_areTooNear_137 rfl (by first | rfl | exact nar_bi _) ?_
      exact ⟨congrArg some (bi_f (by simp [an])), rfl⟩
    · skip
      exact absurd (lt_of hn (by omega) (by omega) h9) (by omega)
  | succ f ih =>
    intro i hi
    refine tr_iload eX1_areTooNear_3 rfl ?_
    refine tr_aload_n eX1_areTooNear_5 rfl ?_
    refine tr_getI eX1_areTooNear_6 fk_X1_43 rfl rfl ?_
    refine tr_icmp_ge eX1_areTooNear_9 (fun h9 => ?_) (fun h9 => ?_)
    · skip
      exact absurd (ge_of hn (by omega) (by omega) h9) (by omega)
    · skip
      have g9 := lt_of hn (by omega) (by omega) h9
      have hv : vp_in (nI i) 40 := vp_in_nI (by omega) (by decide)
      refine tr_aload_n eX1_areTooNear_12 rfl ?_
      refine tr_getR eX1_areTooNear_13 fk_X1_18 rfl rfl ?_
      refine tr_iload eX1_areTooNear_16 rfl ?_
      refine tr_iald eX1_areTooNear_18 rfl (by first | with_reducible assumption | with_reducible exact in_slot (by with_reducible assumption) (by with_reducible assumption) | with_reducible exact in_row _ (by decide) (by with_reducible assumption) | with_reducible exact in_row0 (by with_reducible assumption) | with_reducible exact in_slot0 (by with_reducible assumption) | (simp (disch := decide) only [up_k, up_s, up_f] <;> with_reducible assumption)) ?_
      refine tr_iload_n eX1_areTooNear_19 rfl ?_
      refine tr_icmp_ne eX1_areTooNear_20 (fun h20 => ?_) (fun h20 => ?_)
      · skip
        refine tr_iconst eX1_areTooNear_38 (nI 0) ci_0 ?_
        refine tr_istore eX1_areTooNear_39 (by decide) rfl ?_
        refine tr_iload eX1_areTooNear_41 rfl ?_
        refine tr_if_eq eX1_areTooNear_43 (fun _ => ?_) (fun h43 => absurd h43 (by decide))
        refine tr_aload_n eX1_areTooNear_71 rfl ?_
        refine tr_getR eX1_areTooNear_72 fk_X1_18 rfl rfl ?_
        refine tr_iload eX1_areTooNear_75 rfl ?_
        refine tr_iald eX1_areTooNear_77 rfl (by first | with_reducible assumption | with_reducible exact in_slot (by with_reducible assumption) (by with_reducible assumption) | with_reducible exact in_row _ (by decide) (by with_reducible assumption) | with_reducible exact in_row0 (by with_reducible assumption) | with_reducible exact in_slot0 (by with_reducible assumption) | (simp (disch := decide) only [up_k, up_s, up_f] <;> with_reducible assumption)) ?_
        refine tr_iload_n eX1_areTooNear_78 rfl ?_
        refine tr_icmp_ne eX1_areTooNear_79 (fun h79 => ?_) (fun h79 => ?_)
        · skip
          refine tr_iconst eX1_areTooNear_97 (nI 0) ci_0 ?_
          refine tr_istore eX1_areTooNear_98 (by decide) rfl ?_
          refine tr_iload eX1_areTooNear_100 rfl ?_
          refine tr_if_eq eX1_areTooNear_102 (fun _ => ?_) (fun h102 => absurd h102 (by decide))
          refine tr_iinc eX1_areTooNear_130 _ (by first | exact inc_n _ | rfl) rfl (by decide) rfl ?_
          refine tr_goto eX1_areTooNear_133 ?_
          refine TT.fg [6, 7] ?_
          refine lpA (by simp_all) (ih (i + 1) (by omega))
        · skip
          refine tr_aload_n eX1_areTooNear_82 rfl ?_
          refine tr_getR eX1_areTooNear_83 fk_X1_21 rfl rfl ?_
          refine tr_iload eX1_areTooNear_86 rfl ?_
          refine tr_iald eX1_areTooNear_88 rfl (by first | with_reducible assumption | with_reducible exact in_slot (by with_reducible assumption) (by with_reducible assumption) | with_reducible exact in_row _ (by decide) (by with_reducible assumption) | with_reducible exact in_row0 (by with_reducible assumption) | with_reducible exact in_slot0 (by with_reducible assumption) | (simp (disch := decide) only [up_k, up_s, up_f] <;> with_reducible assumption)) ?_
          refine tr_iload_n eX1_areTooNear_89 rfl ?_
          refine tr_icmp_ne eX1_areTooNear_90 (fun h90 => ?_) (fun h90 => ?_)
          · skip
            refine tr_iconst eX1_areTooNear_97 (nI 0) ci_0 ?_
            refine tr_istore eX1_areTooNear_98 (by decide) rfl ?_
            refine tr_iload eX1_areTooNear_100 rfl ?_
            refine tr_if_eq eX1_areTooNear_102 (fun _ => ?_) (fun h102 => absurd h102 (by decide))
            refine tr_iinc eX1_areTooNear_130 _ (by first | exact inc_n _ | rfl) rfl (by decide) rfl ?_
            refine tr_goto eX1_areTooNear_133 ?_
            refine TT.fg [6, 7] ?_
            refine lpA (by simp_all) (ih (i + 1) (by omega))
          · skip
            refine tr_iconst eX1_areTooNear_93 (nI 1) ci_1 ?_
            refine tr_goto eX1_areTooNear_94 ?_
            refine tr_istore eX1_areTooNear_98 (by decide) rfl ?_
            refine tr_iload eX1_areTooNear_100 rfl ?_
            refine tr_if_eq eX1_areTooNear_102 (fun h102 => absurd h102 (by decide)) (fun _ => ?_)
            refine tr_iload_n eX1_areTooNear_105 rfl ?_
            refine tr_aload_n eX1_areTooNear_106 rfl ?_
            refine tr_getR eX1_areTooNear_107 fk_X1_27 rfl rfl ?_
            refine tr_iload eX1_areTooNear_110 rfl ?_
            refine tr_iald eX1_areTooNear_112 rfl (by first | with_reducible assumption | with_reducible exact in_slot (by with_reducible assumption) (by with_reducible assumption) | with_reducible exact in_row _ (by decide) (by with_reducible assumption) | with_reducible exact in_row0 (by with_reducible assumption) | with_reducible exact in_slot0 (by with_reducible assumption) | (simp (disch := decide) only [up_k, up_s, up_f] <;> with_reducible assumption)) ?_
            refine tr_icmp_gt eX1_areTooNear_113 (fun h113 => ?_) (fun h113 => ?_)
            · skip
              refine tr_iconst eX1_areTooNear_128 (nI 1) ci_1 ?_
              refine tr_ret eX1_areTooNear_129 rfl (by first | rfl | exact nar_bi _) ?_
              exact ⟨congrArg some (bi_t (an_t (by simp_all))), rfl⟩
            · skip
              refine tr_iload eX1_areTooNear_116 rfl ?_
              refine tr_aload_n eX1_areTooNear_118 rfl ?_
              refine tr_getR eX1_areTooNear_119 fk_X1_24 rfl rfl ?_
              refine tr_iload eX1_areTooNear_122 rfl ?_
              refine tr_iald eX1_areTooNear_124 rfl (by first | with_reducible assumption | with_reducible exact in_slot (by with_reducible assumption) (by with_reducible assumption) | with_reducible exact in_row _ (by decide) (by with_reducible assumption) | with_reducible exact in_row0 (by with_reducible assumption) | with_reducible exact in_slot0 (by with_reducible assumption) | (simp (disch := decide) only [up_k, up_s, up_f] <;> with_reducible assumption)) ?_
              refine tr_icmp_le eX1_areTooNear_125 (fun h125 => ?_) (fun h125 => ?_)
              · skip
                refine tr_iinc eX1_areTooNear_130 _ (by first | exact inc_n _ | rfl) rfl (by decide) rfl ?_
                refine tr_goto eX1_areTooNear_133 ?_
                refine TT.fg [6, 7] ?_
                refine lpA (by simp_all) (ih (i + 1) (by omega))
              · skip
                refine tr_iconst eX1_areTooNear_128 (nI 1) ci_1 ?_
                refine tr_ret eX1_areTooNear_129 rfl (by first | rfl | exact nar_bi _) ?_
                exact ⟨congrArg some (bi_t (an_t (by simp_all))), rfl⟩
      · skip
        refine tr_aload_n eX1_areTooNear_23 rfl ?_
        refine tr_getR eX1_areTooNear_24 fk_X1_21 rfl rfl ?_
        refine tr_iload eX1_areTooNear_27 rfl ?_
        refine tr_iald eX1_areTooNear_29 rfl (by first | with_reducible assumption | with_reducible exact in_slot (by with_reducible assumption) (by with_reducible assumption) | with_reducible exact in_row _ (by decide) (by with_reducible assumption) | with_reducible exact in_row0 (by with_reducible assumption) | with_reducible exact in_slot0 (by with_reducible assumption) | (simp (disch := decide) only [up_k, up_s, up_f] <;> with_reducible assumption)) ?_
        refine tr_iload_n eX1_areTooNear_30 rfl ?_
        refine tr_icmp_ne eX1_areTooNear_31 (fun h31 => ?_) (fun h31 => ?_)
        · skip
          refine tr_iconst eX1_areTooNear_38 (nI 0) ci_0 ?_
          refine tr_istore eX1_areTooNear_39 (by decide) rfl ?_
          refine tr_iload eX1_areTooNear_41 rfl ?_
          refine tr_if_eq eX1_areTooNear_43 (fun _ => ?_) (fun h43 => absurd h43 (by decide))
          refine tr_aload_n eX1_areTooNear_71 rfl ?_
          refine tr_getR eX1_areTooNear_72 fk_X1_18 rfl rfl ?_
          refine tr_iload eX1_areTooNear_75 rfl ?_
          refine tr_iald eX1_areTooNear_77 rfl (by first | with_reducible assumption | with_reducible exact in_slot (by with_reducible assumption) (by with_reducible assumption) | with_reducible exact in_row _ (by decide) (by with_reducible assumption) | with_reducible exact in_row0 (by with_reducible assumption) | with_reducible exact in_slot0 (by with_reducible assumption) | (simp (disch := decide) only [up_k, up_s, up_f] <;> with_reducible assumption)) ?_
          refine tr_iload_n eX1_areTooNear_78 rfl ?_
          refine tr_icmp_ne eX1_areTooNear_79 (fun h79 => ?_) (fun h79 => ?_)
          · skip
            refine tr_iconst eX1_areTooNear_97 (nI 0) ci_0 ?_
            refine tr_istore eX1_areTooNear_98 (by decide) rfl ?_
            refine tr_iload eX1_areTooNear_100 rfl ?_
            refine tr_if_eq eX1_areTooNear_102 (fun _ => ?_) (fun h102 => absurd h102 (by decide))
            refine tr_iinc eX1_areTooNear_130 _ (by first | exact inc_n _ | rfl) rfl (by decide) rfl ?_
            refine tr_goto eX1_areTooNear_133 ?_
            refine TT.fg [6, 7] ?_
            refine lpA (by simp_all) (ih (i + 1) (by omega))
          · skip
            refine tr_aload_n eX1_areTooNear_82 rfl ?_
            refine tr_getR eX1_areTooNear_83 fk_X1_21 rfl rfl ?_
            refine tr_iload eX1_areTooNear_86 rfl ?_
            refine tr_iald eX1_areTooNear_88 rfl (by first | with_reducible assumption | with_reducible exact in_slot (by with_reducible assumption) (by with_reducible assumption) | with_reducible exact in_row _ (by decide) (by with_reducible assumption) | with_reducible exact in_row0 (by with_reducible assumption) | with_reducible exact in_slot0 (by with_reducible assumption) | (simp (disch := decide) only [up_k, up_s, up_f] <;> with_reducible assumption)) ?_
            refine tr_iload_n eX1_areTooNear_89 rfl ?_
            refine tr_icmp_ne eX1_areTooNear_90 (fun h90 => ?_) (fun h90 => ?_)
            · skip
              refine tr_iconst eX1_areTooNear_97 (nI 0) ci_0 ?_
              refine tr_istore eX1_areTooNear_98 (by decide) rfl ?_
              refine tr_iload eX1_areTooNear_100 rfl ?_
              refine tr_if_eq eX1_areTooNear_102 (fun _ => ?_) (fun h102 => absurd h102 (by decide))
              refine tr_iinc eX1_areTooNear_130 _ (by first | exact inc_n _ | rfl) rfl (by decide) rfl ?_
              refine tr_goto eX1_areTooNear_133 ?_
              refine TT.fg [6, 7] ?_
              refine lpA (by simp_all) (ih (i + 1) (by omega))
            · skip
              refine tr_iconst eX1_areTooNear_93 (nI 1) ci_1 ?_
              refine tr_goto eX1_areTooNear_94 ?_
              refine tr_istore eX1_areTooNear_98 (by decide) rfl ?_
              refine tr_iload eX1_areTooNear_100 rfl ?_
              refine tr_if_eq eX1_areTooNear_102 (fun h102 => absurd h102 (by decide)) (fun _ => ?_)
              refine tr_iload_n eX1_areTooNear_105 rfl ?_
              refine tr_aload_n eX1_areTooNear_106 rfl ?_
              refine tr_getR eX1_areTooNear_107 fk_X1_27 rfl rfl ?_
              refine tr_iload eX1_areTooNear_110 rfl ?_
              refine tr_iald eX1_areTooNear_112 rfl (by first | with_reducible assumption | with_reducible exact in_slot (by with_reducible assumption) (by with_reducible assumption) | with_reducible exact in_row _ (by decide) (by with_reducible assumption) | with_reducible exact in_row0 (by with_reducible assumption) | with_reducible exact in_slot0 (by with_reducible assumption) | (simp (disch := decide) only [up_k, up_s, up_f] <;> with_reducible assumption)) ?_
              refine tr_icmp_gt eX1_areTooNear_113 (fun h113 => ?_) (fun h113 => ?_)
              · skip
                refine tr_iconst eX1_areTooNear_128 (nI 1) ci_1 ?_
                refine tr_ret eX1_areTooNear_129 rfl (by first | rfl | exact nar_bi _) ?_
                exact ⟨congrArg some (bi_t (an_t (by simp_all))), rfl⟩
              · skip
                refine tr_iload eX1_areTooNear_116 rfl ?_
                refine tr_aload_n eX1_areTooNear_118 rfl ?_
                refine tr_getR eX1_areTooNear_119 fk_X1_24 rfl rfl ?_
                refine tr_iload eX1_areTooNear_122 rfl ?_
                refine tr_iald eX1_areTooNear_124 rfl (by first | with_reducible assumption | with_reducible exact in_slot (by with_reducible assumption) (by with_reducible assumption) | with_reducible exact in_row _ (by decide) (by with_reducible assumption) | with_reducible exact in_row0 (by with_reducible assumption) | with_reducible exact in_slot0 (by with_reducible assumption) | (simp (disch := decide) only [up_k, up_s, up_f] <;> with_reducible assumption)) ?_
                refine tr_icmp_le eX1_areTooNear_125 (fun h125 => ?_) (fun h125 => ?_)
                · skip
                  refine tr_iinc eX1_areTooNear_130 _ (by first | exact inc_n _ | rfl) rfl (by decide) rfl ?_
                  refine tr_goto eX1_areTooNear_133 ?_
                  refine TT.fg [6, 7] ?_
                  refine lpA (by simp_all) (ih (i + 1) (by omega))
                · skip
                  refine tr_iconst eX1_areTooNear_128 (nI 1) ci_1 ?_
                  refine tr_ret eX1_areTooNear_129 rfl (by first | rfl | exact nar_bi _) ?_
                  exact ⟨congrArg some (bi_t (an_t (by simp_all))), rfl⟩
        · skip
          refine tr_iconst eX1_areTooNear_34 (nI 1) ci_1 ?_
          refine tr_goto eX1_areTooNear_35 ?_
          refine tr_istore eX1_areTooNear_39 (by decide) rfl ?_
          refine tr_iload eX1_areTooNear_41 rfl ?_
          refine tr_if_eq eX1_areTooNear_43 (fun h43 => absurd h43 (by decide)) (fun _ => ?_)
          refine tr_iload_n eX1_areTooNear_46 rfl ?_
          refine tr_aload_n eX1_areTooNear_47 rfl ?_
          refine tr_getR eX1_areTooNear_48 fk_X1_24 rfl rfl ?_
          refine tr_iload eX1_areTooNear_51 rfl ?_
          refine tr_iald eX1_areTooNear_53 rfl (by first | with_reducible assumption | with_reducible exact in_slot (by with_reducible assumption) (by with_reducible assumption) | with_reducible exact in_row _ (by decide) (by with_reducible assumption) | with_reducible exact in_row0 (by with_reducible assumption) | with_reducible exact in_slot0 (by with_reducible assumption) | (simp (disch := decide) only [up_k, up_s, up_f] <;> with_reducible assumption)) ?_
          refine tr_icmp_gt eX1_areTooNear_54 (fun h54 => ?_) (fun h54 => ?_)
          · skip
            refine tr_iconst eX1_areTooNear_69 (nI 1) ci_1 ?_
            refine tr_ret eX1_areTooNear_70 rfl (by first | rfl | exact nar_bi _) ?_
            exact ⟨congrArg some (bi_t (an_t (by simp_all))), rfl⟩
          · skip
            refine tr_iload eX1_areTooNear_57 rfl ?_
            refine tr_aload_n eX1_areTooNear_59 rfl ?_
            refine tr_getR eX1_areTooNear_60 fk_X1_27 rfl rfl ?_
            refine tr_iload eX1_areTooNear_63 rfl ?_
            refine tr_iald eX1_areTooNear_65 rfl (by first | with_reducible assumption | with_reducible exact in_slot (by with_reducible assumption) (by with_reducible assumption) | with_reducible exact in_row _ (by decide) (by with_reducible assumption) | with_reducible exact in_row0 (by with_reducible assumption) | with_reducible exact in_slot0 (by with_reducible assumption) | (simp (disch := decide) only [up_k, up_s, up_f] <;> with_reducible assumption)) ?_
            refine tr_icmp_le eX1_areTooNear_66 (fun h66 => ?_) (fun h66 => ?_)
            · skip
              refine tr_aload_n eX1_areTooNear_71 rfl ?_
              refine tr_getR eX1_areTooNear_72 fk_X1_18 rfl rfl ?_
              refine tr_iload eX1_areTooNear_75 rfl ?_
              refine tr_iald eX1_areTooNear_77 rfl (by first | with_reducible assumption | with_reducible exact in_slot (by with_reducible assumption) (by with_reducible assumption) | with_reducible exact in_row _ (by decide) (by with_reducible assumption) | with_reducible exact in_row0 (by with_reducible assumption) | with_reducible exact in_slot0 (by with_reducible assumption) | (simp (disch := decide) only [up_k, up_s, up_f] <;> with_reducible assumption)) ?_
              refine tr_iload_n eX1_areTooNear_78 rfl ?_
              refine tr_icmp_ne eX1_areTooNear_79 (fun h79 => ?_) (fun h79 => ?_)
              · skip
                refine tr_iconst eX1_areTooNear_97 (nI 0) ci_0 ?_
                refine tr_istore eX1_areTooNear_98 (by decide) rfl ?_
                refine tr_iload eX1_areTooNear_100 rfl ?_
                refine tr_if_eq eX1_areTooNear_102 (fun _ => ?_) (fun h102 => absurd h102 (by decide))
                refine tr_iinc eX1_areTooNear_130 _ (by first | exact inc_n _ | rfl) rfl (by decide) rfl ?_
                refine tr_goto eX1_areTooNear_133 ?_
                refine TT.fg [6, 7] ?_
                refine lpA (by simp_all) (ih (i + 1) (by omega))
              · skip
                refine tr_aload_n eX1_areTooNear_82 rfl ?_
                refine tr_getR eX1_areTooNear_83 fk_X1_21 rfl rfl ?_
                refine tr_iload eX1_areTooNear_86 rfl ?_
                refine tr_iald eX1_areTooNear_88 rfl (by first | with_reducible assumption | with_reducible exact in_slot (by with_reducible assumption) (by with_reducible assumption) | with_reducible exact in_row _ (by decide) (by with_reducible assumption) | with_reducible exact in_row0 (by with_reducible assumption) | with_reducible exact in_slot0 (by with_reducible assumption) | (simp (disch := decide) only [up_k, up_s, up_f] <;> with_reducible assumption)) ?_
                refine tr_iload_n eX1_areTooNear_89 rfl ?_
                refine tr_icmp_ne eX1_areTooNear_90 (fun h90 => ?_) (fun h90 => ?_)
                · skip
                  refine tr_iconst eX1_areTooNear_97 (nI 0) ci_0 ?_
                  refine tr_istore eX1_areTooNear_98 (by decide) rfl ?_
                  refine tr_iload eX1_areTooNear_100 rfl ?_
                  refine tr_if_eq eX1_areTooNear_102 (fun _ => ?_) (fun h102 => absurd h102 (by decide))
                  refine tr_iinc eX1_areTooNear_130 _ (by first | exact inc_n _ | rfl) rfl (by decide) rfl ?_
                  refine tr_goto eX1_areTooNear_133 ?_
                  refine TT.fg [6, 7] ?_
                  refine lpA (by simp_all) (ih (i + 1) (by omega))
                · skip
                  refine tr_iconst eX1_areTooNear_93 (nI 1) ci_1 ?_
                  refine tr_goto eX1_areTooNear_94 ?_
                  refine tr_istore eX1_areTooNear_98 (by decide) rfl ?_
                  refine tr_iload eX1_areTooNear_100 rfl ?_
                  refine tr_if_eq eX1_areTooNear_102 (fun h102 => absurd h102 (by decide)) (fun _ => ?_)
                  refine tr_iload_n eX1_areTooNear_105 rfl ?_
                  refine tr_aload_n eX1_areTooNear_106 rfl ?_
                  refine tr_getR eX1_areTooNear_107 fk_X1_27 rfl rfl ?_
                  refine tr_iload eX1_areTooNear_110 rfl ?_
                  refine tr_iald eX1_areTooNear_112 rfl (by first | with_reducible assumption | with_reducible exact in_slot (by with_reducible assumption) (by with_reducible assumption) | with_reducible exact in_row _ (by decide) (by with_reducible assumption) | with_reducible exact in_row0 (by with_reducible assumption) | with_reducible exact in_slot0 (by with_reducible assumption) | (simp (disch := decide) only [up_k, up_s, up_f] <;> with_reducible assumption)) ?_
                  refine tr_icmp_gt eX1_areTooNear_113 (fun h113 => ?_) (fun h113 => ?_)
                  · skip
                    refine tr_iconst eX1_areTooNear_128 (nI 1) ci_1 ?_
                    refine tr_ret eX1_areTooNear_129 rfl (by first | rfl | exact nar_bi _) ?_
                    exact ⟨congrArg some (bi_t (an_t (by simp_all))), rfl⟩
                  · skip
                    refine tr_iload eX1_areTooNear_116 rfl ?_
                    refine tr_aload_n eX1_areTooNear_118 rfl ?_
                    refine tr_getR eX1_areTooNear_119 fk_X1_24 rfl rfl ?_
                    refine tr_iload eX1_areTooNear_122 rfl ?_
                    refine tr_iald eX1_areTooNear_124 rfl (by first | with_reducible assumption | with_reducible exact in_slot (by with_reducible assumption) (by with_reducible assumption) | with_reducible exact in_row _ (by decide) (by with_reducible assumption) | with_reducible exact in_row0 (by with_reducible assumption) | with_reducible exact in_slot0 (by with_reducible assumption) | (simp (disch := decide) only [up_k, up_s, up_f] <;> with_reducible assumption)) ?_
                    refine tr_icmp_le eX1_areTooNear_125 (fun h125 => ?_) (fun h125 => ?_)
                    · skip
                      refine tr_iinc eX1_areTooNear_130 _ (by first | exact inc_n _ | rfl) rfl (by decide) rfl ?_
                      refine tr_goto eX1_areTooNear_133 ?_
                      refine TT.fg [6, 7] ?_
                      refine lpA (by simp_all) (ih (i + 1) (by omega))
                    · skip
                      refine tr_iconst eX1_areTooNear_128 (nI 1) ci_1 ?_
                      refine tr_ret eX1_areTooNear_129 rfl (by first | rfl | exact nar_bi _) ?_
                      exact ⟨congrArg some (bi_t (an_t (by simp_all))), rfl⟩
            · skip
              refine tr_iconst eX1_areTooNear_69 (nI 1) ci_1 ?_
              refine tr_ret eX1_areTooNear_70 rfl (by first | rfl | exact nar_bi _) ?_
              exact ⟨congrArg some (bi_t (an_t (by simp_all))), rfl⟩
theorem k_X1_areTooNear {σ : tSt} {s w q x : Int32} {n : Nat} (hn : σ 17 (nI 10) = nI n) (hb : n ≤ 40) : CT mX1_areTooNear [.ref 17, .int s, .int w, .int q, .int x] σ (PE (some (bi (s_near σ n s w q x = true))) σ) := by
  refine CT.of2 3 (by decide) rfl rfl ?_
  refine tr_iconst eX1_areTooNear_0 (nI 0) ci_0 ?_
  refine tr_istore eX1_areTooNear_1 (by decide) rfl ?_
  exact lp_X1_areTooNear_3 hn hb n 0 (by omega)

theorem lp_X5_isThere_3 {σ : tSt} {v s a b : Int32} {n : Nat} (hv : vp_in v 40) (hn : σ 12 v = nI n) (hb : n ≤ 8) : ∀ f i : Nat, i + f = n → TT mX5_isThere 3 [.ref 18, .int v, .int s, .int a, .int b, .int (nI i)] [] σ (PE (some (bi (an (fun k => s_sa σ v k s a b) f i = true))) σ) := by
  intro f
  induction f with
  | zero =>
    intro i hi
    refine tr_iload eX5_isThere_3 rfl ?_
    refine tr_aload_n eX5_isThere_5 rfl ?_
    refine tr_getR eX5_isThere_6 fk_X5_18 rfl rfl ?_
    refine tr_iload_n eX5_isThere_9 rfl ?_
    refine tr_iald eX5_isThere_10 rfl (by first | with_reducible assumption | with_reducible exact in_slot (by with_reducible assumption) (by with_reducible assumption) | with_reducible exact in_row _ (by decide) (by with_reducible assumption) | with_reducible exact in_row0 (by with_reducible assumption) | with_reducible exact in_slot0 (by with_reducible assumption) | (simp (disch := decide) only [up_k, up_s, up_f] <;> with_reducible assumption)) ?_
    refine tr_icmp_ge eX5_isThere_11 (fun h11 => ?_) (fun h11 => ?_)
    · skip
      refine tr_iconst eX5_isThere_36 (nI 0) ci_0 ?_
      refine tr_ret eX5_isThere_37 rfl (by first | rfl | exact nar_bi _) ?_
      exact ⟨congrArg some (bi_f (by simp [an])), rfl⟩
    · skip
      exact absurd (lt_of hn (by omega) (by omega) h11) (by omega)
  | succ f ih =>
    intro i hi
    refine tr_iload eX5_isThere_3 rfl ?_
    refine tr_aload_n eX5_isThere_5 rfl ?_
    refine tr_getR eX5_isThere_6 fk_X5_18 rfl rfl ?_
    refine tr_iload_n eX5_isThere_9 rfl ?_
    refine tr_iald eX5_isThere_10 rfl (by first | with_reducible assumption | with_reducible exact in_slot (by with_reducible assumption) (by with_reducible assumption) | with_reducible exact in_row _ (by decide) (by with_reducible assumption) | with_reducible exact in_row0 (by with_reducible assumption) | with_reducible exact in_slot0 (by with_reducible assumption) | (simp (disch := decide) only [up_k, up_s, up_f] <;> with_reducible assumption)) ?_
    refine tr_icmp_ge eX5_isThere_11 (fun h11 => ?_) (fun h11 => ?_)
    · skip
      exact absurd (ge_of hn (by omega) (by omega) h11) (by omega)
    · skip
      have g11 := lt_of hn (by omega) (by omega) h11
      have hk : vp_in (nI i) 8 := vp_in_nI (by omega) (by decide)
      refine tr_aload_n eX5_isThere_14 rfl ?_
      refine tr_iload_n eX5_isThere_15 rfl ?_
      refine tr_iload eX5_isThere_16 rfl ?_
      refine tr_iload_n eX5_isThere_18 rfl ?_
      refine tr_iload_n eX5_isThere_19 rfl ?_
      refine tr_iload eX5_isThere_20 rfl ?_
      refine tr_ce5 eX5_isThere_22 zv_X5_isStayAt zi_X5_isStayAt lk_X5_54 ⟨rfl, by decide, by decide⟩ rfl rfl rfl (k_X5_isStayAt (by first | with_reducible assumption | with_reducible exact in_slot (by with_reducible assumption) (by with_reducible assumption) | with_reducible exact in_row _ (by decide) (by with_reducible assumption) | with_reducible exact in_row0 (by with_reducible assumption) | with_reducible exact in_slot0 (by with_reducible assumption) | (simp (disch := decide) only [up_k, up_s, up_f] <;> with_reducible assumption)) (by first | with_reducible assumption | with_reducible exact in_slot (by with_reducible assumption) (by with_reducible assumption) | with_reducible exact in_row _ (by decide) (by with_reducible assumption) | with_reducible exact in_row0 (by with_reducible assumption) | with_reducible exact in_slot0 (by with_reducible assumption) | (simp (disch := decide) only [up_k, up_s, up_f] <;> with_reducible assumption))) ?_
      refine tr_if_eq eX5_isThere_25 (fun h25 => ?_) (fun h25 => ?_)
      · skip
        try first | replace h25 := bi_0 h25 | replace h25 := bi_n h25
        refine tr_iinc eX5_isThere_30 _ (by first | exact inc_n _ | rfl) rfl (by decide) rfl ?_
        refine tr_goto eX5_isThere_33 ?_
        refine lpA (by simp_all) (ih (i + 1) (by omega))
      · skip
        try first | replace h25 := bi_0 h25 | replace h25 := bi_n h25
        refine tr_iconst eX5_isThere_28 (nI 1) ci_1 ?_
        refine tr_ret eX5_isThere_29 rfl (by first | rfl | exact nar_bi _) ?_
        exact ⟨congrArg some (bi_t (an_t (by simp_all))), rfl⟩
theorem k_X5_isThere {σ : tSt} {v s a b : Int32} {n : Nat} (hv : vp_in v 40) (hn : σ 12 v = nI n) (hb : n ≤ 8) : CT mX5_isThere [.ref 18, .int v, .int s, .int a, .int b] σ (PE (some (bi (s_there σ v s a b = true))) σ) := by
  refine CT.of2 1 (by decide) rfl rfl ?_
  refine tr_iconst eX5_isThere_0 (nI 0) ci_0 ?_
  refine tr_istore eX5_isThere_1 (by decide) rfl ?_
  rw [s_there, tn_of hn (by omega)]
  exact lp_X5_isThere_3 hv hn hb n 0 (by omega)

def s_place (σ : tSt) (v s a : Int32) : tSt := up (up (up (up (up σ 12 v (nI 0)) 13 (v * nI 8 + nI 0) s) 14 (v * nI 8 + nI 0) a) 15 (v * nI 8 + nI 0) (s_out σ v)) 12 v (nI 0 + nI 1)
theorem s_place_eq (σ : tSt) (v s a : Int32) : s_place σ v s a = s_set σ v s a (s_out σ v) := by
  unfold s_place s_set
  rw [add_n0, show nI 0 + nI 1 = nI 1 from by decide]
  funext k i
  simp only [up]
  by_cases h12 : k = 12
  · subst h12; simp; by_cases hi : i = v <;> simp [hi]
  · simp [h12]
theorem k_X5_place {σ : tSt} {v s a : Int32} (hv : vp_in v 40) : CT mX5_place [.ref 18, .int v, .int s, .int a] σ (PE (some (bi (s ≠ -1))) (if s = -1 then σ else s_set σ v s a (s_out σ v))) := by
  refine CT.of2 0 (by decide) rfl rfl ?_
  refine tr_iload_n eX5_place_0 rfl ?_
  refine tr_iconst eX5_place_1 (-1) ci_m1 ?_
  refine tr_icmp_ne eX5_place_2 (fun h2 => ?_) (fun h2 => ?_)
  · skip
    refine tr_aload_n eX5_place_7 rfl ?_
    refine tr_getR eX5_place_8 fk_X5_18 rfl rfl ?_
    refine tr_iload_n eX5_place_11 rfl ?_
    refine tr_iconst eX5_place_12 (nI 0) ci_0 ?_
    refine tr_iast eX5_place_13 rfl (by first | with_reducible assumption | with_reducible exact in_slot (by with_reducible assumption) (by with_reducible assumption) | with_reducible exact in_row _ (by decide) (by with_reducible assumption) | with_reducible exact in_row0 (by with_reducible assumption) | with_reducible exact in_slot0 (by with_reducible assumption) | (simp (disch := decide) only [up_k, up_s, up_f] <;> with_reducible assumption)) ?_
    refine tr_aload_n eX5_place_14 rfl ?_
    refine tr_iload_n eX5_place_15 rfl ?_
    refine tr_iload_n eX5_place_16 rfl ?_
    refine tr_iload_n eX5_place_17 rfl ?_
    refine tr_ce3 eX5_place_18 zv_X5_addStay zi_X5_addStay lk_X5_58 ⟨rfl, by decide, by decide⟩ rfl rfl rfl (k_X5_addStay (by with_reducible assumption) (by rw [up_s]; exact vp_in_nI (by decide) (by decide))) ?_
    try simp (disch := decide) only [up_k, up_s, up_f]
    refine tr_iconst eX5_place_21 (nI 1) ci_1 ?_
    refine tr_ret eX5_place_22 rfl (by first | rfl | exact nar_bi _) ?_
    exact ⟨congrArg some (bi_t (by simp_all)), by rw [if_neg h2, ← s_place_eq]; rfl⟩
  · skip
    refine tr_iconst eX5_place_5 (nI 0) ci_0 ?_
    refine tr_ret eX5_place_6 rfl (by first | rfl | exact nar_bi _) ?_
    exact ⟨congrArg some (bi_f (by simp_all)), by rw [if_pos h2]⟩

def s_oth (σ : tSt) (u : Int32) : Bool := decide (¬ u = σ 19 (nI 3)) && decide (σ 26 u = 0)
theorem k_X2_isOther {σ : tSt} {u : Int32} (hv : vp_in u 40) : CT mX2_isOther [.ref 19, .int u] σ (PE (some (bi (s_oth σ u = true))) σ) := by
  refine CT.of2 0 (by decide) rfl rfl ?_
  refine tr_iload_n eX2_isOther_0 rfl ?_
  refine tr_aload_n eX2_isOther_1 rfl ?_
  refine tr_getI eX2_isOther_2 fk_X2_33 rfl rfl ?_
  refine tr_icmp_eq eX2_isOther_5 (fun h5 => ?_) (fun h5 => ?_)
  · skip
    refine tr_iconst eX2_isOther_21 (nI 0) ci_0 ?_
    refine tr_ret eX2_isOther_22 rfl (by first | rfl | exact nar_bi _) ?_
    refine ⟨congrArg some ?_, rfl⟩
    first | (refine bi_t ?_; simp_all [s_oth]; done) | (refine bi_f ?_; simp_all [s_oth]; done)
  · skip
    refine tr_aload_n eX2_isOther_8 rfl ?_
    refine tr_getR eX2_isOther_9 fk_X2_9 rfl rfl ?_
    refine tr_iload_n eX2_isOther_12 rfl ?_
    refine tr_zald eX2_isOther_13 rfl (by first | with_reducible assumption | with_reducible exact in_slot (by with_reducible assumption) (by with_reducible assumption) | with_reducible exact in_row _ (by decide) (by with_reducible assumption) | with_reducible exact in_row0 (by with_reducible assumption) | with_reducible exact in_slot0 (by with_reducible assumption) | (simp (disch := decide) only [up_k, up_s, up_f] <;> with_reducible assumption)) ?_
    refine tr_if_ne eX2_isOther_14 (fun h14 => ?_) (fun h14 => ?_)
    · skip
      refine tr_iconst eX2_isOther_21 (nI 0) ci_0 ?_
      refine tr_ret eX2_isOther_22 rfl (by first | rfl | exact nar_bi _) ?_
      refine ⟨congrArg some ?_, rfl⟩
      first | (refine bi_t ?_; simp_all [s_oth]; done) | (refine bi_f ?_; simp_all [s_oth]; done)
    · skip
      refine tr_iconst eX2_isOther_17 (nI 1) ci_1 ?_
      refine tr_goto eX2_isOther_18 ?_
      refine tr_ret eX2_isOther_22 rfl (by first | rfl | exact nar_bi _) ?_
      refine ⟨congrArg some ?_, rfl⟩
      first | (refine bi_t ?_; simp_all [s_oth]; done) | (refine bi_f ?_; simp_all [s_oth]; done)

theorem k_X2_sendAway {σ : tSt} {v : Int32} (hv : vp_in v 40) (hh : ¬ v < 0 ∧ ¬ σ 18 (nI 6) ≤ v) : CT mX2_sendAway [.ref 19, .int v] σ (PE none (up σ 26 v (nI 1))) := by
  refine CT.of2 0 (by decide) rfl rfl ?_
  refine tr_aload_n eX2_sendAway_0 rfl ?_
  refine tr_getR eX2_sendAway_1 fk_X2_19 rfl rfl ?_
  refine tr_iload_n eX2_sendAway_4 rfl ?_
  refine tr_ce1 eX2_sendAway_5 zv_X5_has zi_X5_has lk_X2_27 ⟨rfl, by decide, by decide⟩ rfl rfl rfl k_X5_has ?_
  refine tr_if_eq eX2_sendAway_8 (fun h8 => ?_) (fun h8 => ?_)
  · skip
    try first | replace h8 := bi_0 h8 | replace h8 := bi_n h8
    exact absurd hh h8
  · skip
    try first | replace h8 := bi_0 h8 | replace h8 := bi_n h8
    refine tr_aload_n eX2_sendAway_11 rfl ?_
    refine tr_getR eX2_sendAway_12 fk_X2_9 rfl rfl ?_
    refine tr_iload_n eX2_sendAway_15 rfl ?_
    refine tr_iconst eX2_sendAway_16 (nI 1) ci_1 ?_
    refine tr_zast eX2_sendAway_17 rfl (by first | with_reducible assumption | with_reducible exact in_slot (by with_reducible assumption) (by with_reducible assumption) | with_reducible exact in_row _ (by decide) (by with_reducible assumption) | with_reducible exact in_row0 (by with_reducible assumption) | with_reducible exact in_slot0 (by with_reducible assumption) | (simp (disch := decide) only [up_k, up_s, up_f] <;> with_reducible assumption)) (by decide) ?_
    refine tr_vret eX2_sendAway_18 rfl ?_
    exact ⟨rfl, rfl⟩

theorem k_X2_regard {σ : tSt} {v : Int32} (hv : vp_in v 40) : CT mX2_regard [.ref 19, .int v] σ (PE none (up (up (up (up σ 19 (nI 3) v) 19 (nI 4) (s_kind σ v)) 19 (nI 5) (s_wing σ v)) 19 (nI 6) (s_need σ v))) := by
  refine CT.of2 0 (by decide) rfl rfl ?_
  refine tr_aload_n eX2_regard_0 rfl ?_
  refine tr_iload_n eX2_regard_1 rfl ?_
  refine tr_put eX2_regard_2 fp_X2_33 rfl rfl ?_
  refine tr_aload_n eX2_regard_5 rfl ?_
  refine tr_aload_n eX2_regard_6 rfl ?_
  refine tr_getR eX2_regard_7 fk_X2_19 rfl rfl ?_
  refine tr_iload_n eX2_regard_10 rfl ?_
  refine tr_ce1 eX2_regard_11 zv_X5_kindOf zi_X5_kindOf lk_X2_36 ⟨rfl, by decide, by decide⟩ rfl rfl rfl (k_X5_kindOf (by first | with_reducible assumption | with_reducible exact in_slot (by with_reducible assumption) (by with_reducible assumption) | with_reducible exact in_row _ (by decide) (by with_reducible assumption) | with_reducible exact in_row0 (by with_reducible assumption) | with_reducible exact in_slot0 (by with_reducible assumption) | (simp (disch := decide) only [up_k, up_s, up_f] <;> with_reducible assumption))) ?_
  try simp (disch := decide) only [up_k, up_s, up_f]
  refine tr_put eX2_regard_14 fp_X2_40 rfl rfl ?_
  refine tr_aload_n eX2_regard_17 rfl ?_
  refine tr_aload_n eX2_regard_18 rfl ?_
  refine tr_getR eX2_regard_19 fk_X2_19 rfl rfl ?_
  refine tr_iload_n eX2_regard_22 rfl ?_
  refine tr_ce1 eX2_regard_23 zv_X5_wingOf zi_X5_wingOf lk_X2_43 ⟨rfl, by decide, by decide⟩ rfl rfl rfl (k_X5_wingOf (by first | with_reducible assumption | with_reducible exact in_slot (by with_reducible assumption) (by with_reducible assumption) | with_reducible exact in_row _ (by decide) (by with_reducible assumption) | with_reducible exact in_row0 (by with_reducible assumption) | with_reducible exact in_slot0 (by with_reducible assumption) | (simp (disch := decide) only [up_k, up_s, up_f] <;> with_reducible assumption))) ?_
  try simp (disch := decide) only [up_k, up_s, up_f]
  refine tr_put eX2_regard_26 fp_X2_46 rfl rfl ?_
  refine tr_aload_n eX2_regard_29 rfl ?_
  refine tr_aload_n eX2_regard_30 rfl ?_
  refine tr_getR eX2_regard_31 fk_X2_19 rfl rfl ?_
  refine tr_iload_n eX2_regard_34 rfl ?_
  refine tr_ce1 eX2_regard_35 zv_X5_needOf zi_X5_needOf lk_X2_49 ⟨rfl, by decide, by decide⟩ rfl rfl rfl (k_X5_needOf (by first | with_reducible assumption | with_reducible exact in_slot (by with_reducible assumption) (by with_reducible assumption) | with_reducible exact in_row _ (by decide) (by with_reducible assumption) | with_reducible exact in_row0 (by with_reducible assumption) | with_reducible exact in_slot0 (by with_reducible assumption) | (simp (disch := decide) only [up_k, up_s, up_f] <;> with_reducible assumption))) ?_
  try simp (disch := decide) only [up_k, up_s, up_f]
  refine tr_put eX2_regard_38 fp_X2_52 rfl rfl ?_
  refine tr_vret eX2_regard_41 rfl ?_
  first | with_reducible exact ⟨rfl, rfl⟩ | (refine ⟨congrArg some ?_, rfl⟩; unfold bi; split <;> first | with_reducible rfl | (exfalso; simp_all; done) | (exfalso; simp only [Int32.lt_iff_toInt_lt, Int32.le_iff_toInt_le] at *; omega)) | exact ⟨rfl, rfl⟩

theorem k_X2_regardPlane {σ : tSt} {w : Int32} : CT mX2_regardPlane [.ref 19, .int w] σ (PE none (up (up (up (up σ 19 (nI 3) (-1)) 19 (nI 4) (nI 1)) 19 (nI 5) w) 19 (nI 6) (nI 0))) := by
  refine CT.of2 0 (by decide) rfl rfl ?_
  refine tr_aload_n eX2_regardPlane_0 rfl ?_
  refine tr_iconst eX2_regardPlane_1 (-1) ci_m1 ?_
  refine tr_put eX2_regardPlane_2 fp_X2_33 rfl rfl ?_
  refine tr_aload_n eX2_regardPlane_5 rfl ?_
  refine tr_iconst eX2_regardPlane_6 (nI 1) ci_1 ?_
  refine tr_put eX2_regardPlane_7 fp_X2_40 rfl rfl ?_
  refine tr_aload_n eX2_regardPlane_10 rfl ?_
  refine tr_iload_n eX2_regardPlane_11 rfl ?_
  refine tr_put eX2_regardPlane_12 fp_X2_46 rfl rfl ?_
  refine tr_aload_n eX2_regardPlane_15 rfl ?_
  refine tr_iconst eX2_regardPlane_16 (nI 0) ci_0 ?_
  refine tr_put eX2_regardPlane_17 fp_X2_52 rfl rfl ?_
  refine tr_vret eX2_regardPlane_20 rfl ?_
  first | with_reducible exact ⟨rfl, rfl⟩ | (refine ⟨congrArg some ?_, rfl⟩; unfold bi; split <;> first | with_reducible rfl | (exfalso; simp_all; done) | (exfalso; simp only [Int32.lt_iff_toInt_lt, Int32.le_iff_toInt_le] at *; omega)) | exact ⟨rfl, rfl⟩
end
section
def s_nbr (σ : tSt) (nP : Nat) (w u s a b : Int32) : Bool := an (fun k => s_hc a b (σ 14 (u * nI 8 + k)) (σ 15 (u * nI 8 + k)) && s_near σ nP s w (σ 13 (u * nI 8 + k)) (s_wing σ u)) (tn (σ 12 u)) 0
def s_fn (σ : tSt) (nP nV : Nat) (o : Int32 → Bool) (w s a b : Int32) : Int32 := fi (fun u => o u && s_nbr σ nP w u s a b) nV 0
def s_share (σ : tSt) (w u s : Int32) : Bool := decide (σ 1 s = nI 3) && decide (¬ σ 2 s / nI 2 < w) && decide (¬ σ 2 s / nI 2 < s_wing σ u)
def s_third (σ : tSt) (nV : Nat) (o : Int32 → Bool) (u s a b : Int32) : Bool := an (fun x => decide (¬ x = u) && o x && s_there σ x s a b) nV 0
def s_mx (a b : Int32) : Int32 := if a < b then b else a
def s_mn (a b : Int32) : Int32 := if b < a then b else a
def s_tk (σ : tSt) (nV : Nat) (o : Int32 → Bool) (w u s a b k : Int32) : Bool := s_sa σ u k s a b && (!s_share σ w u s || s_third σ nV o u s (s_mx a (σ 14 (u * nI 8 + k))) (s_mn b (σ 15 (u * nI 8 + k))))
def s_takes (σ : tSt) (nV : Nat) (o : Int32 → Bool) (w u s a b : Int32) : Bool := an (fun k => s_tk σ nV o w u s a b k) (tn (σ 12 u)) 0
def s_ft (σ : tSt) (nV : Nat) (o : Int32 → Bool) (w s a b : Int32) : Int32 := fi (fun u => o u && s_takes σ nV o w u s a b) nV 0
def s_gate (σ : tSt) (s : Int32) : Bool := decide (σ 1 s = nI 2 ∨ σ 1 s = nI 3)
def s_unf (σ : tSt) (kd nd s a b : Int32) : Bool := (decide (nd = nI 1) && !s_gate σ s) || (decide (nd = nI 2) && decide (¬ σ 1 s = nI 5)) || (decide (kd = nI 3) && s_gate σ s) || (decide (kd = nI 2) && decide (σ 1 s = nI 5)) || (decide (kd = nI 4) && s_gate σ s && s_hc a b (nI 1320) (nI 1560))
/-- what is against it, and by whom -/
def s_ag (σ : tSt) (nP nC nV : Nat) (o : Int32 → Bool) (kd w nd s a b : Int32) : Int32 × Int32 :=
  if σ 2 s < w then (nI 1, -1) else if s_unf σ kd nd s a b then (nI 2, -1) else if s_fn σ nP nV o w s a b ≠ -1 then (nI 3, s_fn σ nP nV o w s a b) else
  if s_fc σ nC s a b ≠ -1 then (nI 4, s_fc σ nC s a b) else if s_ft σ nV o w s a b ≠ -1 then (nI 5, s_ft σ nV o w s a b) else (nI 0, -1)
def cOK (σ : tSt) : Prop := ∀ u : Nat, u < 40 → ∃ c : Nat, c ≤ 8 ∧ σ 12 (nI u) = nI c
theorem lp_X2_isNeighbour_3 {σ : tSt} {u s a b : Int32} {n cc : Nat} (hu : vp_in u 40) (hc : σ 12 u = nI cc) (hc8 : cc ≤ 8) (hn : σ 17 (nI 10) = nI n) (hb : n ≤ 40) : ∀ f i : Nat, i + f = cc → TT mX2_isNeighbour 3 [.ref 19, .int u, .int s, .int a, .int b, .int (nI i)] [] σ (PE (some (bi (an (fun k => s_hc a b (σ 14 (u * nI 8 + k)) (σ 15 (u * nI 8 + k)) && s_near σ n s (σ 19 (nI 5)) (σ 13 (u * nI 8 + k)) (s_wing σ u)) f i = true))) σ) := by
  intro f
  induction f with
  | zero =>
    intro i hi
    refine tr_iload eX2_isNeighbour_3 rfl ?_
    refine tr_aload_n eX2_isNeighbour_5 rfl ?_
    refine tr_getR eX2_isNeighbour_6 fk_X2_19 rfl rfl ?_
    refine tr_getR eX2_isNeighbour_9 fk_X2_113 rfl rfl ?_
    refine tr_iload_n eX2_isNeighbour_12 rfl ?_
    refine tr_iald eX2_isNeighbour_13 rfl (by first | with_reducible assumption | with_reducible exact in_slot (by with_reducible assumption) (by with_reducible assumption) | with_reducible exact in_row _ (by decide) (by with_reducible assumption) | with_reducible exact in_row0 (by with_reducible assumption) | with_reducible exact in_slot0 (by with_reducible assumption) | (simp (disch := decide) only [up_k, up_s, up_f] <;> with_reducible assumption)) ?_
    refine tr_icmp_ge eX2_isNeighbour_14 (fun h14 => ?_) (fun h14 => ?_)
    · skip
      refine tr_iconst eX2_isNeighbour_87 (nI 0) ci_0 ?_
      refine tr_ret eX2_isNeighbour_88 rfl (by first | rfl | exact nar_bi _) ?_
      exact ⟨congrArg some (bi_f (by simp [an])), rfl⟩
    · skip
      exact absurd (lt_of hc (by omega) (by omega) h14) (by omega)
  | succ f ih =>
    intro i hi
    refine tr_iload eX2_isNeighbour_3 rfl ?_
    refine tr_aload_n eX2_isNeighbour_5 rfl ?_
    refine tr_getR eX2_isNeighbour_6 fk_X2_19 rfl rfl ?_
    refine tr_getR eX2_isNeighbour_9 fk_X2_113 rfl rfl ?_
    refine tr_iload_n eX2_isNeighbour_12 rfl ?_
    refine tr_iald eX2_isNeighbour_13 rfl (by first | with_reducible assumption | with_reducible exact in_slot (by with_reducible assumption) (by with_reducible assumption) | with_reducible exact in_row _ (by decide) (by with_reducible assumption) | with_reducible exact in_row0 (by with_reducible assumption) | with_reducible exact in_slot0 (by with_reducible assumption) | (simp (disch := decide) only [up_k, up_s, up_f] <;> with_reducible assumption)) ?_
    refine tr_icmp_ge eX2_isNeighbour_14 (fun h14 => ?_) (fun h14 => ?_)
    · skip
      exact absurd (ge_of hc (by omega) (by omega) h14) (by omega)
    · skip
      have g14 := lt_of hc (by omega) (by omega) h14
      have hk : vp_in (nI i) 8 := vp_in_nI (by omega) (by decide)
      refine tr_iload_n eX2_isNeighbour_17 rfl ?_
      refine tr_iload eX2_isNeighbour_18 rfl ?_
      refine tr_aload_n eX2_isNeighbour_20 rfl ?_
      refine tr_getR eX2_isNeighbour_21 fk_X2_19 rfl rfl ?_
      refine tr_iload_n eX2_isNeighbour_24 rfl ?_
      refine tr_iload eX2_isNeighbour_25 rfl ?_
      refine tr_ce2 eX2_isNeighbour_27 zv_X5_fromOf zi_X5_fromOf lk_X2_116 ⟨rfl, by decide, by decide⟩ rfl rfl rfl (k_X5_fromOf (by first | with_reducible assumption | with_reducible exact in_slot (by with_reducible assumption) (by with_reducible assumption) | with_reducible exact in_row _ (by decide) (by with_reducible assumption) | with_reducible exact in_row0 (by with_reducible assumption) | with_reducible exact in_slot0 (by with_reducible assumption) | (simp (disch := decide) only [up_k, up_s, up_f] <;> with_reducible assumption)) (by first | with_reducible assumption | with_reducible exact in_slot (by with_reducible assumption) (by with_reducible assumption) | with_reducible exact in_row _ (by decide) (by with_reducible assumption) | with_reducible exact in_row0 (by with_reducible assumption) | with_reducible exact in_slot0 (by with_reducible assumption) | (simp (disch := decide) only [up_k, up_s, up_f] <;> with_reducible assumption))) ?_
      refine tr_aload_n eX2_isNeighbour_30 rfl ?_
      refine tr_getR eX2_isNeighbour_31 fk_X2_19 rfl rfl ?_
      refine tr_iload_n eX2_isNeighbour_34 rfl ?_
      refine tr_iload eX2_isNeighbour_35 rfl ?_
      refine tr_ce2 eX2_isNeighbour_37 zv_X5_endOf zi_X5_endOf lk_X2_120 ⟨rfl, by decide, by decide⟩ rfl rfl rfl (k_X5_endOf (by first | with_reducible assumption | with_reducible exact in_slot (by with_reducible assumption) (by with_reducible assumption) | with_reducible exact in_row _ (by decide) (by with_reducible assumption) | with_reducible exact in_row0 (by with_reducible assumption) | with_reducible exact in_slot0 (by with_reducible assumption) | (simp (disch := decide) only [up_k, up_s, up_f] <;> with_reducible assumption)) (by first | with_reducible assumption | with_reducible exact in_slot (by with_reducible assumption) (by with_reducible assumption) | with_reducible exact in_row _ (by decide) (by with_reducible assumption) | with_reducible exact in_row0 (by with_reducible assumption) | with_reducible exact in_slot0 (by with_reducible assumption) | (simp (disch := decide) only [up_k, up_s, up_f] <;> with_reducible assumption))) ?_
      refine tr_se4 eX2_isNeighbour_40 zv_X6_haveCommonMinute zs_X6_haveCommonMinute lk_X2_100 ⟨rfl, by decide, by decide⟩ rfl k_X6_haveCommonMinute ?_
      refine tr_if_eq eX2_isNeighbour_43 (fun h43 => ?_) (fun h43 => ?_)
      · skip
        try first | replace h43 := bi_0 h43 | replace h43 := bi_n h43
        refine tr_iinc eX2_isNeighbour_81 _ (by first | exact inc_n _ | rfl) rfl (by decide) rfl ?_
        refine tr_goto eX2_isNeighbour_84 ?_
        refine lpA (by simp_all) (ih (i + 1) (by omega))
      · skip
        try first | replace h43 := bi_0 h43 | replace h43 := bi_n h43
        refine tr_aload_n eX2_isNeighbour_46 rfl ?_
        refine tr_getR eX2_isNeighbour_47 fk_X2_15 rfl rfl ?_
        refine tr_iload_n eX2_isNeighbour_50 rfl ?_
        refine tr_aload_n eX2_isNeighbour_51 rfl ?_
        refine tr_getI eX2_isNeighbour_52 fk_X2_46 rfl rfl ?_
        refine tr_aload_n eX2_isNeighbour_55 rfl ?_
        refine tr_getR eX2_isNeighbour_56 fk_X2_19 rfl rfl ?_
        refine tr_iload_n eX2_isNeighbour_59 rfl ?_
        refine tr_iload eX2_isNeighbour_60 rfl ?_
        refine tr_ce2 eX2_isNeighbour_62 zv_X5_standOf zi_X5_standOf lk_X2_123 ⟨rfl, by decide, by decide⟩ rfl rfl rfl (k_X5_standOf (by first | with_reducible assumption | with_reducible exact in_slot (by with_reducible assumption) (by with_reducible assumption) | with_reducible exact in_row _ (by decide) (by with_reducible assumption) | with_reducible exact in_row0 (by with_reducible assumption) | with_reducible exact in_slot0 (by with_reducible assumption) | (simp (disch := decide) only [up_k, up_s, up_f] <;> with_reducible assumption)) (by first | with_reducible assumption | with_reducible exact in_slot (by with_reducible assumption) (by with_reducible assumption) | with_reducible exact in_row _ (by decide) (by with_reducible assumption) | with_reducible exact in_row0 (by with_reducible assumption) | with_reducible exact in_slot0 (by with_reducible assumption) | (simp (disch := decide) only [up_k, up_s, up_f] <;> with_reducible assumption))) ?_
        refine tr_aload_n eX2_isNeighbour_65 rfl ?_
        refine tr_getR eX2_isNeighbour_66 fk_X2_19 rfl rfl ?_
        refine tr_iload_n eX2_isNeighbour_69 rfl ?_
        refine tr_ce1 eX2_isNeighbour_70 zv_X5_wingOf zi_X5_wingOf lk_X2_43 ⟨rfl, by decide, by decide⟩ rfl rfl rfl (k_X5_wingOf (by first | with_reducible assumption | with_reducible exact in_slot (by with_reducible assumption) (by with_reducible assumption) | with_reducible exact in_row _ (by decide) (by with_reducible assumption) | with_reducible exact in_row0 (by with_reducible assumption) | with_reducible exact in_slot0 (by with_reducible assumption) | (simp (disch := decide) only [up_k, up_s, up_f] <;> with_reducible assumption))) ?_
        refine tr_ce4 eX2_isNeighbour_73 zv_X1_areTooNear zi_X1_areTooNear lk_X2_126 ⟨rfl, by decide, by decide⟩ rfl rfl rfl (k_X1_areTooNear (by first | with_reducible assumption | with_reducible exact in_slot (by with_reducible assumption) (by with_reducible assumption) | with_reducible exact in_row _ (by decide) (by with_reducible assumption) | with_reducible exact in_row0 (by with_reducible assumption) | with_reducible exact in_slot0 (by with_reducible assumption) | (simp (disch := decide) only [up_k, up_s, up_f] <;> with_reducible assumption)) (by first | with_reducible assumption | with_reducible exact in_slot (by with_reducible assumption) (by with_reducible assumption) | with_reducible exact in_row _ (by decide) (by with_reducible assumption) | with_reducible exact in_row0 (by with_reducible assumption) | with_reducible exact in_slot0 (by with_reducible assumption) | (simp (disch := decide) only [up_k, up_s, up_f] <;> with_reducible assumption))) ?_
        refine tr_if_eq eX2_isNeighbour_76 (fun h76 => ?_) (fun h76 => ?_)
        · skip
          try first | replace h76 := bi_0 h76 | replace h76 := bi_n h76
          refine tr_iinc eX2_isNeighbour_81 _ (by first | exact inc_n _ | rfl) rfl (by decide) rfl ?_
          refine tr_goto eX2_isNeighbour_84 ?_
          refine lpA (by simp_all) (ih (i + 1) (by omega))
        · skip
          try first | replace h76 := bi_0 h76 | replace h76 := bi_n h76
          refine tr_iconst eX2_isNeighbour_79 (nI 1) ci_1 ?_
          refine tr_ret eX2_isNeighbour_80 rfl (by first | rfl | exact nar_bi _) ?_
          exact ⟨congrArg some (bi_t (an_t (by simp_all))), rfl⟩
theorem k_X2_isNeighbour {σ : tSt} {u s a b : Int32} {n cc : Nat} (hu : vp_in u 40) (hc : σ 12 u = nI cc) (hc8 : cc ≤ 8) (hn : σ 17 (nI 10) = nI n) (hb : n ≤ 40) : CT mX2_isNeighbour [.ref 19, .int u, .int s, .int a, .int b] σ (PE (some (bi (s_nbr σ n (σ 19 (nI 5)) u s a b = true))) σ) := by
  refine CT.of2 1 (by decide) rfl rfl ?_
  refine tr_iconst eX2_isNeighbour_0 (nI 0) ci_0 ?_
  refine tr_istore eX2_isNeighbour_1 (by decide) rfl ?_
  rw [s_nbr, tn_of hc (by omega)]
  exact lp_X2_isNeighbour_3 hu hc hc8 hn hb cc 0 (by omega)

theorem lp_X2_firstNeighbour_3 {σ : tSt} {s a b : Int32} {n nV : Nat} (hV : σ 18 (nI 6) = nI nV) (hV40 : nV ≤ 40) (hcc : cOK σ) (hn : σ 17 (nI 10) = nI n) (hb : n ≤ 40) : ∀ f i : Nat, i + f = nV → TT mX2_firstNeighbour 3 [.ref 19, .int s, .int a, .int b, .int (nI i)] [] σ (PE (some (fi (fun u => s_oth σ u && s_nbr σ n (σ 19 (nI 5)) u s a b) f i)) σ) := by
  intro f
  induction f with
  | zero =>
    intro i hi
    refine tr_iload eX2_firstNeighbour_3 rfl ?_
    refine tr_aload_n eX2_firstNeighbour_5 rfl ?_
    refine tr_getR eX2_firstNeighbour_6 fk_X2_19 rfl rfl ?_
    refine tr_getI eX2_firstNeighbour_9 fk_X2_104 rfl rfl ?_
    refine tr_icmp_ge eX2_firstNeighbour_12 (fun h12 => ?_) (fun h12 => ?_)
    · skip
      refine tr_iconst eX2_firstNeighbour_45 (-1) ci_m1 ?_
      refine tr_ret eX2_firstNeighbour_46 rfl rfl ?_
      exact ⟨rfl, rfl⟩
    · skip
      exact absurd (lt_of hV (by omega) (by omega) h12) (by omega)
  | succ f ih =>
    intro i hi
    refine tr_iload eX2_firstNeighbour_3 rfl ?_
    refine tr_aload_n eX2_firstNeighbour_5 rfl ?_
    refine tr_getR eX2_firstNeighbour_6 fk_X2_19 rfl rfl ?_
    refine tr_getI eX2_firstNeighbour_9 fk_X2_104 rfl rfl ?_
    refine tr_icmp_ge eX2_firstNeighbour_12 (fun h12 => ?_) (fun h12 => ?_)
    · skip
      exact absurd (ge_of hV (by omega) (by omega) h12) (by omega)
    · skip
      have g12 := lt_of hV (by omega) (by omega) h12
      have hu : vp_in (nI i) 40 := vp_in_nI (by omega) (by decide)
      obtain ⟨cc, hc8, hc⟩ := hcc i (by omega)
      refine tr_aload_n eX2_firstNeighbour_15 rfl ?_
      refine tr_iload eX2_firstNeighbour_16 rfl ?_
      refine tr_ce1 eX2_firstNeighbour_18 zv_X2_isOther zi_X2_isOther lk_X2_107 ⟨rfl, by decide, by decide⟩ rfl rfl rfl (k_X2_isOther (by first | with_reducible assumption | with_reducible exact in_slot (by with_reducible assumption) (by with_reducible assumption) | with_reducible exact in_row _ (by decide) (by with_reducible assumption) | with_reducible exact in_row0 (by with_reducible assumption) | with_reducible exact in_slot0 (by with_reducible assumption) | (simp (disch := decide) only [up_k, up_s, up_f] <;> with_reducible assumption))) ?_
      try simp (disch := decide) only [up_k, up_s, up_f]
      refine tr_if_eq eX2_firstNeighbour_21 (fun h21 => ?_) (fun h21 => ?_)
      · skip
        try first | replace h21 := bi_0 h21 | replace h21 := bi_n h21
        refine tr_iinc eX2_firstNeighbour_39 _ (by first | exact inc_n _ | rfl) rfl (by decide) rfl ?_
        refine tr_goto eX2_firstNeighbour_42 ?_
        refine lpF (by simp_all) (ih (i + 1) (by omega))
      · skip
        try first | replace h21 := bi_0 h21 | replace h21 := bi_n h21
        refine tr_aload_n eX2_firstNeighbour_24 rfl ?_
        refine tr_iload eX2_firstNeighbour_25 rfl ?_
        refine tr_iload_n eX2_firstNeighbour_27 rfl ?_
        refine tr_iload_n eX2_firstNeighbour_28 rfl ?_
        refine tr_iload_n eX2_firstNeighbour_29 rfl ?_
        refine tr_ce4 eX2_firstNeighbour_30 zv_X2_isNeighbour zi_X2_isNeighbour lk_X2_110 ⟨rfl, by decide, by decide⟩ rfl rfl rfl (k_X2_isNeighbour (by first | with_reducible assumption | with_reducible exact in_slot (by with_reducible assumption) (by with_reducible assumption) | with_reducible exact in_row _ (by decide) (by with_reducible assumption) | with_reducible exact in_row0 (by with_reducible assumption) | with_reducible exact in_slot0 (by with_reducible assumption) | (simp (disch := decide) only [up_k, up_s, up_f] <;> with_reducible assumption)) (by first | with_reducible assumption | with_reducible exact in_slot (by with_reducible assumption) (by with_reducible assumption) | with_reducible exact in_row _ (by decide) (by with_reducible assumption) | with_reducible exact in_row0 (by with_reducible assumption) | with_reducible exact in_slot0 (by with_reducible assumption) | (simp (disch := decide) only [up_k, up_s, up_f] <;> with_reducible assumption)) (by first | with_reducible assumption | with_reducible exact in_slot (by with_reducible assumption) (by with_reducible assumption) | with_reducible exact in_row _ (by decide) (by with_reducible assumption) | with_reducible exact in_row0 (by with_reducible assumption) | with_reducible exact in_slot0 (by with_reducible assumption) | (simp (disch := decide) only [up_k, up_s, up_f] <;> with_reducible assumption)) (by first | with_reducible assumption | with_reducible exact in_slot (by with_reducible assumption) (by with_reducible assumption) | with_reducible exact in_row _ (by decide) (by with_reducible assumption) | with_reducible exact in_row0 (by with_reducible assumption) | with_reducible exact in_slot0 (by with_reducible assumption) | (simp (disch := decide) only [up_k, up_s, up_f] <;> with_reducible assumption)) (by first | with_reducible assumption | with_reducible exact in_slot (by with_reducible assumption) (by with_reducible assumption) | with_reducible exact in_row _ (by decide) (by with_reducible assumption) | with_reducible exact in_row0 (by with_reducible assumption) | with_reducible exact in_slot0 (by with_reducible assumption) | (simp (disch := decide) only [up_k, up_s, up_f] <;> with_reducible assumption))) ?_
        try simp (disch := decide) only [up_k, up_s, up_f]
        refine tr_if_eq eX2_firstNeighbour_33 (fun h33 => ?_) (fun h33 => ?_)
        · skip
          try first | replace h33 := bi_0 h33 | replace h33 := bi_n h33
          refine tr_iinc eX2_firstNeighbour_39 _ (by first | exact inc_n _ | rfl) rfl (by decide) rfl ?_
          refine tr_goto eX2_firstNeighbour_42 ?_
          refine lpF (by simp_all) (ih (i + 1) (by omega))
        · skip
          try first | replace h33 := bi_0 h33 | replace h33 := bi_n h33
          refine tr_iload eX2_firstNeighbour_36 rfl ?_
          refine tr_ret eX2_firstNeighbour_38 rfl rfl ?_
          exact ⟨congrArg some (fi_t (by simp_all)), rfl⟩
theorem k_X2_firstNeighbour {σ : tSt} {s a b : Int32} {n nV : Nat} (hV : σ 18 (nI 6) = nI nV) (hV40 : nV ≤ 40) (hcc : cOK σ) (hn : σ 17 (nI 10) = nI n) (hb : n ≤ 40) : CT mX2_firstNeighbour [.ref 19, .int s, .int a, .int b] σ (PE (some (s_fn σ n nV (s_oth σ) (σ 19 (nI 5)) s a b)) σ) := by
  refine CT.of2 1 (by decide) rfl rfl ?_
  refine tr_iconst eX2_firstNeighbour_0 (nI 0) ci_0 ?_
  refine tr_istore eX2_firstNeighbour_1 (by decide) rfl ?_
  exact lp_X2_firstNeighbour_3 hV hV40 hcc hn hb nV 0 (by omega)

theorem k_X2_mayShare {σ : tSt} {u s : Int32} (hu : vp_in u 40) (hs : vp_in s 24) : CT mX2_mayShare [.ref 19, .int u, .int s] σ (PE (some (bi (s_share σ (σ 19 (nI 5)) u s = true))) σ) := by
  refine CT.of2 1 (by decide) rfl rfl ?_
  refine tr_aload_n eX2_mayShare_0 rfl ?_
  refine tr_getR eX2_mayShare_1 fk_X2_15 rfl rfl ?_
  refine tr_iload_n eX2_mayShare_4 rfl ?_
  refine tr_ce1 eX2_mayShare_5 zv_X1_halfOf zi_X1_halfOf lk_X2_140 ⟨rfl, by decide, by decide⟩ rfl rfl rfl (k_X1_halfOf (by first | with_reducible assumption | with_reducible exact in_slot (by with_reducible assumption) (by with_reducible assumption) | with_reducible exact in_row _ (by decide) (by with_reducible assumption) | with_reducible exact in_row0 (by with_reducible assumption) | with_reducible exact in_slot0 (by with_reducible assumption) | (simp (disch := decide) only [up_k, up_s, up_f] <;> with_reducible assumption))) ?_
  refine tr_istore_n eX2_mayShare_8 (by decide) rfl ?_
  refine tr_aload_n eX2_mayShare_9 rfl ?_
  refine tr_getR eX2_mayShare_10 fk_X2_15 rfl rfl ?_
  refine tr_getR eX2_mayShare_13 fk_X2_77 rfl rfl ?_
  refine tr_iload_n eX2_mayShare_16 rfl ?_
  refine tr_iald eX2_mayShare_17 rfl (by first | with_reducible assumption | with_reducible exact in_slot (by with_reducible assumption) (by with_reducible assumption) | with_reducible exact in_row _ (by decide) (by with_reducible assumption) | with_reducible exact in_row0 (by with_reducible assumption) | with_reducible exact in_slot0 (by with_reducible assumption) | (simp (disch := decide) only [up_k, up_s, up_f] <;> with_reducible assumption)) ?_
  refine tr_iconst eX2_mayShare_18 (nI 3) ci_3 ?_
  refine tr_icmp_ne eX2_mayShare_19 (fun h19 => ?_) (fun h19 => ?_)
  · skip
    refine tr_iconst eX2_mayShare_46 (nI 0) ci_0 ?_
    refine tr_ret eX2_mayShare_47 rfl (by first | rfl | exact nar_bi _) ?_
    refine ⟨congrArg some ?_, rfl⟩
    first | (refine bi_t ?_; simp_all [s_share]; done) | (refine bi_f ?_; simp_all [s_share]; done) | (refine bi_f ?_; simp_all [s_share]; simp only [Int32.lt_iff_toInt_lt, Int32.le_iff_toInt_le] at *; omega)
  · skip
    refine tr_aload_n eX2_mayShare_22 rfl ?_
    refine tr_getI eX2_mayShare_23 fk_X2_46 rfl rfl ?_
    refine tr_iload_n eX2_mayShare_26 rfl ?_
    refine tr_icmp_gt eX2_mayShare_27 (fun h27 => ?_) (fun h27 => ?_)
    · skip
      refine tr_iconst eX2_mayShare_46 (nI 0) ci_0 ?_
      refine tr_ret eX2_mayShare_47 rfl (by first | rfl | exact nar_bi _) ?_
      refine ⟨congrArg some ?_, rfl⟩
      first | (refine bi_t ?_; simp_all [s_share]; done) | (refine bi_f ?_; simp_all [s_share]; done) | (refine bi_f ?_; simp_all [s_share]; simp only [Int32.lt_iff_toInt_lt, Int32.le_iff_toInt_le] at *; omega)
    · skip
      refine tr_aload_n eX2_mayShare_30 rfl ?_
      refine tr_getR eX2_mayShare_31 fk_X2_19 rfl rfl ?_
      refine tr_iload_n eX2_mayShare_34 rfl ?_
      refine tr_ce1 eX2_mayShare_35 zv_X5_wingOf zi_X5_wingOf lk_X2_43 ⟨rfl, by decide, by decide⟩ rfl rfl rfl (k_X5_wingOf (by first | with_reducible assumption | with_reducible exact in_slot (by with_reducible assumption) (by with_reducible assumption) | with_reducible exact in_row _ (by decide) (by with_reducible assumption) | with_reducible exact in_row0 (by with_reducible assumption) | with_reducible exact in_slot0 (by with_reducible assumption) | (simp (disch := decide) only [up_k, up_s, up_f] <;> with_reducible assumption))) ?_
      refine tr_iload_n eX2_mayShare_38 rfl ?_
      refine tr_icmp_gt eX2_mayShare_39 (fun h39 => ?_) (fun h39 => ?_)
      · skip
        refine tr_iconst eX2_mayShare_46 (nI 0) ci_0 ?_
        refine tr_ret eX2_mayShare_47 rfl (by first | rfl | exact nar_bi _) ?_
        refine ⟨congrArg some ?_, rfl⟩
        first | (refine bi_t ?_; simp_all [s_share]; done) | (refine bi_f ?_; simp_all [s_share]; done) | (refine bi_f ?_; simp_all [s_share]; simp only [Int32.lt_iff_toInt_lt, Int32.le_iff_toInt_le] at *; omega)
      · skip
        refine tr_iconst eX2_mayShare_42 (nI 1) ci_1 ?_
        refine tr_goto eX2_mayShare_43 ?_
        refine tr_ret eX2_mayShare_47 rfl (by first | rfl | exact nar_bi _) ?_
        refine ⟨congrArg some ?_, rfl⟩
        first | (refine bi_t ?_; simp_all [s_share]; done) | (refine bi_f ?_; simp_all [s_share]; done) | (refine bi_f ?_; simp_all [s_share]; simp only [Int32.lt_iff_toInt_lt, Int32.le_iff_toInt_le] at *; omega)

theorem lp_X2_isThirdThere_60 {σ : tSt} {u k a b s ca cb : Int32} {nV : Nat} (hV : σ 18 (nI 6) = nI nV) (hV40 : nV ≤ 40) (hcc : cOK σ) {Q : Option Int32 → tSt → Prop} {x : Int32} {cc : Nat} (hx : vp_in x 40) (hc : σ 12 x = nI cc) (hc8 : cc ≤ 8) (hxu : ¬ x = u) (ho : s_oth σ x = true) :
    ∀ f j : Nat, j + f = cc → (an (fun j => s_sa σ x j s ca cb) f j = true → Q (some (nI 1)) σ) → (an (fun j => s_sa σ x j s ca cb) f j = false → TT mX2_isThirdThere 118 [.ref 19, .int u, .int k, .int a, .int b, .int s, .int ca, .int cb, .int x, .null] [] σ Q) → TT mX2_isThirdThere 60 [.ref 19, .int u, .int k, .int a, .int b, .int s, .int ca, .int cb, .int x, .int (nI j)] [] σ Q := by
  intro f
  induction f with
  | zero =>
    intro j hj kT kF
    refine tr_iload eX2_isThirdThere_60 rfl ?_
    refine tr_iload_n eX2_isThirdThere_62 rfl ?_
    refine tr_icmp_eq eX2_isThirdThere_63 (fun h63 => ?_) (fun h63 => ?_)
    · skip
      exact absurd h63 hxu
    · skip
      refine tr_aload_n eX2_isThirdThere_66 rfl ?_
      refine tr_iload eX2_isThirdThere_67 rfl ?_
      refine tr_ce1 eX2_isThirdThere_69 zv_X2_isOther zi_X2_isOther lk_X2_107 ⟨rfl, by decide, by decide⟩ rfl rfl rfl (k_X2_isOther (by first | with_reducible assumption | with_reducible exact in_slot (by with_reducible assumption) (by with_reducible assumption) | with_reducible exact in_row _ (by decide) (by with_reducible assumption) | with_reducible exact in_row0 (by with_reducible assumption) | with_reducible exact in_slot0 (by with_reducible assumption) | (simp (disch := decide) only [up_k, up_s, up_f] <;> with_reducible assumption))) ?_
      try simp (disch := decide) only [up_k, up_s, up_f]
      refine tr_if_eq eX2_isThirdThere_72 (fun h72 => ?_) (fun h72 => ?_)
      · skip
        try first | replace h72 := bi_0 h72 | replace h72 := bi_n h72
        exact absurd ho h72
      · skip
        try first | replace h72 := bi_0 h72 | replace h72 := bi_n h72
        refine tr_iload eX2_isThirdThere_75 rfl ?_
        refine tr_aload_n eX2_isThirdThere_77 rfl ?_
        refine tr_getR eX2_isThirdThere_78 fk_X2_19 rfl rfl ?_
        refine tr_getR eX2_isThirdThere_81 fk_X2_113 rfl rfl ?_
        refine tr_iload eX2_isThirdThere_84 rfl ?_
        refine tr_iald eX2_isThirdThere_86 rfl (by first | with_reducible assumption | with_reducible exact in_slot (by with_reducible assumption) (by with_reducible assumption) | with_reducible exact in_row _ (by decide) (by with_reducible assumption) | with_reducible exact in_row0 (by with_reducible assumption) | with_reducible exact in_slot0 (by with_reducible assumption) | (simp (disch := decide) only [up_k, up_s, up_f] <;> with_reducible assumption)) ?_
        try simp (disch := decide) only [up_k, up_s, up_f]
        refine tr_icmp_ge eX2_isThirdThere_87 (fun h87 => ?_) (fun h87 => ?_)
        · skip
          exact TT.fg [9] (kF rfl)
        · skip
          exact absurd (lt_of hc (by omega) (by omega) h87) (by omega)
  | succ f ih =>
    intro j hj kT kF
    refine tr_iload eX2_isThirdThere_60 rfl ?_
    refine tr_iload_n eX2_isThirdThere_62 rfl ?_
    refine tr_icmp_eq eX2_isThirdThere_63 (fun h63 => ?_) (fun h63 => ?_)
    · skip
      exact absurd h63 hxu
    · skip
      refine tr_aload_n eX2_isThirdThere_66 rfl ?_
      refine tr_iload eX2_isThirdThere_67 rfl ?_
      refine tr_ce1 eX2_isThirdThere_69 zv_X2_isOther zi_X2_isOther lk_X2_107 ⟨rfl, by decide, by decide⟩ rfl rfl rfl (k_X2_isOther (by first | with_reducible assumption | with_reducible exact in_slot (by with_reducible assumption) (by with_reducible assumption) | with_reducible exact in_row _ (by decide) (by with_reducible assumption) | with_reducible exact in_row0 (by with_reducible assumption) | with_reducible exact in_slot0 (by with_reducible assumption) | (simp (disch := decide) only [up_k, up_s, up_f] <;> with_reducible assumption))) ?_
      try simp (disch := decide) only [up_k, up_s, up_f]
      refine tr_if_eq eX2_isThirdThere_72 (fun h72 => ?_) (fun h72 => ?_)
      · skip
        try first | replace h72 := bi_0 h72 | replace h72 := bi_n h72
        exact absurd ho h72
      · skip
        try first | replace h72 := bi_0 h72 | replace h72 := bi_n h72
        refine tr_iload eX2_isThirdThere_75 rfl ?_
        refine tr_aload_n eX2_isThirdThere_77 rfl ?_
        refine tr_getR eX2_isThirdThere_78 fk_X2_19 rfl rfl ?_
        refine tr_getR eX2_isThirdThere_81 fk_X2_113 rfl rfl ?_
        refine tr_iload eX2_isThirdThere_84 rfl ?_
        refine tr_iald eX2_isThirdThere_86 rfl (by first | with_reducible assumption | with_reducible exact in_slot (by with_reducible assumption) (by with_reducible assumption) | with_reducible exact in_row _ (by decide) (by with_reducible assumption) | with_reducible exact in_row0 (by with_reducible assumption) | with_reducible exact in_slot0 (by with_reducible assumption) | (simp (disch := decide) only [up_k, up_s, up_f] <;> with_reducible assumption)) ?_
        try simp (disch := decide) only [up_k, up_s, up_f]
        refine tr_icmp_ge eX2_isThirdThere_87 (fun h87 => ?_) (fun h87 => ?_)
        · skip
          exact absurd (ge_of hc (by omega) (by omega) h87) (by omega)
        · skip
          have hk : vp_in (nI j) 8 := vp_in_nI (by have := lt_of hc (by omega) (by omega) h87; omega) (by decide)
          refine tr_aload_n eX2_isThirdThere_90 rfl ?_
          refine tr_getR eX2_isThirdThere_91 fk_X2_19 rfl rfl ?_
          refine tr_iload eX2_isThirdThere_94 rfl ?_
          refine tr_iload eX2_isThirdThere_96 rfl ?_
          refine tr_iload eX2_isThirdThere_98 rfl ?_
          refine tr_iload eX2_isThirdThere_100 rfl ?_
          refine tr_iload eX2_isThirdThere_102 rfl ?_
          refine tr_ce5 eX2_isThirdThere_104 zv_X5_isStayAt zi_X5_isStayAt lk_X2_129 ⟨rfl, by decide, by decide⟩ rfl rfl rfl (k_X5_isStayAt (by first | with_reducible assumption | with_reducible exact in_slot (by with_reducible assumption) (by with_reducible assumption) | with_reducible exact in_row _ (by decide) (by with_reducible assumption) | with_reducible exact in_row0 (by with_reducible assumption) | with_reducible exact in_slot0 (by with_reducible assumption) | (simp (disch := decide) only [up_k, up_s, up_f] <;> with_reducible assumption)) (by first | with_reducible assumption | with_reducible exact in_slot (by with_reducible assumption) (by with_reducible assumption) | with_reducible exact in_row _ (by decide) (by with_reducible assumption) | with_reducible exact in_row0 (by with_reducible assumption) | with_reducible exact in_slot0 (by with_reducible assumption) | (simp (disch := decide) only [up_k, up_s, up_f] <;> with_reducible assumption))) ?_
          try simp (disch := decide) only [up_k, up_s, up_f]
          refine tr_if_eq eX2_isThirdThere_107 (fun h107 => ?_) (fun h107 => ?_)
          · skip
            try first | replace h107 := bi_0 h107 | replace h107 := bi_n h107
            refine tr_iinc eX2_isThirdThere_112 _ (by first | exact inc_n _ | rfl) rfl (by decide) rfl ?_
            refine tr_goto eX2_isThirdThere_115 ?_
            exact ih (j + 1) (by omega) (fun h => kT (by simp_all [an])) (fun h => kF (by simp_all [an]))
          · skip
            try first | replace h107 := bi_0 h107 | replace h107 := bi_n h107
            refine tr_iconst eX2_isThirdThere_110 (nI 1) ci_1 ?_
            refine tr_ret eX2_isThirdThere_111 rfl (by first | rfl | exact nar_bi _) ?_
            exact kT (by simp_all [an])
theorem lp_X2_isThirdThere_45 {σ : tSt} {u k a b s ca cb : Int32} {nV : Nat} (hV : σ 18 (nI 6) = nI nV) (hV40 : nV ≤ 40) (hcc : cOK σ) : ∀ f i : Nat, i + f = nV → TT mX2_isThirdThere 45 [.ref 19, .int u, .int k, .int a, .int b, .int s, .int ca, .int cb, .int (nI i), .null] [] σ (PE (some (bi (an (fun x => decide (¬ x = u) && s_oth σ x && s_there σ x s ca cb) f i = true))) σ) := by
  intro f
  induction f with
  | zero =>
    intro i hi
    refine tr_iload eX2_isThirdThere_45 rfl ?_
    refine tr_aload_n eX2_isThirdThere_47 rfl ?_
    refine tr_getR eX2_isThirdThere_48 fk_X2_19 rfl rfl ?_
    refine tr_getI eX2_isThirdThere_51 fk_X2_104 rfl rfl ?_
    refine tr_icmp_ge eX2_isThirdThere_54 (fun h54 => ?_) (fun h54 => ?_)
    · skip
      refine tr_iconst eX2_isThirdThere_124 (nI 0) ci_0 ?_
      refine tr_ret eX2_isThirdThere_125 rfl (by first | rfl | exact nar_bi _) ?_
      exact ⟨congrArg some (bi_f (by simp [an])), rfl⟩
    · skip
      exact absurd (lt_of hV (by omega) (by omega) h54) (by omega)
  | succ f ih =>
    intro i hi
    refine tr_iload eX2_isThirdThere_45 rfl ?_
    refine tr_aload_n eX2_isThirdThere_47 rfl ?_
    refine tr_getR eX2_isThirdThere_48 fk_X2_19 rfl rfl ?_
    refine tr_getI eX2_isThirdThere_51 fk_X2_104 rfl rfl ?_
    refine tr_icmp_ge eX2_isThirdThere_54 (fun h54 => ?_) (fun h54 => ?_)
    · skip
      exact absurd (ge_of hV (by omega) (by omega) h54) (by omega)
    · skip
      have g54 := lt_of hV (by omega) (by omega) h54
      have hu : vp_in (nI i) 40 := vp_in_nI (by omega) (by decide)
      obtain ⟨cc, hc8, hc⟩ := hcc i (by omega)
      refine tr_iconst eX2_isThirdThere_57 (nI 0) ci_0 ?_
      refine tr_istore eX2_isThirdThere_58 (by decide) rfl ?_
      by_cases hxu : nI i = u
      · skip
        refine tr_iload eX2_isThirdThere_60 rfl ?_
        refine tr_iload_n eX2_isThirdThere_62 rfl ?_
        refine tr_icmp_eq eX2_isThirdThere_63 (fun h63 => ?_) (fun h63 => ?_)
        · skip
          refine tr_iinc eX2_isThirdThere_118 _ (by first | exact inc_n _ | rfl) rfl (by decide) rfl ?_
          refine tr_goto eX2_isThirdThere_121 ?_
          refine TT.fg [9] ?_
          refine lpA (by simp_all) (ih (i + 1) (by omega))
        · skip
          exact absurd hxu h63
      · by_cases ho : s_oth σ (nI i) = true
        · refine lp_X2_isThirdThere_60 hV hV40 hcc hu hc hc8 hxu ho cc 0 (by omega) (fun h => ?_) (fun h => ?_)
          · have e : s_there σ (nI i) s ca cb = true := by rw [s_there, tn_of hc (by omega)]; exact h
            exact ⟨congrArg some (bi_t (an_t (by simp_all))), rfl⟩
          · have e : s_there σ (nI i) s ca cb = false := by rw [s_there, tn_of hc (by omega)]; exact h
            refine tr_iinc eX2_isThirdThere_118 _ (by first | exact inc_n _ | rfl) rfl (by decide) rfl ?_
            refine tr_goto eX2_isThirdThere_121 ?_
            refine lpA (by simp_all) (ih (i + 1) (by omega))
        · skip
          refine tr_iload eX2_isThirdThere_60 rfl ?_
          refine tr_iload_n eX2_isThirdThere_62 rfl ?_
          refine tr_icmp_eq eX2_isThirdThere_63 (fun h63 => ?_) (fun h63 => ?_)
          · skip
            exact absurd h63 hxu
          · skip
            refine tr_aload_n eX2_isThirdThere_66 rfl ?_
            refine tr_iload eX2_isThirdThere_67 rfl ?_
            refine tr_ce1 eX2_isThirdThere_69 zv_X2_isOther zi_X2_isOther lk_X2_107 ⟨rfl, by decide, by decide⟩ rfl rfl rfl (k_X2_isOther (by first | with_reducible assumption | with_reducible exact in_slot (by with_reducible assumption) (by with_reducible assumption) | with_reducible exact in_row _ (by decide) (by with_reducible assumption) | with_reducible exact in_row0 (by with_reducible assumption) | with_reducible exact in_slot0 (by with_reducible assumption) | (simp (disch := decide) only [up_k, up_s, up_f] <;> with_reducible assumption))) ?_
            try simp (disch := decide) only [up_k, up_s, up_f]
            refine tr_if_eq eX2_isThirdThere_72 (fun h72 => ?_) (fun h72 => ?_)
            · skip
              try first | replace h72 := bi_0 h72 | replace h72 := bi_n h72
              refine tr_iinc eX2_isThirdThere_118 _ (by first | exact inc_n _ | rfl) rfl (by decide) rfl ?_
              refine tr_goto eX2_isThirdThere_121 ?_
              refine TT.fg [9] ?_
              refine lpA (by simp_all) (ih (i + 1) (by omega))
            · skip
              try first | replace h72 := bi_0 h72 | replace h72 := bi_n h72
              exact absurd h72 ho
theorem k_X2_isThirdThere {σ : tSt} {u k a b : Int32} {nV : Nat} (hu : vp_in u 40) (hk : vp_in k 8) (hV : σ 18 (nI 6) = nI nV) (hV40 : nV ≤ 40) (hcc : cOK σ) : CT mX2_isThirdThere [.ref 19, .int u, .int k, .int a, .int b] σ (PE (some (bi (s_third σ nV (s_oth σ) u (σ 13 (u * nI 8 + k)) (s_mx a (σ 14 (u * nI 8 + k))) (s_mn b (σ 15 (u * nI 8 + k))) = true))) σ) := by
  refine CT.of2 5 (by decide) rfl rfl ?_
  refine tr_aload_n eX2_isThirdThere_0 rfl ?_
  refine tr_getR eX2_isThirdThere_1 fk_X2_19 rfl rfl ?_
  refine tr_iload_n eX2_isThirdThere_4 rfl ?_
  refine tr_iload_n eX2_isThirdThere_5 rfl ?_
  refine tr_ce2 eX2_isThirdThere_6 zv_X5_standOf zi_X5_standOf lk_X2_123 ⟨rfl, by decide, by decide⟩ rfl rfl rfl (k_X5_standOf (by first | with_reducible assumption | with_reducible exact in_slot (by with_reducible assumption) (by with_reducible assumption) | with_reducible exact in_row _ (by decide) (by with_reducible assumption) | with_reducible exact in_row0 (by with_reducible assumption) | with_reducible exact in_slot0 (by with_reducible assumption) | (simp (disch := decide) only [up_k, up_s, up_f] <;> with_reducible assumption)) (by first | with_reducible assumption | with_reducible exact in_slot (by with_reducible assumption) (by with_reducible assumption) | with_reducible exact in_row _ (by decide) (by with_reducible assumption) | with_reducible exact in_row0 (by with_reducible assumption) | with_reducible exact in_slot0 (by with_reducible assumption) | (simp (disch := decide) only [up_k, up_s, up_f] <;> with_reducible assumption))) ?_
  refine tr_istore eX2_isThirdThere_9 (by decide) rfl ?_
  refine tr_iload_n eX2_isThirdThere_11 rfl ?_
  refine tr_aload_n eX2_isThirdThere_12 rfl ?_
  refine tr_getR eX2_isThirdThere_13 fk_X2_19 rfl rfl ?_
  refine tr_iload_n eX2_isThirdThere_16 rfl ?_
  refine tr_iload_n eX2_isThirdThere_17 rfl ?_
  refine tr_ce2 eX2_isThirdThere_18 zv_X5_fromOf zi_X5_fromOf lk_X2_116 ⟨rfl, by decide, by decide⟩ rfl rfl rfl (k_X5_fromOf (by first | with_reducible assumption | with_reducible exact in_slot (by with_reducible assumption) (by with_reducible assumption) | with_reducible exact in_row _ (by decide) (by with_reducible assumption) | with_reducible exact in_row0 (by with_reducible assumption) | with_reducible exact in_slot0 (by with_reducible assumption) | (simp (disch := decide) only [up_k, up_s, up_f] <;> with_reducible assumption)) (by first | with_reducible assumption | with_reducible exact in_slot (by with_reducible assumption) (by with_reducible assumption) | with_reducible exact in_row _ (by decide) (by with_reducible assumption) | with_reducible exact in_row0 (by with_reducible assumption) | with_reducible exact in_slot0 (by with_reducible assumption) | (simp (disch := decide) only [up_k, up_s, up_f] <;> with_reducible assumption))) ?_
  refine tr_max eX2_isThirdThere_21 lm_X2_143 wm_max_s wm_i wm_max_c (by decide) (Nat.le_of_ble_eq_true rfl) ?_
  refine tr_istore eX2_isThirdThere_24 (by decide) rfl ?_
  refine tr_iload eX2_isThirdThere_26 rfl ?_
  refine tr_aload_n eX2_isThirdThere_28 rfl ?_
  refine tr_getR eX2_isThirdThere_29 fk_X2_19 rfl rfl ?_
  refine tr_iload_n eX2_isThirdThere_32 rfl ?_
  refine tr_iload_n eX2_isThirdThere_33 rfl ?_
  refine tr_ce2 eX2_isThirdThere_34 zv_X5_endOf zi_X5_endOf lk_X2_120 ⟨rfl, by decide, by decide⟩ rfl rfl rfl (k_X5_endOf (by first | with_reducible assumption | with_reducible exact in_slot (by with_reducible assumption) (by with_reducible assumption) | with_reducible exact in_row _ (by decide) (by with_reducible assumption) | with_reducible exact in_row0 (by with_reducible assumption) | with_reducible exact in_slot0 (by with_reducible assumption) | (simp (disch := decide) only [up_k, up_s, up_f] <;> with_reducible assumption)) (by first | with_reducible assumption | with_reducible exact in_slot (by with_reducible assumption) (by with_reducible assumption) | with_reducible exact in_row _ (by decide) (by with_reducible assumption) | with_reducible exact in_row0 (by with_reducible assumption) | with_reducible exact in_slot0 (by with_reducible assumption) | (simp (disch := decide) only [up_k, up_s, up_f] <;> with_reducible assumption))) ?_
  refine tr_min eX2_isThirdThere_37 lm_X2_148 wm_min_s wm_i wm_min_c (by decide) (Nat.le_of_ble_eq_true rfl) ?_
  refine tr_istore eX2_isThirdThere_40 (by decide) rfl ?_
  refine tr_iconst eX2_isThirdThere_42 (nI 0) ci_0 ?_
  refine tr_istore eX2_isThirdThere_43 (by decide) rfl ?_
  exact lp_X2_isThirdThere_45 hV hV40 hcc nV 0 (by omega)

theorem lp_X2_firstTaker_18 {σ : tSt} {s a b : Int32} {nV : Nat} (hs : vp_in s 24) (hV : σ 18 (nI 6) = nI nV) (hV40 : nV ≤ 40) (hcc : cOK σ) {Q : Option Int32 → tSt → Prop} {x : Int32} {cc : Nat} (hx : vp_in x 40) (hc : σ 12 x = nI cc) (hc8 : cc ≤ 8) (ho : s_oth σ x = true) :
    ∀ f j : Nat, j + f = cc → (an (fun k => s_tk σ nV (s_oth σ) (σ 19 (nI 5)) x s a b k) f j = true → Q (some x) σ) → (an (fun k => s_tk σ nV (s_oth σ) (σ 19 (nI 5)) x s a b k) f j = false → TT mX2_firstTaker 91 [.ref 19, .int s, .int a, .int b, .int x, .null] [] σ Q) → TT mX2_firstTaker 18 [.ref 19, .int s, .int a, .int b, .int x, .int (nI j)] [] σ Q := by
  intro f
  induction f with
  | zero =>
    intro j hj kT kF
    refine tr_aload_n eX2_firstTaker_18 rfl ?_
    refine tr_iload eX2_firstTaker_19 rfl ?_
    refine tr_ce1 eX2_firstTaker_21 zv_X2_isOther zi_X2_isOther lk_X2_107 ⟨rfl, by decide, by decide⟩ rfl rfl rfl (k_X2_isOther (by first | with_reducible assumption | with_reducible exact in_slot (by with_reducible assumption) (by with_reducible assumption) | with_reducible exact in_row _ (by decide) (by with_reducible assumption) | with_reducible exact in_row0 (by with_reducible assumption) | with_reducible exact in_slot0 (by with_reducible assumption) | (simp (disch := decide) only [up_k, up_s, up_f] <;> with_reducible assumption))) ?_
    try simp (disch := decide) only [up_k, up_s, up_f]
    refine tr_if_eq eX2_firstTaker_24 (fun h24 => ?_) (fun h24 => ?_)
    · skip
      try first | replace h24 := bi_0 h24 | replace h24 := bi_n h24
      exact absurd ho h24
    · skip
      try first | replace h24 := bi_0 h24 | replace h24 := bi_n h24
      refine tr_iload eX2_firstTaker_27 rfl ?_
      refine tr_aload_n eX2_firstTaker_29 rfl ?_
      refine tr_getR eX2_firstTaker_30 fk_X2_19 rfl rfl ?_
      refine tr_getR eX2_firstTaker_33 fk_X2_113 rfl rfl ?_
      refine tr_iload eX2_firstTaker_36 rfl ?_
      refine tr_iald eX2_firstTaker_38 rfl (by first | with_reducible assumption | with_reducible exact in_slot (by with_reducible assumption) (by with_reducible assumption) | with_reducible exact in_row _ (by decide) (by with_reducible assumption) | with_reducible exact in_row0 (by with_reducible assumption) | with_reducible exact in_slot0 (by with_reducible assumption) | (simp (disch := decide) only [up_k, up_s, up_f] <;> with_reducible assumption)) ?_
      try simp (disch := decide) only [up_k, up_s, up_f]
      refine tr_icmp_ge eX2_firstTaker_39 (fun h39 => ?_) (fun h39 => ?_)
      · skip
        exact TT.fg [5] (kF rfl)
      · skip
        exact absurd (lt_of hc (by omega) (by omega) h39) (by omega)
  | succ f ih =>
    intro j hj kT kF
    refine tr_aload_n eX2_firstTaker_18 rfl ?_
    refine tr_iload eX2_firstTaker_19 rfl ?_
    refine tr_ce1 eX2_firstTaker_21 zv_X2_isOther zi_X2_isOther lk_X2_107 ⟨rfl, by decide, by decide⟩ rfl rfl rfl (k_X2_isOther (by first | with_reducible assumption | with_reducible exact in_slot (by with_reducible assumption) (by with_reducible assumption) | with_reducible exact in_row _ (by decide) (by with_reducible assumption) | with_reducible exact in_row0 (by with_reducible assumption) | with_reducible exact in_slot0 (by with_reducible assumption) | (simp (disch := decide) only [up_k, up_s, up_f] <;> with_reducible assumption))) ?_
    try simp (disch := decide) only [up_k, up_s, up_f]
    refine tr_if_eq eX2_firstTaker_24 (fun h24 => ?_) (fun h24 => ?_)
    · skip
      try first | replace h24 := bi_0 h24 | replace h24 := bi_n h24
      exact absurd ho h24
    · skip
      try first | replace h24 := bi_0 h24 | replace h24 := bi_n h24
      refine tr_iload eX2_firstTaker_27 rfl ?_
      refine tr_aload_n eX2_firstTaker_29 rfl ?_
      refine tr_getR eX2_firstTaker_30 fk_X2_19 rfl rfl ?_
      refine tr_getR eX2_firstTaker_33 fk_X2_113 rfl rfl ?_
      refine tr_iload eX2_firstTaker_36 rfl ?_
      refine tr_iald eX2_firstTaker_38 rfl (by first | with_reducible assumption | with_reducible exact in_slot (by with_reducible assumption) (by with_reducible assumption) | with_reducible exact in_row _ (by decide) (by with_reducible assumption) | with_reducible exact in_row0 (by with_reducible assumption) | with_reducible exact in_slot0 (by with_reducible assumption) | (simp (disch := decide) only [up_k, up_s, up_f] <;> with_reducible assumption)) ?_
      try simp (disch := decide) only [up_k, up_s, up_f]
      refine tr_icmp_ge eX2_firstTaker_39 (fun h39 => ?_) (fun h39 => ?_)
      · skip
        exact absurd (ge_of hc (by omega) (by omega) h39) (by omega)
      · skip
        have hk : vp_in (nI j) 8 := vp_in_nI (by have := lt_of hc (by omega) (by omega) h39; omega) (by decide)
        refine tr_aload_n eX2_firstTaker_42 rfl ?_
        refine tr_getR eX2_firstTaker_43 fk_X2_19 rfl rfl ?_
        refine tr_iload eX2_firstTaker_46 rfl ?_
        refine tr_iload eX2_firstTaker_48 rfl ?_
        refine tr_iload_n eX2_firstTaker_50 rfl ?_
        refine tr_iload_n eX2_firstTaker_51 rfl ?_
        refine tr_iload_n eX2_firstTaker_52 rfl ?_
        refine tr_ce5 eX2_firstTaker_53 zv_X5_isStayAt zi_X5_isStayAt lk_X2_129 ⟨rfl, by decide, by decide⟩ rfl rfl rfl (k_X5_isStayAt (by first | with_reducible assumption | with_reducible exact in_slot (by with_reducible assumption) (by with_reducible assumption) | with_reducible exact in_row _ (by decide) (by with_reducible assumption) | with_reducible exact in_row0 (by with_reducible assumption) | with_reducible exact in_slot0 (by with_reducible assumption) | (simp (disch := decide) only [up_k, up_s, up_f] <;> with_reducible assumption)) (by first | with_reducible assumption | with_reducible exact in_slot (by with_reducible assumption) (by with_reducible assumption) | with_reducible exact in_row _ (by decide) (by with_reducible assumption) | with_reducible exact in_row0 (by with_reducible assumption) | with_reducible exact in_slot0 (by with_reducible assumption) | (simp (disch := decide) only [up_k, up_s, up_f] <;> with_reducible assumption))) ?_
        try simp (disch := decide) only [up_k, up_s, up_f]
        refine tr_if_eq eX2_firstTaker_56 (fun h56 => ?_) (fun h56 => ?_)
        · skip
          try first | replace h56 := bi_0 h56 | replace h56 := bi_n h56
          refine tr_iinc eX2_firstTaker_85 _ (by first | exact inc_n _ | rfl) rfl (by decide) rfl ?_
          refine tr_goto eX2_firstTaker_88 ?_
          exact ih (j + 1) (by omega) (fun h => kT (by simp_all [an, s_tk])) (fun h => kF (by simp_all [an, s_tk]))
        · skip
          try first | replace h56 := bi_0 h56 | replace h56 := bi_n h56
          have e13 : σ 13 (x * nI 8 + nI j) = s := by have h := h56; simp only [s_sa, Bool.and_eq_true, decide_eq_true_eq] at h; exact h.1.1
          refine tr_aload_n eX2_firstTaker_59 rfl ?_
          refine tr_iload eX2_firstTaker_60 rfl ?_
          refine tr_iload_n eX2_firstTaker_62 rfl ?_
          refine tr_ce2 eX2_firstTaker_63 zv_X2_mayShare zi_X2_mayShare lk_X2_133 ⟨rfl, by decide, by decide⟩ rfl rfl rfl (k_X2_mayShare (by first | with_reducible assumption | with_reducible exact in_slot (by with_reducible assumption) (by with_reducible assumption) | with_reducible exact in_row _ (by decide) (by with_reducible assumption) | with_reducible exact in_row0 (by with_reducible assumption) | with_reducible exact in_slot0 (by with_reducible assumption) | (simp (disch := decide) only [up_k, up_s, up_f] <;> with_reducible assumption)) (by first | with_reducible assumption | with_reducible exact in_slot (by with_reducible assumption) (by with_reducible assumption) | with_reducible exact in_row _ (by decide) (by with_reducible assumption) | with_reducible exact in_row0 (by with_reducible assumption) | with_reducible exact in_slot0 (by with_reducible assumption) | (simp (disch := decide) only [up_k, up_s, up_f] <;> with_reducible assumption))) ?_
          try simp (disch := decide) only [up_k, up_s, up_f]
          refine tr_if_eq eX2_firstTaker_66 (fun h66 => ?_) (fun h66 => ?_)
          · skip
            try first | replace h66 := bi_0 h66 | replace h66 := bi_n h66
            refine tr_iload eX2_firstTaker_82 rfl ?_
            refine tr_ret eX2_firstTaker_84 rfl rfl ?_
            exact kT (by simp_all [an, s_tk])
          · skip
            try first | replace h66 := bi_0 h66 | replace h66 := bi_n h66
            refine tr_aload_n eX2_firstTaker_69 rfl ?_
            refine tr_iload eX2_firstTaker_70 rfl ?_
            refine tr_iload eX2_firstTaker_72 rfl ?_
            refine tr_iload_n eX2_firstTaker_74 rfl ?_
            refine tr_iload_n eX2_firstTaker_75 rfl ?_
            refine tr_ce4 eX2_firstTaker_76 zv_X2_isThirdThere zi_X2_isThirdThere lk_X2_137 ⟨rfl, by decide, by decide⟩ rfl rfl rfl (k_X2_isThirdThere (by first | with_reducible assumption | with_reducible exact in_slot (by with_reducible assumption) (by with_reducible assumption) | with_reducible exact in_row _ (by decide) (by with_reducible assumption) | with_reducible exact in_row0 (by with_reducible assumption) | with_reducible exact in_slot0 (by with_reducible assumption) | (simp (disch := decide) only [up_k, up_s, up_f] <;> with_reducible assumption)) (by first | with_reducible assumption | with_reducible exact in_slot (by with_reducible assumption) (by with_reducible assumption) | with_reducible exact in_row _ (by decide) (by with_reducible assumption) | with_reducible exact in_row0 (by with_reducible assumption) | with_reducible exact in_slot0 (by with_reducible assumption) | (simp (disch := decide) only [up_k, up_s, up_f] <;> with_reducible assumption)) (by first | with_reducible assumption | with_reducible exact in_slot (by with_reducible assumption) (by with_reducible assumption) | with_reducible exact in_row _ (by decide) (by with_reducible assumption) | with_reducible exact in_row0 (by with_reducible assumption) | with_reducible exact in_slot0 (by with_reducible assumption) | (simp (disch := decide) only [up_k, up_s, up_f] <;> with_reducible assumption)) (by first | with_reducible assumption | with_reducible exact in_slot (by with_reducible assumption) (by with_reducible assumption) | with_reducible exact in_row _ (by decide) (by with_reducible assumption) | with_reducible exact in_row0 (by with_reducible assumption) | with_reducible exact in_slot0 (by with_reducible assumption) | (simp (disch := decide) only [up_k, up_s, up_f] <;> with_reducible assumption)) (by first | with_reducible assumption | with_reducible exact in_slot (by with_reducible assumption) (by with_reducible assumption) | with_reducible exact in_row _ (by decide) (by with_reducible assumption) | with_reducible exact in_row0 (by with_reducible assumption) | with_reducible exact in_slot0 (by with_reducible assumption) | (simp (disch := decide) only [up_k, up_s, up_f] <;> with_reducible assumption))) ?_
            try simp (disch := decide) only [up_k, up_s, up_f]
            refine tr_if_eq eX2_firstTaker_79 (fun h79 => ?_) (fun h79 => ?_)
            · skip
              try first | replace h79 := bi_0 h79 | replace h79 := bi_n h79
              rw [e13] at h79
              refine tr_iinc eX2_firstTaker_85 _ (by first | exact inc_n _ | rfl) rfl (by decide) rfl ?_
              refine tr_goto eX2_firstTaker_88 ?_
              exact ih (j + 1) (by omega) (fun h => kT (by simp_all [an, s_tk])) (fun h => kF (by simp_all [an, s_tk]))
            · skip
              try first | replace h79 := bi_0 h79 | replace h79 := bi_n h79
              rw [e13] at h79
              refine tr_iload eX2_firstTaker_82 rfl ?_
              refine tr_ret eX2_firstTaker_84 rfl rfl ?_
              exact kT (by simp_all [an, s_tk])
theorem lp_X2_firstTaker_3 {σ : tSt} {s a b : Int32} {nV : Nat} (hs : vp_in s 24) (hV : σ 18 (nI 6) = nI nV) (hV40 : nV ≤ 40) (hcc : cOK σ) : ∀ f i : Nat, i + f = nV → TT mX2_firstTaker 3 [.ref 19, .int s, .int a, .int b, .int (nI i), .null] [] σ (PE (some (fi (fun u => s_oth σ u && s_takes σ nV (s_oth σ) (σ 19 (nI 5)) u s a b) f i)) σ) := by
  intro f
  induction f with
  | zero =>
    intro i hi
    refine tr_iload eX2_firstTaker_3 rfl ?_
    refine tr_aload_n eX2_firstTaker_5 rfl ?_
    refine tr_getR eX2_firstTaker_6 fk_X2_19 rfl rfl ?_
    refine tr_getI eX2_firstTaker_9 fk_X2_104 rfl rfl ?_
    refine tr_icmp_ge eX2_firstTaker_12 (fun h12 => ?_) (fun h12 => ?_)
    · skip
      refine tr_iconst eX2_firstTaker_97 (-1) ci_m1 ?_
      refine tr_ret eX2_firstTaker_98 rfl rfl ?_
      exact ⟨rfl, rfl⟩
    · skip
      exact absurd (lt_of hV (by omega) (by omega) h12) (by omega)
  | succ f ih =>
    intro i hi
    refine tr_iload eX2_firstTaker_3 rfl ?_
    refine tr_aload_n eX2_firstTaker_5 rfl ?_
    refine tr_getR eX2_firstTaker_6 fk_X2_19 rfl rfl ?_
    refine tr_getI eX2_firstTaker_9 fk_X2_104 rfl rfl ?_
    refine tr_icmp_ge eX2_firstTaker_12 (fun h12 => ?_) (fun h12 => ?_)
    · skip
      exact absurd (ge_of hV (by omega) (by omega) h12) (by omega)
    · skip
      have g12 := lt_of hV (by omega) (by omega) h12
      have hu : vp_in (nI i) 40 := vp_in_nI (by omega) (by decide)
      obtain ⟨cc, hc8, hc⟩ := hcc i (by omega)
      refine tr_iconst eX2_firstTaker_15 (nI 0) ci_0 ?_
      refine tr_istore eX2_firstTaker_16 (by decide) rfl ?_
      by_cases ho : s_oth σ (nI i) = true
      · refine lp_X2_firstTaker_18 hs hV hV40 hcc hu hc hc8 ho cc 0 (by omega) (fun h => ?_) (fun h => ?_)
        · have e : s_takes σ nV (s_oth σ) (σ 19 (nI 5)) (nI i) s a b = true := by rw [s_takes, tn_of hc (by omega)]; exact h
          exact ⟨congrArg some (fi_t (by simp_all)), rfl⟩
        · have e : s_takes σ nV (s_oth σ) (σ 19 (nI 5)) (nI i) s a b = false := by rw [s_takes, tn_of hc (by omega)]; exact h
          refine tr_iinc eX2_firstTaker_91 _ (by first | exact inc_n _ | rfl) rfl (by decide) rfl ?_
          refine tr_goto eX2_firstTaker_94 ?_
          refine lpF (by simp_all) (ih (i + 1) (by omega))
      · skip
        refine tr_aload_n eX2_firstTaker_18 rfl ?_
        refine tr_iload eX2_firstTaker_19 rfl ?_
        refine tr_ce1 eX2_firstTaker_21 zv_X2_isOther zi_X2_isOther lk_X2_107 ⟨rfl, by decide, by decide⟩ rfl rfl rfl (k_X2_isOther (by first | with_reducible assumption | with_reducible exact in_slot (by with_reducible assumption) (by with_reducible assumption) | with_reducible exact in_row _ (by decide) (by with_reducible assumption) | with_reducible exact in_row0 (by with_reducible assumption) | with_reducible exact in_slot0 (by with_reducible assumption) | (simp (disch := decide) only [up_k, up_s, up_f] <;> with_reducible assumption))) ?_
        try simp (disch := decide) only [up_k, up_s, up_f]
        refine tr_if_eq eX2_firstTaker_24 (fun h24 => ?_) (fun h24 => ?_)
        · skip
          try first | replace h24 := bi_0 h24 | replace h24 := bi_n h24
          refine tr_iinc eX2_firstTaker_91 _ (by first | exact inc_n _ | rfl) rfl (by decide) rfl ?_
          refine tr_goto eX2_firstTaker_94 ?_
          refine TT.fg [5] ?_
          refine lpF (by simp_all) (ih (i + 1) (by omega))
        · skip
          try first | replace h24 := bi_0 h24 | replace h24 := bi_n h24
          exact absurd h24 ho
theorem k_X2_firstTaker {σ : tSt} {s a b : Int32} {nV : Nat} (hs : vp_in s 24) (hV : σ 18 (nI 6) = nI nV) (hV40 : nV ≤ 40) (hcc : cOK σ) : CT mX2_firstTaker [.ref 19, .int s, .int a, .int b] σ (PE (some (s_ft σ nV (s_oth σ) (σ 19 (nI 5)) s a b)) σ) := by
  refine CT.of2 2 (by decide) rfl rfl ?_
  refine tr_iconst eX2_firstTaker_0 (nI 0) ci_0 ?_
  refine tr_istore eX2_firstTaker_1 (by decide) rfl ?_
  exact lp_X2_firstTaker_3 hs hV hV40 hcc nV 0 (by omega)
end

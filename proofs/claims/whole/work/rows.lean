section
-- ===== PART A: goes FIRST, ahead of the names: the tables' words, and 'selects' of the private methods out of them =====
/-- a private method of a class that the tables say can be made, by its rows of tables_1 -/
def lw_okq (q : MethodName × Nat) : Prop := (q.1.cls ≠ "java/lang/invoke/MethodHandle" ∧ q.1.cls ≠ "java/lang/invoke/VarHandle") ∧ Cond.instantiable q.1.cls q.2 ∈ tables_1 ∧ Cond.privateMethod q.1 ∈ tables_1 ∧ Cond.instanceMethod q.1 ∈ tables_1
theorem lw_p0 : lw_okq (⟨"RingSeesaw$Ring", "onRing", "(I)I"⟩, 2) := ⟨⟨by decide +kernel, by decide +kernel⟩, List.mem_of_getElem? (i := 22) (by decide +kernel), List.mem_of_getElem? (i := 149) (by decide +kernel), List.mem_of_getElem? (i := 150) (by decide +kernel)⟩
theorem lw_p1 : lw_okq (⟨"RingSeesaw", "keptRing", "(I)LRingSeesaw$Ring;"⟩, 6) := ⟨⟨by decide +kernel, by decide +kernel⟩, List.mem_of_getElem? (i := 14) (by decide +kernel), List.mem_of_getElem? (i := 181) (by decide +kernel), List.mem_of_getElem? (i := 182) (by decide +kernel)⟩
theorem lw_p2 : lw_okq (⟨"java/lang/Throwable", "fillInStackTrace", "(I)Ljava/lang/Throwable;"⟩, 6) := ⟨⟨by decide +kernel, by decide +kernel⟩, List.mem_of_getElem? (i := 223) (by decide +kernel), List.mem_of_getElem? (i := 221) (by decide +kernel), List.mem_of_getElem? (i := 222) (by decide +kernel)⟩
theorem lw_p3 : lw_okq (⟨"RingSeesaw", "fewestTo", "(LRingSeesaw$Ring;)I"⟩, 6) := ⟨⟨by decide +kernel, by decide +kernel⟩, List.mem_of_getElem? (i := 14) (by decide +kernel), List.mem_of_getElem? (i := 263) (by decide +kernel), List.mem_of_getElem? (i := 264) (by decide +kernel)⟩
theorem lw_p4 : lw_okq (⟨"RingSeesaw$Way", "firstClimb", "(LRingSeesaw$Ring;LRingSeesaw$Ring;)I"⟩, 2) := ⟨⟨by decide +kernel, by decide +kernel⟩, List.mem_of_getElem? (i := 37) (by decide +kernel), List.mem_of_getElem? (i := 272) (by decide +kernel), List.mem_of_getElem? (i := 273) (by decide +kernel)⟩
theorem lw_p5 : lw_okq (⟨"RingSeesaw$Way", "awayFrom", "(I)I"⟩, 2) := ⟨⟨by decide +kernel, by decide +kernel⟩, List.mem_of_getElem? (i := 37) (by decide +kernel), List.mem_of_getElem? (i := 285) (by decide +kernel), List.mem_of_getElem? (i := 286) (by decide +kernel)⟩
theorem lw_p6 : lw_okq (⟨"RingSeesaw", "tryToRest", "()I"⟩, 6) := ⟨⟨by decide +kernel, by decide +kernel⟩, List.mem_of_getElem? (i := 14) (by decide +kernel), List.mem_of_getElem? (i := 295) (by decide +kernel), List.mem_of_getElem? (i := 296) (by decide +kernel)⟩
theorem lw_p7 : lw_okq (⟨"RingSeesaw$Ring", "add", "(II)V"⟩, 2) := ⟨⟨by decide +kernel, by decide +kernel⟩, List.mem_of_getElem? (i := 22) (by decide +kernel), List.mem_of_getElem? (i := 312) (by decide +kernel), List.mem_of_getElem? (i := 313) (by decide +kernel)⟩
theorem lw_p8 : lw_okq (⟨"RingSeesaw", "spanAfter", "(II)I"⟩, 6) := ⟨⟨by decide +kernel, by decide +kernel⟩, List.mem_of_getElem? (i := 14) (by decide +kernel), List.mem_of_getElem? (i := 324) (by decide +kernel), List.mem_of_getElem? (i := 325) (by decide +kernel)⟩
theorem lw_p9 : lw_okq (⟨"RingSeesaw", "requireNumber", "(I)V"⟩, 6) := ⟨⟨by decide +kernel, by decide +kernel⟩, List.mem_of_getElem? (i := 14) (by decide +kernel), List.mem_of_getElem? (i := 363) (by decide +kernel), List.mem_of_getElem? (i := 364) (by decide +kernel)⟩
theorem lw_p10 : lw_okq (⟨"RingSeesaw", "firstPlaceFor", "(ILRingSeesaw$Ring;)I"⟩, 6) := ⟨⟨by decide +kernel, by decide +kernel⟩, List.mem_of_getElem? (i := 14) (by decide +kernel), List.mem_of_getElem? (i := 383) (by decide +kernel), List.mem_of_getElem? (i := 384) (by decide +kernel)⟩
theorem lw_p11 : lw_okq (⟨"RingSeesaw", "mixedWithPlaces", "(J)J"⟩, 6) := ⟨⟨by decide +kernel, by decide +kernel⟩, List.mem_of_getElem? (i := 14) (by decide +kernel), List.mem_of_getElem? (i := 388) (by decide +kernel), List.mem_of_getElem? (i := 389) (by decide +kernel)⟩
theorem lw_p12 : lw_okq (⟨"RingSeesaw", "mixedWithTargets", "(J)J"⟩, 6) := ⟨⟨by decide +kernel, by decide +kernel⟩, List.mem_of_getElem? (i := 14) (by decide +kernel), List.mem_of_getElem? (i := 392) (by decide +kernel), List.mem_of_getElem? (i := 393) (by decide +kernel)⟩
theorem lw_p13 : lw_okq (⟨"RingSeesaw", "requirePlace", "(I)V"⟩, 6) := ⟨⟨by decide +kernel, by decide +kernel⟩, List.mem_of_getElem? (i := 14) (by decide +kernel), List.mem_of_getElem? (i := 421) (by decide +kernel), List.mem_of_getElem? (i := 422) (by decide +kernel)⟩
theorem lw_p14 : lw_okq (⟨"RingSeesaw", "requireTimes", "(I)V"⟩, 6) := ⟨⟨by decide +kernel, by decide +kernel⟩, List.mem_of_getElem? (i := 14) (by decide +kernel), List.mem_of_getElem? (i := 433) (by decide +kernel), List.mem_of_getElem? (i := 434) (by decide +kernel)⟩
theorem lw_p15 : lw_okq (⟨"RingSeesaw", "requireWayTo", "(LRingSeesaw$Ring;)V"⟩, 6) := ⟨⟨by decide +kernel, by decide +kernel⟩, List.mem_of_getElem? (i := 14) (by decide +kernel), List.mem_of_getElem? (i := 477) (by decide +kernel), List.mem_of_getElem? (i := 478) (by decide +kernel)⟩
def lw_privs_1 : List (MethodName × Nat) := [(⟨"RingSeesaw$Ring", "onRing", "(I)I"⟩, 2), (⟨"RingSeesaw", "keptRing", "(I)LRingSeesaw$Ring;"⟩, 6), (⟨"java/lang/Throwable", "fillInStackTrace", "(I)Ljava/lang/Throwable;"⟩, 6), (⟨"RingSeesaw", "fewestTo", "(LRingSeesaw$Ring;)I"⟩, 6), (⟨"RingSeesaw$Way", "firstClimb", "(LRingSeesaw$Ring;LRingSeesaw$Ring;)I"⟩, 2), (⟨"RingSeesaw$Way", "awayFrom", "(I)I"⟩, 2), (⟨"RingSeesaw", "tryToRest", "()I"⟩, 6), (⟨"RingSeesaw$Ring", "add", "(II)V"⟩, 2), (⟨"RingSeesaw", "spanAfter", "(II)I"⟩, 6), (⟨"RingSeesaw", "requireNumber", "(I)V"⟩, 6), (⟨"RingSeesaw", "firstPlaceFor", "(ILRingSeesaw$Ring;)I"⟩, 6), (⟨"RingSeesaw", "mixedWithPlaces", "(J)J"⟩, 6), (⟨"RingSeesaw", "mixedWithTargets", "(J)J"⟩, 6), (⟨"RingSeesaw", "requirePlace", "(I)V"⟩, 6), (⟨"RingSeesaw", "requireTimes", "(I)V"⟩, 6), (⟨"RingSeesaw", "requireWayTo", "(LRingSeesaw$Ring;)V"⟩, 6)]
theorem lw_r1 : ∀ q ∈ lw_privs_1, lw_okq q := List.forall_mem_cons.mpr ⟨lw_p0, List.forall_mem_cons.mpr ⟨lw_p1, List.forall_mem_cons.mpr ⟨lw_p2, List.forall_mem_cons.mpr ⟨lw_p3, List.forall_mem_cons.mpr ⟨lw_p4, List.forall_mem_cons.mpr ⟨lw_p5, List.forall_mem_cons.mpr ⟨lw_p6, List.forall_mem_cons.mpr ⟨lw_p7, List.forall_mem_cons.mpr ⟨lw_p8, List.forall_mem_cons.mpr ⟨lw_p9, List.forall_mem_cons.mpr ⟨lw_p10, List.forall_mem_cons.mpr ⟨lw_p11, List.forall_mem_cons.mpr ⟨lw_p12, List.forall_mem_cons.mpr ⟨lw_p13, List.forall_mem_cons.mpr ⟨lw_p14, List.forall_mem_cons.mpr ⟨lw_p15, fun _ h => absurd h List.not_mem_nil⟩⟩⟩⟩⟩⟩⟩⟩⟩⟩⟩⟩⟩⟩⟩⟩
theorem lw_p16 : lw_okq (⟨"RingSeesawModel", "no", "(I)I"⟩, 8) := ⟨⟨by decide +kernel, by decide +kernel⟩, List.mem_of_getElem? (i := 550) (by decide +kernel), List.mem_of_getElem? (i := 592) (by decide +kernel), List.mem_of_getElem? (i := 593) (by decide +kernel)⟩
theorem lw_p17 : lw_okq (⟨"RingSeesawModel", "isPlace", "(I)Z"⟩, 8) := ⟨⟨by decide +kernel, by decide +kernel⟩, List.mem_of_getElem? (i := 550) (by decide +kernel), List.mem_of_getElem? (i := 600) (by decide +kernel), List.mem_of_getElem? (i := 601) (by decide +kernel)⟩
theorem lw_p18 : lw_okq (⟨"RingSeesawModel", "lean", "([III)V"⟩, 8) := ⟨⟨by decide +kernel, by decide +kernel⟩, List.mem_of_getElem? (i := 550) (by decide +kernel), List.mem_of_getElem? (i := 608) (by decide +kernel), List.mem_of_getElem? (i := 609) (by decide +kernel)⟩
theorem lw_p19 : lw_okq (⟨"RingSeesawModel", "on", "(II)I"⟩, 8) := ⟨⟨by decide +kernel, by decide +kernel⟩, List.mem_of_getElem? (i := 550) (by decide +kernel), List.mem_of_getElem? (i := 612) (by decide +kernel), List.mem_of_getElem? (i := 613) (by decide +kernel)⟩
theorem lw_p20 : lw_okq (⟨"RingSeesawModel", "ok", "(I)I"⟩, 8) := ⟨⟨by decide +kernel, by decide +kernel⟩, List.mem_of_getElem? (i := 550) (by decide +kernel), List.mem_of_getElem? (i := 621) (by decide +kernel), List.mem_of_getElem? (i := 622) (by decide +kernel)⟩
theorem lw_p21 : lw_okq (⟨"RingSeesawModel", "settled", "([II)I"⟩, 8) := ⟨⟨by decide +kernel, by decide +kernel⟩, List.mem_of_getElem? (i := 550) (by decide +kernel), List.mem_of_getElem? (i := 636) (by decide +kernel), List.mem_of_getElem? (i := 637) (by decide +kernel)⟩
theorem lw_p22 : lw_okq (⟨"RingSeesawModel", "firstSteep", "([I)I"⟩, 8) := ⟨⟨by decide +kernel, by decide +kernel⟩, List.mem_of_getElem? (i := 550) (by decide +kernel), List.mem_of_getElem? (i := 640) (by decide +kernel), List.mem_of_getElem? (i := 641) (by decide +kernel)⟩
theorem lw_p23 : lw_okq (⟨"RingSeesawModel", "steep", "([II)Z"⟩, 8) := ⟨⟨by decide +kernel, by decide +kernel⟩, List.mem_of_getElem? (i := 550) (by decide +kernel), List.mem_of_getElem? (i := 644) (by decide +kernel), List.mem_of_getElem? (i := 645) (by decide +kernel)⟩
theorem lw_p24 : lw_okq (⟨"RingSeesawModel", "sumOf", "()I"⟩, 8) := ⟨⟨by decide +kernel, by decide +kernel⟩, List.mem_of_getElem? (i := 550) (by decide +kernel), List.mem_of_getElem? (i := 668) (by decide +kernel), List.mem_of_getElem? (i := 669) (by decide +kernel)⟩
theorem lw_p25 : lw_okq (⟨"RingSeesawModel", "turning", "()I"⟩, 8) := ⟨⟨by decide +kernel, by decide +kernel⟩, List.mem_of_getElem? (i := 550) (by decide +kernel), List.mem_of_getElem? (i := 676) (by decide +kernel), List.mem_of_getElem? (i := 677) (by decide +kernel)⟩
theorem lw_p26 : lw_okq (⟨"RingSeesawModel", "wide", "([I)I"⟩, 8) := ⟨⟨by decide +kernel, by decide +kernel⟩, List.mem_of_getElem? (i := 550) (by decide +kernel), List.mem_of_getElem? (i := 685) (by decide +kernel), List.mem_of_getElem? (i := 686) (by decide +kernel)⟩
theorem lw_p27 : lw_okq (⟨"RingSeesawModel", "top", "()I"⟩, 8) := ⟨⟨by decide +kernel, by decide +kernel⟩, List.mem_of_getElem? (i := 550) (by decide +kernel), List.mem_of_getElem? (i := 697) (by decide +kernel), List.mem_of_getElem? (i := 698) (by decide +kernel)⟩
theorem lw_p28 : lw_okq (⟨"RingSeesawModel", "isNot", "(I)Z"⟩, 8) := ⟨⟨by decide +kernel, by decide +kernel⟩, List.mem_of_getElem? (i := 550) (by decide +kernel), List.mem_of_getElem? (i := 705) (by decide +kernel), List.mem_of_getElem? (i := 706) (by decide +kernel)⟩
theorem lw_p29 : lw_okq (⟨"RingSeesawModel", "manySteep", "()I"⟩, 8) := ⟨⟨by decide +kernel, by decide +kernel⟩, List.mem_of_getElem? (i := 550) (by decide +kernel), List.mem_of_getElem? (i := 713) (by decide +kernel), List.mem_of_getElem? (i := 714) (by decide +kernel)⟩
theorem lw_p30 : lw_okq (⟨"RingSeesawModel", "tiltOn", "(I)I"⟩, 8) := ⟨⟨by decide +kernel, by decide +kernel⟩, List.mem_of_getElem? (i := 550) (by decide +kernel), List.mem_of_getElem? (i := 725) (by decide +kernel), List.mem_of_getElem? (i := 726) (by decide +kernel)⟩
theorem lw_p31 : lw_okq (⟨"RingSeesawModel", "level", "()I"⟩, 8) := ⟨⟨by decide +kernel, by decide +kernel⟩, List.mem_of_getElem? (i := 550) (by decide +kernel), List.mem_of_getElem? (i := 733) (by decide +kernel), List.mem_of_getElem? (i := 734) (by decide +kernel)⟩
def lw_privs_2 : List (MethodName × Nat) := [(⟨"RingSeesawModel", "no", "(I)I"⟩, 8), (⟨"RingSeesawModel", "isPlace", "(I)Z"⟩, 8), (⟨"RingSeesawModel", "lean", "([III)V"⟩, 8), (⟨"RingSeesawModel", "on", "(II)I"⟩, 8), (⟨"RingSeesawModel", "ok", "(I)I"⟩, 8), (⟨"RingSeesawModel", "settled", "([II)I"⟩, 8), (⟨"RingSeesawModel", "firstSteep", "([I)I"⟩, 8), (⟨"RingSeesawModel", "steep", "([II)Z"⟩, 8), (⟨"RingSeesawModel", "sumOf", "()I"⟩, 8), (⟨"RingSeesawModel", "turning", "()I"⟩, 8), (⟨"RingSeesawModel", "wide", "([I)I"⟩, 8), (⟨"RingSeesawModel", "top", "()I"⟩, 8), (⟨"RingSeesawModel", "isNot", "(I)Z"⟩, 8), (⟨"RingSeesawModel", "manySteep", "()I"⟩, 8), (⟨"RingSeesawModel", "tiltOn", "(I)I"⟩, 8), (⟨"RingSeesawModel", "level", "()I"⟩, 8)]
theorem lw_r2 : ∀ q ∈ lw_privs_2, lw_okq q := List.forall_mem_cons.mpr ⟨lw_p16, List.forall_mem_cons.mpr ⟨lw_p17, List.forall_mem_cons.mpr ⟨lw_p18, List.forall_mem_cons.mpr ⟨lw_p19, List.forall_mem_cons.mpr ⟨lw_p20, List.forall_mem_cons.mpr ⟨lw_p21, List.forall_mem_cons.mpr ⟨lw_p22, List.forall_mem_cons.mpr ⟨lw_p23, List.forall_mem_cons.mpr ⟨lw_p24, List.forall_mem_cons.mpr ⟨lw_p25, List.forall_mem_cons.mpr ⟨lw_p26, List.forall_mem_cons.mpr ⟨lw_p27, List.forall_mem_cons.mpr ⟨lw_p28, List.forall_mem_cons.mpr ⟨lw_p29, List.forall_mem_cons.mpr ⟨lw_p30, List.forall_mem_cons.mpr ⟨lw_p31, fun _ h => absurd h List.not_mem_nil⟩⟩⟩⟩⟩⟩⟩⟩⟩⟩⟩⟩⟩⟩⟩⟩
theorem lw_p32 : lw_okq (⟨"RingSeesawModel", "flattest", "()I"⟩, 8) := ⟨⟨by decide +kernel, by decide +kernel⟩, List.mem_of_getElem? (i := 550) (by decide +kernel), List.mem_of_getElem? (i := 741) (by decide +kernel), List.mem_of_getElem? (i := 742) (by decide +kernel)⟩
theorem lw_p33 : lw_okq (⟨"RingSeesawModel", "isTarget", "(I)Z"⟩, 8) := ⟨⟨by decide +kernel, by decide +kernel⟩, List.mem_of_getElem? (i := 550) (by decide +kernel), List.mem_of_getElem? (i := 749) (by decide +kernel), List.mem_of_getElem? (i := 750) (by decide +kernel)⟩
theorem lw_p34 : lw_okq (⟨"RingSeesawModel", "goal", "(II)I"⟩, 8) := ⟨⟨by decide +kernel, by decide +kernel⟩, List.mem_of_getElem? (i := 550) (by decide +kernel), List.mem_of_getElem? (i := 753) (by decide +kernel), List.mem_of_getElem? (i := 754) (by decide +kernel)⟩
theorem lw_p35 : lw_okq (⟨"RingSeesawModel", "others", "(I)I"⟩, 8) := ⟨⟨by decide +kernel, by decide +kernel⟩, List.mem_of_getElem? (i := 550) (by decide +kernel), List.mem_of_getElem? (i := 761) (by decide +kernel), List.mem_of_getElem? (i := 762) (by decide +kernel)⟩
theorem lw_p36 : lw_okq (⟨"RingSeesawModel", "solves", "(I)Z"⟩, 8) := ⟨⟨by decide +kernel, by decide +kernel⟩, List.mem_of_getElem? (i := 550) (by decide +kernel), List.mem_of_getElem? (i := 769) (by decide +kernel), List.mem_of_getElem? (i := 770) (by decide +kernel)⟩
theorem lw_p37 : lw_okq (⟨"RingSeesawModel", "around", "(II)I"⟩, 8) := ⟨⟨by decide +kernel, by decide +kernel⟩, List.mem_of_getElem? (i := 550) (by decide +kernel), List.mem_of_getElem? (i := 773) (by decide +kernel), List.mem_of_getElem? (i := 774) (by decide +kernel)⟩
theorem lw_p38 : lw_okq (⟨"RingSeesawModel", "manySolved", "()I"⟩, 8) := ⟨⟨by decide +kernel, by decide +kernel⟩, List.mem_of_getElem? (i := 550) (by decide +kernel), List.mem_of_getElem? (i := 781) (by decide +kernel), List.mem_of_getElem? (i := 782) (by decide +kernel)⟩
theorem lw_p39 : lw_okq (⟨"RingSeesawModel", "fewest", "(I)I"⟩, 8) := ⟨⟨by decide +kernel, by decide +kernel⟩, List.mem_of_getElem? (i := 550) (by decide +kernel), List.mem_of_getElem? (i := 793) (by decide +kernel), List.mem_of_getElem? (i := 794) (by decide +kernel)⟩
theorem lw_p40 : lw_okq (⟨"RingSeesawModel", "near", "()I"⟩, 8) := ⟨⟨by decide +kernel, by decide +kernel⟩, List.mem_of_getElem? (i := 550) (by decide +kernel), List.mem_of_getElem? (i := 806) (by decide +kernel), List.mem_of_getElem? (i := 807) (by decide +kernel)⟩
theorem lw_p41 : lw_okq (⟨"RingSeesawModel", "rest", "()I"⟩, 8) := ⟨⟨by decide +kernel, by decide +kernel⟩, List.mem_of_getElem? (i := 550) (by decide +kernel), List.mem_of_getElem? (i := 814) (by decide +kernel), List.mem_of_getElem? (i := 815) (by decide +kernel)⟩
theorem lw_p42 : lw_okq (⟨"RingSeesawModel", "look", "()V"⟩, 8) := ⟨⟨by decide +kernel, by decide +kernel⟩, List.mem_of_getElem? (i := 550) (by decide +kernel), List.mem_of_getElem? (i := 818) (by decide +kernel), List.mem_of_getElem? (i := 819) (by decide +kernel)⟩
theorem lw_p43 : lw_okq (⟨"RingSeesawModel", "wideAtRest", "()I"⟩, 8) := ⟨⟨by decide +kernel, by decide +kernel⟩, List.mem_of_getElem? (i := 550) (by decide +kernel), List.mem_of_getElem? (i := 826) (by decide +kernel), List.mem_of_getElem? (i := 827) (by decide +kernel)⟩
theorem lw_p44 : lw_okq (⟨"RingSeesawModel", "wideWith", "(II)I"⟩, 8) := ⟨⟨by decide +kernel, by decide +kernel⟩, List.mem_of_getElem? (i := 550) (by decide +kernel), List.mem_of_getElem? (i := 834) (by decide +kernel), List.mem_of_getElem? (i := 835) (by decide +kernel)⟩
theorem lw_p45 : lw_okq (⟨"RingSeesawModel", "best", "()I"⟩, 8) := ⟨⟨by decide +kernel, by decide +kernel⟩, List.mem_of_getElem? (i := 550) (by decide +kernel), List.mem_of_getElem? (i := 842) (by decide +kernel), List.mem_of_getElem? (i := 843) (by decide +kernel)⟩
theorem lw_p46 : lw_okq (⟨"RingSeesawModel", "fits", "(I)I"⟩, 8) := ⟨⟨by decide +kernel, by decide +kernel⟩, List.mem_of_getElem? (i := 550) (by decide +kernel), List.mem_of_getElem? (i := 850) (by decide +kernel), List.mem_of_getElem? (i := 851) (by decide +kernel)⟩
def lw_privs_3 : List (MethodName × Nat) := [(⟨"RingSeesawModel", "flattest", "()I"⟩, 8), (⟨"RingSeesawModel", "isTarget", "(I)Z"⟩, 8), (⟨"RingSeesawModel", "goal", "(II)I"⟩, 8), (⟨"RingSeesawModel", "others", "(I)I"⟩, 8), (⟨"RingSeesawModel", "solves", "(I)Z"⟩, 8), (⟨"RingSeesawModel", "around", "(II)I"⟩, 8), (⟨"RingSeesawModel", "manySolved", "()I"⟩, 8), (⟨"RingSeesawModel", "fewest", "(I)I"⟩, 8), (⟨"RingSeesawModel", "near", "()I"⟩, 8), (⟨"RingSeesawModel", "rest", "()I"⟩, 8), (⟨"RingSeesawModel", "look", "()V"⟩, 8), (⟨"RingSeesawModel", "wideAtRest", "()I"⟩, 8), (⟨"RingSeesawModel", "wideWith", "(II)I"⟩, 8), (⟨"RingSeesawModel", "best", "()I"⟩, 8), (⟨"RingSeesawModel", "fits", "(I)I"⟩, 8)]
theorem lw_r3 : ∀ q ∈ lw_privs_3, lw_okq q := List.forall_mem_cons.mpr ⟨lw_p32, List.forall_mem_cons.mpr ⟨lw_p33, List.forall_mem_cons.mpr ⟨lw_p34, List.forall_mem_cons.mpr ⟨lw_p35, List.forall_mem_cons.mpr ⟨lw_p36, List.forall_mem_cons.mpr ⟨lw_p37, List.forall_mem_cons.mpr ⟨lw_p38, List.forall_mem_cons.mpr ⟨lw_p39, List.forall_mem_cons.mpr ⟨lw_p40, List.forall_mem_cons.mpr ⟨lw_p41, List.forall_mem_cons.mpr ⟨lw_p42, List.forall_mem_cons.mpr ⟨lw_p43, List.forall_mem_cons.mpr ⟨lw_p44, List.forall_mem_cons.mpr ⟨lw_p45, List.forall_mem_cons.mpr ⟨lw_p46, fun _ h => absurd h List.not_mem_nil⟩⟩⟩⟩⟩⟩⟩⟩⟩⟩⟩⟩⟩⟩⟩
def lw_privs : List (MethodName × Nat) := lw_privs_1 ++ (lw_privs_2 ++ (lw_privs_3))
def lw_tbl : List Cond := k2_sels lw_privs ++ tables_1
theorem lw_privs_ok : ∀ q ∈ lw_privs, lw_okq q := by
  show ∀ q ∈ lw_privs_1 ++ (lw_privs_2 ++ (lw_privs_3)), lw_okq q
  exact List.forall_mem_append.mpr ⟨lw_r1, List.forall_mem_append.mpr ⟨lw_r2, lw_r3⟩⟩
/-- the streams that the claim lets the run draw from -/
abbrev lw_cs : List Choice := [Jvm.Choice.named "NaN.bits"]
theorem lw_bits : nanBits ∈ lw_cs := by first | decide | exact List.mem_cons_self | simp [lw_cs, nanBits]
end
section
/-! ===== BEGIN words of one list among another's, by their places ===== -/
theorem goodIn_r {big : List Cond} (ws : List Cond) (ps : List Nat) (hp : ws = ps.filterMap (fun i => big[i]?)) (h : ws.all goodWord = true) : GoodIn big ws := by
  intro w hw
  have h1 := List.all_eq_true.mp h w hw
  rw [hp] at hw
  obtain ⟨i, -, hi⟩ := List.mem_filterMap.mp hw
  have hm : w ∈ big := by first | exact List.mem_of_getElem? hi | exact List.getElem?_mem hi
  exact ⟨hm, good_of_word h1⟩
theorem goodIn_app {big a b : List Cond} (ha : GoodIn big a) (hb : GoodIn big b) : GoodIn big (a ++ b) := fun w h => (List.mem_append.mp h).elim (ha w) (hb w)
theorem goodIn_ca {big a b : List Cond} {c : Cond} (ha : GoodIn big (c :: a)) (hb : GoodIn big b) : GoodIn big (c :: (a ++ b)) := fun w h => (List.mem_cons.mp h).elim (fun e => ha w (List.mem_cons.mpr (Or.inl e))) (fun h => (List.mem_append.mp h).elim (fun h => ha w (List.mem_cons.mpr (Or.inr h))) (hb w))
theorem goodIn_sub {big ws : List Cond} (hm : ∀ w ∈ ws, w ∈ big) (h : ws.all goodWord = true) : GoodIn big ws := fun w hw => ⟨hm w hw, good_of_word (List.all_eq_true.mp h w hw)⟩
/-! ===== END ===== -/

/-! ===== BEGIN exceptions that leave a method, and their catching by the caller (launches without stack traces) ===== -/
section VXA
/-! The laws vx_back, vx_callV, vx_callS, vx_callSW, vx_throw0, vx_throwS follow proofs of the library, with one case more: JvmDerived/Free/Laws.lean (Back.of_free), Shelf42/LK1.lean (callV, callS), Shelf/KitTraced.lean (throwNew0V, throwNewS). -/
/-- where a method has thrown q: the class by its name, the cell, what was written, the world -/
def vx_T (XC : String → State → State → Prop) (st : State) (q : Addr) (t : State) (mc ms : Nat) (free : Addr → Prop) : Prop :=
  ∃ (E : String) (ce : Cell) (L : List Loc), XC E st t ∧ t.heap[q]? = some ce ∧ ce.vm = .none ∧ st.vm.findClass E = some ce.cls ∧ st.WarmedH t.vm ∧ st.sameButNew ({ t with vm := st.vm } : State) L mc ms ∧ ∀ z ∈ L, free z.base
def vx_Q (Qc : Array Value → State → Outcome → State → Prop) (XC : String → State → State → Prop) (mc ms : Nat) (free : Addr → Prop) : Array Value → State → Outcome → State → Prop := fun a st o t =>
  (Qc a st o t ∧ ∃ L, FrameEnd st o t L mc ms ∧ ∀ q ∈ L, free q.base) ∨ ∃ q, o = .threw q ∧ vx_T XC st q t mc ms free
/-- a callee that returns or throws -/
def vx_Met (l : Launch) (y : MethodName) (ws : List Cond) (rm : Room) (Pc : Array Value → State → Prop) (Qc : Array Value → State → Outcome → State → Prop) (XC : String → State → State → Prop) (mc ms : Nat) (free : Addr → Prop) : Prop :=
  MetFree l y (headSpec ws rm) Pc (fun _ _ _ _ _ => True) (vx_Q Qc XC mc ms free)
def vx_Post (XC : String → State → State → Prop) (mc ms : Nat) (free : Addr → Prop) : Pt → Array Value → Addr → Pt → Prop := fun A a q B =>
  ∃ (g : JFrame) (mk : MethodId) (t : State) (L : List Loc) (E : String) (ce : Cell), B.U.heap = t.heap ∧ B.U.vm = t.vm ∧ XC E (A.U.calling g mk a) t ∧ t.heap[q]? = some ce ∧ ce.vm = .none ∧ A.U.vm.findClass E = some ce.cls ∧ B.locs = A.locs ++ L ∧ (∀ z ∈ L, free z.base) ∧ B.cells = A.cells + mc ∧ B.slots = A.slots + ms
def vx_Back (l : Launch) (R : Room) (p : Program) (e : Env) (below : List Frame) (s : State) (sargs : Array Value) (y : MethodName) (len W9 : Nat)
    (Pre : Pt → Array Value → Prop) (Post : Pt → Array Value → Option Value → Pt → Prop) (PostX : Pt → Array Value → Addr → Pt → Prop) : Prop :=
  ∀ (m : MethodId) (meth : Method) (c : Code) (A : Pt) (g : JFrame) (ig : Instr) (mk : MethodId) (a : Array Value),
    Stand p l e R s m sargs below meth c A.U A.locs A.cells A.slots → g.method = m → g.locals.size = c.maxLocals → decode c.code g.pc = .ok (ig, len) →
    2 * g.monitorRoom + (g.stack.map fun v => v.category).sum ≤ W9 → A.U.methodNamed? y = some mk → Pre A a →
    (∃ (v : Option Value) (B : Pt), Stand p l e R s m sargs below meth c B.U B.locs B.cells B.slots ∧ Post A a v B ∧
      Steps p.tables e below (doInvoke e (A.U.setTop g) [] mk a).1 (B.U.setTop { g with pc := g.pc + len, stack := v.toList ++ g.stack })) ∨
    (∃ (q : Addr) (B : Pt), Stand p l e R s m sargs below meth c B.U B.locs B.cells B.slots ∧ PostX A a q B ∧
      Steps p.tables e below (doInvoke e (A.U.setTop g) [] mk a).1 ((B.U.setTop g).pushFrame (.throwing q)))
section Payer
variable {l : Launch} {R : Room} {p : Program} {e : Env} {below : List Frame} {s : State} {sargs : Array Value} {y : MethodName} {len W9 : Nat}
theorem vx_back {ws : List Cond} {rm : Room} {Pc : Array Value → State → Prop} {Qc : Array Value → State → Outcome → State → Prop} {XC : String → State → State → Prop} {mc ms : Nat} {free : Addr → Prop} {bytes : ByteArray} {maxL : Nat} {ret : Option FieldType}
    (hM : vx_Met l y ws rm Pc Qc XC mc ms free) (hblind : FrameBlind Pc) (hrc : rm.cells = mc) (hrs : rm.slots = ms)
    (hframes : rm.frames + 1 ≤ R.frames) (hlocals : W9 + (maxL + 11) + rm.locals ≤ R.locals)
    (hws : ∀ w ∈ ws, ∀ a' U, s.WarmedH U.vm → w.before a' U = true) (hcode : Cond.code y bytes maxL ret ∈ ws) (hinit : ∀ a' U, s.WarmedH U.vm → (Cond.initialized y.cls).before a' U = true) :
    vx_Back l R p e below s sargs y len W9 (PreOf R mc ms Pc) (PostOf Qc mc ms free) (vx_Post XC mc ms free) := by
  intro m meth c A g ig mk a X hg hsize hdg hW hn hp
  have h1 : (headSpec ws rm).pre.before a A.U = true := atoms_intro fun w hw => hws w hw _ _ X.warmed
  have h2 : (Cond.code y bytes maxL ret).before a A.U = true := hws _ hcode _ _ X.warmed
  have h3 : (Cond.initialized y.cls).before a A.U = true := hinit _ _ X.warmed
  have h4 : A.cells + (headSpec ws rm).room.cells ≤ R.cells := by rw [show (headSpec ws rm).room.cells = mc from hrc]; exact hp.1
  have h5 : A.slots + (headSpec ws rm).room.slots ≤ R.slots := by rw [show (headSpec ws rm).room.slots = ms from hrs]; exact hp.2.1
  have hPc : Pc a (A.U.calling g mk a) := hblind _ _ _ _ hp.2.2
  obtain ⟨U, Ls, c0, s0⟩ := A
  dsimp only [Pt.U, Pt.locs, Pt.cells, Pt.slots] at h1 h2 h3 h4 h5 X hn hPc ⊢
  obtain ⟨methY, cY, hmY, hcY, -, hlY, -, -, -, -⟩ := Cond.code_spec hn h2
  obtain ⟨kY, hkY, -⟩ := className_of_methodNamed hn
  have hinitY : kY.init = .initialized := Cond.initialized_spec (findClass_of_methodNamed hn) hkY h3
  have h : At U g.method c below := by rw [hg]; exact X.here
  have hlocals9 : W9 + (maxL + 11) + (headSpec ws rm).room.locals ≤ R.locals := hlocals
  have happ : (headSpec ws rm).appliesLoose y e.platform (U.calling g mk a) = true :=
    Spec.appliesLoose_calling (g := g) h hdg hn hkY hinitY
      (X.room_calling (g := g) (R' := (headSpec ws rm).room) hsize hmY hcY hframes (by rw [hlY]; omega) h4 h5) h1
  obtain ⟨mid, hmid⟩ := h.above
  have hfr : (U.setTop g).frames = (.java g :: mid) ++ below := by rw [State.frames_setTop' g h.top, hmid]; rfl
  obtain ⟨o, s₂, hsteps, -, hend, hq⟩ := Steps.callFree hM p X.admits X.cas X.clock (acts := []) hfr happ hPc trivial
  have hq' : vx_Q Qc XC mc ms free a (U.calling g mk a) o s₂ := hq
  rw [State.frames_setTop' g h.top] at hend
  obtain ⟨g₀, hg0⟩ := Option.isSome_iff_exists.mp h.top
  obtain ⟨r, hr⟩ := State.topJava?_eq_some.mp hg0
  have hr' : (({ U with heap := s₂.heap, slotsUsed := s₂.slotsUsed } : State).setVm s₂.vm).frames = .java g₀ :: r := hr
  rcases hq' with ⟨hqc, L, hfe, hL⟩ | ⟨q, rfl, E, ce, L, hx, hce, hcv, hcl, hW₂, hsm, hL⟩
  · obtain ⟨⟨v, rfl⟩, hW₂, e2, q2, q3, q4, q5, q6⟩ := id hfe
    have e3 : s₂ = ({ (U.calling g mk a).setFrames s₂.frames with heap := s₂.heap, slotsUsed := s₂.slotsUsed } : State).setVm s₂.vm := by
      have : s₂ = ({ s₂ with vm := (U.calling g mk a).vm } : State).setVm s₂.vm := rfl
      rw [e2] at this
      exact this
    obtain ⟨c₂, i₂, len₂, hc₂, hd₂, hf₂⟩ := hend
    have hW' : U.WarmedH s₂.vm := hW₂
    have hcc : c₂ = c := by
      have h1 : s₂.code? g.method = U.code? g.method := by
        rw [State.code?_eq, State.code?_eq, hW'.alike.method?]
      exact Option.some.inj (hc₂.symm.trans (h1.trans h.code))
    subst hcc
    have hlen : len₂ = len := by rw [hdg] at hd₂; cases hd₂; rfl
    subst hlen
    have hs₂ : s₂ = (({ U with heap := s₂.heap, slotsUsed := s₂.slotsUsed } : State).setVm s₂.vm).setTop { g with pc := g.pc + len₂, stack := v.toList ++ g.stack } := by
      refine e3.trans ?_
      rw [hf₂, State.calling_eq h.top, State.setFrames_setFrames, State.setTop_of_frames _ hr', hr]
      rfl
    have hsame : U.sameButNew ({ U with heap := s₂.heap, slotsUsed := s₂.slotsUsed } : State) L mc ms := by
      refine ⟨?_, q2, q3, q4, q5, q6⟩
      obtain ⟨t, ht, -⟩ := State.frames_cons hr
      show ({ U with heap := s₂.heap, slotsUsed := s₂.slotsUsed } : State) = { U.setFrames U.frames with heap := s₂.heap, slotsUsed := s₂.slotsUsed }
      rw [State.setFrames_self ht]
    subst hg
    refine Or.inl ⟨v, ⟨(({ U with heap := s₂.heap, slotsUsed := s₂.slotsUsed } : State).setVm s₂.vm), Ls ++ L, c0 + mc, s0 + ms⟩,
      ⟨X.admits, X.cas, X.clock, X.frames, X.room, X.hears, X.method, X.code, (X.here.setHeapUsed s₂.heap s₂.slotsUsed).setVm hW'.alike, X.tail, State.WarmedH.trans X.warmed hW', X.limits, X.bytes, X.same.trans (hsame.setVm s.vm)⟩,
      ⟨g, mk, s₂, L, rfl, rfl, hqc, rfl, hL, rfl, rfl⟩, ?_⟩
    show Steps p.tables e below _ ((({ U with heap := s₂.heap, slotsUsed := s₂.slotsUsed } : State).setVm s₂.vm).setTop { g with pc := g.pc + len₂, stack := v.toList ++ g.stack })
    rw [← hs₂]
    exact hsteps
  · obtain ⟨e2, q2, q3, q4, q5, q6⟩ := id hsm
    have e3 : s₂ = ({ (U.calling g mk a).setFrames s₂.frames with heap := s₂.heap, slotsUsed := s₂.slotsUsed } : State).setVm s₂.vm := by
      have : s₂ = ({ s₂ with vm := (U.calling g mk a).vm } : State).setVm s₂.vm := rfl
      rw [e2] at this
      exact this
    have hf₂ : s₂.frames = .throwing q :: .java g :: U.frames.tail := hend
    have hW' : U.WarmedH s₂.vm := hW₂
    have hs₂ : s₂ = ((({ U with heap := s₂.heap, slotsUsed := s₂.slotsUsed } : State).setVm s₂.vm).setTop g).pushFrame (.throwing q) := by
      refine e3.trans ?_
      rw [hf₂, State.calling_eq h.top, State.setFrames_setFrames, State.pushFrame, State.frames_setTop _ hr', State.setTop_of_frames _ hr', State.setFrames_setFrames, hr]
      rfl
    have hsame : U.sameButNew ({ U with heap := s₂.heap, slotsUsed := s₂.slotsUsed } : State) L mc ms := by
      refine ⟨?_, q2, q3, q4, q5, q6⟩
      obtain ⟨t, ht, -⟩ := State.frames_cons hr
      show ({ U with heap := s₂.heap, slotsUsed := s₂.slotsUsed } : State) = { U.setFrames U.frames with heap := s₂.heap, slotsUsed := s₂.slotsUsed }
      rw [State.setFrames_self ht]
    subst hg
    refine Or.inr ⟨q, ⟨(({ U with heap := s₂.heap, slotsUsed := s₂.slotsUsed } : State).setVm s₂.vm), Ls ++ L, c0 + mc, s0 + ms⟩,
      ⟨X.admits, X.cas, X.clock, X.frames, X.room, X.hears, X.method, X.code, (X.here.setHeapUsed s₂.heap s₂.slotsUsed).setVm hW'.alike, X.tail, State.WarmedH.trans X.warmed hW', X.limits, X.bytes, X.same.trans (hsame.setVm s.vm)⟩,
      ⟨g, mk, s₂, L, E, ce, rfl, rfl, hx, hce, hcv, hcl, rfl, hL, rfl, rfl⟩, ?_⟩
    show Steps p.tables e below _ (((({ U with heap := s₂.heap, slotsUsed := s₂.slotsUsed } : State).setVm s₂.vm).setTop g).pushFrame (.throwing q))
    rw [← hs₂]
    exact hsteps
end Payer
section Calls
variable {p : Program} {l : Launch} {e : Env} {R : Room} {s : State} {m : MethodId} {args : Array Value} {below : List Frame} {meth : Method} {c : Code} {T : State} {locs : List Loc} {cells slots : Nat}
theorem vx_callV (X : Stand p l e R s m args below meth c T locs cells slots) (hexec : p.tables.exec = Jvm.exec) {own C : String} {index : Nat} {y : MethodName} {bytes : ByteArray} {maxL : Nat} {ret : Option FieldType}
    (hown : s.vm.findClass own = some m.cls) (hlink : (Cond.methodLink own index y).before args s = true) (hinst : (Cond.instanceMethod y).before args s = true) (hsel : (Cond.selects C y y).before args s = true)
    (hcode : (Cond.code y bytes maxL ret).before args s = true) (hy : y.cls ≠ "java/lang/invoke/MethodHandle" ∧ y.cls ≠ "java/lang/invoke/VarHandle")
    {W9 : Nat} {Pre : Pt → Array Value → Prop} {Post : Pt → Array Value → Option Value → Pt → Prop} {PostX : Pt → Array Value → Addr → Pt → Prop} (hK : vx_Back l R p e below s args y 3 W9 Pre Post PostX)
    {b : Addr} {cellB : Cell} (hcell : T.heap[b]? = some cellB) (hobj : cellB.vm.isStatics = false) (hcls : s.vm.findClass C = some cellB.cls)
    {g : JFrame} (hg : g.method = m) (hsize : g.locals.size = c.maxLocals) {argsL rest : List Value} (hlen : ∀ sig, parseMethodDescriptor y.desc = some sig → argsL.length = sig.parameters.length)
    (hstack : g.stack = argsL.reverse ++ .ref b :: rest) (hW : 2 * g.monitorRoom + (rest.map fun v => v.category).sum ≤ W9) (hdg : decode c.code g.pc = .ok (.invokevirtual index, 3))
    (hpre : ∀ vm₁, s.WarmedH vm₁ → Pre ⟨T.setVm vm₁, locs, cells, slots⟩ (Value.ref b :: argsL).toArray) :
    (∃ (v : Option Value) (vm₁ : Vm) (B : Pt), s.WarmedH vm₁ ∧ Stand p l e R s m args below meth c B.U B.locs B.cells B.slots ∧ Post ⟨T.setVm vm₁, locs, cells, slots⟩ (Value.ref b :: argsL).toArray v B ∧
      ∀ target, Steps p.tables e below (B.U.setTop { g with pc := g.pc + 3, stack := v.toList ++ rest }) target → Steps p.tables e below (T.setTop g) target) ∨
    (∃ (q : Addr) (vm₁ : Vm) (B : Pt), s.WarmedH vm₁ ∧ Stand p l e R s m args below meth c B.U B.locs B.cells B.slots ∧ PostX ⟨T.setVm vm₁, locs, cells, slots⟩ (Value.ref b :: argsL).toArray q B ∧
      Steps p.tables e below (T.setTop g) ((B.U.setTop { g with stack := rest }).pushFrame (.throwing q))) := by
  obtain ⟨mk, methM, hnamed, hmethM, hstM, habM⟩ := Cond.instanceMethod_spec hinst
  obtain ⟨methM', cM, hmethM', -, -, -, -, -, -, hsigM⟩ := Cond.code_spec hnamed hcode
  cases hmethM.symm.trans hmethM'
  obtain ⟨c2, r2, m2, q1, q2, q3, q4, kP, hkP, hkPi⟩ := Cond.selects_spec hsel
  cases hcls.symm.trans q1
  cases (State.methodFound?_of_named hnamed hy).symm.trans q2
  cases hnamed.symm.trans q3
  have hselP : selectMethod e.platform s.vm cellB.cls mk = .method mk := by rw [Launch.admits_selectMethod X.admits]; exact q4
  obtain ⟨vm₁, X₁, hstep₁⟩ := X.invokevirtual hexec hown hlink hnamed hmethM hstM hkP hkPi hy (a := b) (cell := cellB) hcell
    (fun z h => by rw [h] at hobj; cases hobj) hselP hmethM habM hkP hkPi (g := g) hg (argsL := argsL) (rest := rest) (hlen _ hsigM) hstack hdg
  rcases hK m meth c ⟨T.setVm vm₁, locs, cells, slots⟩ { g with stack := rest } (.invokevirtual index) mk (Value.ref b :: argsL).toArray X₁ hg hsize hdg hW (X₁.named hnamed) (hpre vm₁ X₁.warmed) with ⟨v, B, X', hpost, hsteps⟩ | ⟨q, B, X', hpost, hsteps⟩
  · exact Or.inl ⟨v, vm₁, B, X₁.warmed, X', hpost, fun target h => hstep₁ _ fun acts => by rw [doInvoke_state]; exact hsteps.trans h⟩
  · exact Or.inr ⟨q, vm₁, B, X₁.warmed, X', hpost, hstep₁ _ fun acts => by rw [doInvoke_state]; exact hsteps⟩
theorem vx_callS (X : Stand p l e R s m args below meth c T locs cells slots) (hexec : p.tables.exec = Jvm.exec) {own : String} {index : Nat} {y : MethodName} {bytes : ByteArray} {maxL : Nat} {ret : Option FieldType}
    (hown : s.vm.findClass own = some m.cls) (hlink : (Cond.methodLink own index y).before args s = true) (hstat : (Cond.static y).before args s = true) (hinit : (Cond.initialized y.cls).before args s = true)
    (hcode : (Cond.code y bytes maxL ret).before args s = true) (hy : y.cls ≠ "java/lang/invoke/MethodHandle" ∧ y.cls ≠ "java/lang/invoke/VarHandle")
    {W9 : Nat} {Pre : Pt → Array Value → Prop} {Post : Pt → Array Value → Option Value → Pt → Prop} {PostX : Pt → Array Value → Addr → Pt → Prop} (hK : vx_Back l R p e below s args y 3 W9 Pre Post PostX)
    {g : JFrame} (hg : g.method = m) (hsize : g.locals.size = c.maxLocals) {argsL rest : List Value} (hlen : ∀ sig, parseMethodDescriptor y.desc = some sig → argsL.length = sig.parameters.length)
    (hstack : g.stack = argsL.reverse ++ rest) (hW : 2 * g.monitorRoom + (rest.map fun v => v.category).sum ≤ W9) (hdg : decode c.code g.pc = .ok (.invokestatic index, 3))
    (hpre : ∀ vm₁, s.WarmedH vm₁ → Pre ⟨T.setVm vm₁, locs, cells, slots⟩ argsL.toArray) :
    (∃ (v : Option Value) (vm₁ : Vm) (B : Pt), s.WarmedH vm₁ ∧ Stand p l e R s m args below meth c B.U B.locs B.cells B.slots ∧ Post ⟨T.setVm vm₁, locs, cells, slots⟩ argsL.toArray v B ∧
      ∀ target, Steps p.tables e below (B.U.setTop { g with pc := g.pc + 3, stack := v.toList ++ rest }) target → Steps p.tables e below (T.setTop g) target) ∨
    (∃ (q : Addr) (vm₁ : Vm) (B : Pt), s.WarmedH vm₁ ∧ Stand p l e R s m args below meth c B.U B.locs B.cells B.slots ∧ PostX ⟨T.setVm vm₁, locs, cells, slots⟩ argsL.toArray q B ∧
      Steps p.tables e below (T.setTop g) ((B.U.setTop { g with stack := rest }).pushFrame (.throwing q))) := by
  obtain ⟨mk, hnamed⟩ := Cond.code_named hcode
  obtain ⟨methM, cM, hmethM, -, -, -, -, -, -, hsigM⟩ := Cond.code_spec hnamed hcode
  have hstatic : methM.isStatic = true := Cond.static_spec hnamed hmethM hstat
  obtain ⟨kP, hkP, -⟩ := className_of_methodNamed hnamed
  have hinitP : kP.init = .initialized := Cond.initialized_spec (findClass_of_methodNamed hnamed) hkP hinit
  obtain ⟨vm₁, X₁, hstep₁⟩ := X.invokestatic hexec hown hlink hnamed hmethM hstatic hkP hinitP hy (g := g) hg (argsL := argsL) (rest := rest) (hlen _ hsigM) hstack hdg
  rcases hK m meth c ⟨T.setVm vm₁, locs, cells, slots⟩ { g with stack := rest } (.invokestatic index) mk argsL.toArray X₁ hg hsize hdg hW (X₁.named hnamed) (hpre vm₁ X₁.warmed) with ⟨v, B, X', hpost, hsteps⟩ | ⟨q, B, X', hpost, hsteps⟩
  · exact Or.inl ⟨v, vm₁, B, X₁.warmed, X', hpost, fun target h => hstep₁ _ fun acts => by rw [doInvoke_state]; exact hsteps.trans h⟩
  · exact Or.inr ⟨q, vm₁, B, X₁.warmed, X', hpost, hstep₁ _ fun acts => by rw [doInvoke_state]; exact hsteps⟩
end Calls
theorem vx_cls {s : State} {T : State} {vm₁ : Vm} {E : String} {k : ClassId} (hW : s.WarmedH vm₁) (h : (T.setVm vm₁).vm.findClass E = some k) : s.vm.findClass E = some k := by
  have h1 : vm₁.findClass E = some k := h
  rw [hW.alike.findClass] at h1
  exact h1
/-- the method's frame g, with q thrown over it -/
def vx_W (p : Program) (l : Launch) (e : Env) (R : Room) (s : State) (m : MethodId) (args : Array Value) (below : List Frame) (meth : Method) (c : Code) (H : Heap) (locs : List Loc) (cells slots : Nat) (Q : State → Prop) (g : JFrame) (q : Addr) : Prop :=
  ∀ T : State, T.heap = H → Stand p l e R s m args below meth c T locs cells slots → ∃ t, Steps p.tables e below ((T.setTop g).pushFrame (.throwing q)) t ∧ Q t
def vx_Run (p : Program) (l : Launch) (e : Env) (R : Room) (s : State) (m : MethodId) (args : Array Value) (below : List Frame) (meth : Method) (c : Code) (H : Heap) (locs : List Loc) (cells slots mc ms : Nat) (g : JFrame) (rest : List Value) (Qa : State → Outcome → State → Prop) (XC : String → State → State → Prop) (free : Addr → Prop) : Prop :=
  ∀ T : State, T.heap = H → Stand p l e R s m args below meth c T locs cells slots →
    (∃ (v : Option Value) (st₀ t T' : State) (L : List Loc), st₀.heap = H ∧ Stand p l e R s m args below meth c T' (locs ++ L) (cells + mc) (slots + ms) ∧ (∀ q ∈ L, free q.base) ∧ T'.heap = t.heap ∧ T'.vm = t.vm ∧ Qa st₀ (.returned v) t ∧
      Goes p e below T g T' { g with pc := g.pc + 3, stack := v.toList ++ rest }) ∨
    (∃ (q : Addr) (st₀ t T' : State) (L : List Loc) (E : String) (ce : Cell), st₀.heap = H ∧ Stand p l e R s m args below meth c T' (locs ++ L) (cells + mc) (slots + ms) ∧ (∀ z ∈ L, free z.base) ∧ T'.heap = t.heap ∧ T'.vm = t.vm ∧ XC E st₀ t ∧ t.heap[q]? = some ce ∧ ce.vm = .none ∧ s.vm.findClass E = some ce.cls ∧
      Steps p.tables e below (T.setTop g) ((T'.setTop { g with stack := rest }).pushFrame (.throwing q)))
def vx_X {S : Type} (px : S → Prop) (B : String → S → State → Prop) (A : Nat → Prop) : String → State → State → Prop := fun E st t => ∃ u : S, px u ∧ B E u t ∧ va_F A st t
section Runs
variable {p : Program} {l : Launch} {e : Env} {R : Room} {s : State} {m : MethodId} {args : Array Value} {below : List Frame} {meth : Method} {c : Code} {H : Heap} {locs : List Loc} {cells slots : Nat}
variable {y : MethodName} {bytes cc : ByteArray} {maxL nL mc ms n index : Nat} {ret : Option FieldType} {ws : List Cond} {rm : Room} {Pc : Array Value → State → Prop} {Qc : Array Value → State → Outcome → State → Prop} {XC : String → State → State → Prop} {free : Addr → Prop} {Ts : List Cond} {own C : String} {b : Addr} {As rest : List Value} {g : JFrame}
theorem vx_callBack (cb : CallB R s args own index y bytes maxL ret ws rm mc ms n) (hM : vx_Met l y ws rm Pc Qc XC mc ms free) (hbl : FrameBlind Pc) : vx_Back l R p e below s args y 3 8 (PreOf R mc ms Pc) (PostOf Qc mc ms free) (vx_Post XC mc ms free) := by
  obtain ⟨hrc, hrs, hfr, hlo, hws, hcw, -, hini, -⟩ := cb
  exact vx_back (bytes := bytes) (maxL := maxL) (ret := ret) hM hbl hrc hrs hfr hlo hws hcw (fun a' U hW => word_at hW (Or.inl (by first | rfl | simp [Cond.onTables, Cond.keeps, Cond.steady])) hini)
theorem vx_runV (S : CallFix p m c cc nL s args Ts own) (hM : vx_Met l y ws rm Pc Qc XC mc ms free) (cw : CallW R s args own C index y bytes maxL ret ws rm mc ms n) (hp : PreV s H C b Pc As)
    (hg : g.method = m) (hn : As.length = n) (hsize : g.locals.size = nL) (hstack : g.stack = As.reverse ++ .ref b :: rest) (hW : 2 * g.monitorRoom + (rest.map fun v => v.category).sum ≤ 8) (hdg : decode cc g.pc = .ok (.invokevirtual index, 3)) (hf : cells + mc ≤ R.cells ∧ slots + ms ≤ R.slots) :
    vx_Run p l e R s m args below meth c H locs cells slots mc ms g rest (Qc (Value.ref b :: As).toArray) XC free := by
  have hK : vx_Back l R p e below s args y 3 8 (PreOf R mc ms Pc) (PostOf Qc mc ms free) (vx_Post XC mc ms free) := vx_callBack cw.1 hM hp.1
  obtain ⟨⟨-, -, -, -, -, -, hcode, -, hy, hlen, hl⟩, hin, hse⟩ := cw
  obtain ⟨hx, hb, hml, ho, -⟩ := S
  obtain ⟨-, ⟨cellB, hcB, hoB, hclB⟩, hPc⟩ := hp
  intro T hT X
  rcases vx_callV X hx (C := C) (bytes := bytes) (maxL := maxL) (ret := ret) ho hl hin hse hcode hy hK (by rw [hT]; exact hcB) hoB hclB hg (hsize.trans hml.symm) (argsL := As) (rest := rest) (fun sig h => hn.trans (hlen sig h)) hstack hW (by rw [hb]; exact hdg)
    (fun vm₁ hW₁ => ⟨hf.1, hf.2, hPc (T.setVm vm₁) hT hW₁⟩) with ⟨v, vm₁, ⟨U', l2, c2, s2⟩, hW₁, X', ⟨g', mk, t, L, e1, e2, hq, h1, hL, h2, h3⟩, st⟩ | ⟨q, vm₁, ⟨U', l2, c2, s2⟩, hW₁, X', ⟨g', mk, t, L, E, ce, e1, e2, hq, hce, hcv, hcl, h1, hL, h2, h3⟩, st⟩
  · dsimp only [Pt.U, Pt.locs, Pt.cells, Pt.slots] at X' e1 e2 h1 h2 h3 st
    subst h1; subst h2; subst h3
    exact Or.inl ⟨v, (T.setVm vm₁).calling g' mk (Value.ref b :: As).toArray, t, U', L, hT, X', hL, e1, e2, hq, st⟩
  · dsimp only [Pt.U, Pt.locs, Pt.cells, Pt.slots] at X' e1 e2 h1 h2 h3 st hcl
    subst h1; subst h2; subst h3
    exact Or.inr ⟨q, (T.setVm vm₁).calling g' mk (Value.ref b :: As).toArray, t, U', L, E, ce, hT, X', hL, e1, e2, hq, hce, hcv, vx_cls hW₁ hcl, st⟩
theorem vx_runS (S : CallFix p m c cc nL s args Ts own) (hM : vx_Met l y ws rm Pc Qc XC mc ms free) (cw : CallB R s args own index y bytes maxL ret ws rm mc ms n ∧ (Cond.static y).before args s = true) (hp : PreS s H Pc As)
    (hg : g.method = m) (hn : As.length = n) (hsize : g.locals.size = nL) (hstack : g.stack = As.reverse ++ rest) (hW : 2 * g.monitorRoom + (rest.map fun v => v.category).sum ≤ 8) (hdg : decode cc g.pc = .ok (.invokestatic index, 3)) (hf : cells + mc ≤ R.cells ∧ slots + ms ≤ R.slots) :
    vx_Run p l e R s m args below meth c H locs cells slots mc ms g rest (Qc As.toArray) XC free := by
  have hK : vx_Back l R p e below s args y 3 8 (PreOf R mc ms Pc) (PostOf Qc mc ms free) (vx_Post XC mc ms free) := vx_callBack cw.1 hM hp.1
  obtain ⟨⟨-, -, -, -, -, -, hcode, hini, hy, hlen, hl⟩, hstt⟩ := cw
  obtain ⟨hx, hb, hml, ho, -⟩ := S
  intro T hT X
  rcases vx_callS X hx (bytes := bytes) (maxL := maxL) (ret := ret) ho hl hstt hini hcode hy hK hg (hsize.trans hml.symm) (argsL := As) (rest := rest) (fun sig h => hn.trans (hlen sig h)) hstack hW (by rw [hb]; exact hdg)
    (fun vm₁ hW₁ => ⟨hf.1, hf.2, hp.2 (T.setVm vm₁) hT hW₁⟩) with ⟨v, vm₁, ⟨U', l2, c2, s2⟩, hW₁, X', ⟨g', mk, t, L, e1, e2, hq, h1, hL, h2, h3⟩, st⟩ | ⟨q, vm₁, ⟨U', l2, c2, s2⟩, hW₁, X', ⟨g', mk, t, L, E, ce, e1, e2, hq, hce, hcv, hcl, h1, hL, h2, h3⟩, st⟩
  · dsimp only [Pt.U, Pt.locs, Pt.cells, Pt.slots] at X' e1 e2 h1 h2 h3 st
    subst h1; subst h2; subst h3
    exact Or.inl ⟨v, (T.setVm vm₁).calling g' mk As.toArray, t, U', L, hT, X', hL, e1, e2, hq, st⟩
  · dsimp only [Pt.U, Pt.locs, Pt.cells, Pt.slots] at X' e1 e2 h1 h2 h3 st hcl
    subst h1; subst h2; subst h3
    exact Or.inr ⟨q, (T.setVm vm₁).calling g' mk As.toArray, t, U', L, E, ce, hT, X', hL, e1, e2, hq, hce, hcv, vx_cls hW₁ hcl, st⟩
end Runs
section Rows
variable {p : Program} {l : Launch} {e : Env} {R : Room} {s : State} {m : MethodId} {args : Array Value} {below : List Frame} {meth : Method} {c : Code} {H : Heap} {locs : List Loc} {cells slots : Nat} {Q : State → Prop}
variable {mc ms : Nat} {free : Addr → Prop} {A0 A1 : Nat → Prop} {H0 : Heap} {a : Array Value} {pc : Nat} {ls : Array Slot} {st0 rest : List Value}
theorem vx_keep {st₀ t T' : State} {L : List Loc} (h0 : st₀.heap = H) (e1 : T'.heap = t.heap) (hS : va_S A0 H0 H locs) (hA : ∀ q, q < H.size → A1 q → A0 q) (hf : ∀ q, free q → A0 q) (hL : ∀ q ∈ L, free q.base) (hF : va_F A1 st₀ t) :
    H.size ≤ T'.heap.size ∧ (∀ q : Nat, q < H.size → ¬ A1 q → T'.heap[q]? = H[q]?) ∧ va_S A0 H0 T'.heap (locs ++ L) := by
  obtain ⟨hz, hk⟩ := hF
  rw [h0] at hz hk
  exact ⟨by rw [e1]; exact hz, fun q h1 h2 => by rw [e1]; exact hk q h1 h2,
    ⟨Nat.le_trans hS.1 (by rw [e1]; exact hz), fun q h1 h2 => by rw [e1, hk q (Nat.lt_of_lt_of_le h1 hS.1) (fun z => h2 (hA q (Nat.lt_of_lt_of_le h1 hS.1) z))]; exact hS.2.1 q h1 h2, fun q hq => by
      rcases List.mem_append.mp hq with h | h
      · exact hS.2.2 q h
      · exact hf _ (hL q h)⟩⟩
theorem vx_calli {S SX : Type} {post : Int32 → S → Prop} {px : SX → Prop} {B : S → State → Prop} {BX : String → SX → State → Prop} {AX : Nat → Prop} (hr : vx_Run p l e R s m args below meth c H locs cells slots mc ms (F0 m pc ls st0) rest (va_Qi post B A1 a) (vx_X px BX AX) free) (hS : va_S A0 H0 H locs) (hA : ∀ q, q < H.size → A1 q → A0 q) (hf : ∀ q, free q → A0 q) (hAX : ∀ q, q < H.size → AX q → A0 q)
    (kx : ∀ (E : String) (ce : Cell) (q9 : Addr) (u : SX) (t : State) (H1 : Heap) (locs1 : List Loc), t.heap = H1 → s.vm.Alike t.vm → px u → BX E u t → H.size ≤ H1.size → (∀ q : Nat, q < H.size → ¬ AX q → H1[q]? = H[q]?) → va_S A0 H0 H1 locs1 → H1[q9]? = some ce → ce.vm = .none → s.vm.findClass E = some ce.cls → vx_W p l e R s m args below meth c H1 locs1 (cells + mc) (slots + ms) Q (F0 m pc ls rest) q9)
    (kk : ∀ (r : Int32) (u : S) (t : State) (H1 : Heap) (locs1 : List Loc), t.heap = H1 → s.vm.Alike t.vm → post r u → B u t → H.size ≤ H1.size → (∀ q : Nat, q < H.size → ¬ A1 q → H1[q]? = H[q]?) → va_S A0 H0 H1 locs1 → W p l e R s m args below meth c H1 locs1 (cells + mc) (slots + ms) Q (F0 m (pc + 3) ls (.int r :: rest))) : W p l e R s m args below meth c H locs cells slots Q (F0 m pc ls st0) := by
  intro T hT X
  rcases hr T hT X with ⟨v, st₀, t, T', L, h0, X', hL, e1, e2, ⟨⟨r, u, hv, hp, hb⟩, hF⟩, st⟩ | ⟨q, st₀, t, T', L, E, ce, h0, X', hL, e1, e2, ⟨u, hp, hb, hF⟩, hce, hcv, hcl, st⟩
  · cases hv
    obtain ⟨k1, k2, k3⟩ := vx_keep h0 e1 hS hA hf hL hF
    obtain ⟨t2, a1, b1⟩ := kk r u t T'.heap (locs ++ L) e1.symm (by rw [← e2]; exact X'.warmed.alike) hp hb k1 k2 k3 T' rfl X'
    exact ⟨t2, st t2 a1, b1⟩
  · obtain ⟨k1, k2, k3⟩ := vx_keep h0 e1 hS hAX hf hL hF
    obtain ⟨t2, a1, b1⟩ := kx E ce q u t T'.heap (locs ++ L) e1.symm (by rw [← e2]; exact X'.warmed.alike) hp hb k1 k2 k3 (by rw [e1]; exact hce) hcv hcl T' rfl X'
    exact ⟨t2, st.trans a1, b1⟩
theorem vx_calll {S SX : Type} {post : Int64 → S → Prop} {px : SX → Prop} {B : S → State → Prop} {BX : String → SX → State → Prop} {AX : Nat → Prop} (hr : vx_Run p l e R s m args below meth c H locs cells slots mc ms (F0 m pc ls st0) rest (va_Ql post B A1 a) (vx_X px BX AX) free) (hS : va_S A0 H0 H locs) (hA : ∀ q, q < H.size → A1 q → A0 q) (hf : ∀ q, free q → A0 q) (hAX : ∀ q, q < H.size → AX q → A0 q)
    (kx : ∀ (E : String) (ce : Cell) (q9 : Addr) (u : SX) (t : State) (H1 : Heap) (locs1 : List Loc), t.heap = H1 → s.vm.Alike t.vm → px u → BX E u t → H.size ≤ H1.size → (∀ q : Nat, q < H.size → ¬ AX q → H1[q]? = H[q]?) → va_S A0 H0 H1 locs1 → H1[q9]? = some ce → ce.vm = .none → s.vm.findClass E = some ce.cls → vx_W p l e R s m args below meth c H1 locs1 (cells + mc) (slots + ms) Q (F0 m pc ls rest) q9)
    (kk : ∀ (r : Int64) (u : S) (t : State) (H1 : Heap) (locs1 : List Loc), t.heap = H1 → s.vm.Alike t.vm → post r u → B u t → H.size ≤ H1.size → (∀ q : Nat, q < H.size → ¬ A1 q → H1[q]? = H[q]?) → va_S A0 H0 H1 locs1 → W p l e R s m args below meth c H1 locs1 (cells + mc) (slots + ms) Q (F0 m (pc + 3) ls (.long r :: rest))) : W p l e R s m args below meth c H locs cells slots Q (F0 m pc ls st0) := by
  intro T hT X
  rcases hr T hT X with ⟨v, st₀, t, T', L, h0, X', hL, e1, e2, ⟨⟨r, u, hv, hp, hb⟩, hF⟩, st⟩ | ⟨q, st₀, t, T', L, E, ce, h0, X', hL, e1, e2, ⟨u, hp, hb, hF⟩, hce, hcv, hcl, st⟩
  · cases hv
    obtain ⟨k1, k2, k3⟩ := vx_keep h0 e1 hS hA hf hL hF
    obtain ⟨t2, a1, b1⟩ := kk r u t T'.heap (locs ++ L) e1.symm (by rw [← e2]; exact X'.warmed.alike) hp hb k1 k2 k3 T' rfl X'
    exact ⟨t2, st t2 a1, b1⟩
  · obtain ⟨k1, k2, k3⟩ := vx_keep h0 e1 hS hAX hf hL hF
    obtain ⟨t2, a1, b1⟩ := kx E ce q u t T'.heap (locs ++ L) e1.symm (by rw [← e2]; exact X'.warmed.alike) hp hb k1 k2 k3 (by rw [e1]; exact hce) hcv hcl T' rfl X'
    exact ⟨t2, st.trans a1, b1⟩
theorem vx_callf {S SX : Type} {post : UInt32 → S → Prop} {px : SX → Prop} {B : S → State → Prop} {BX : String → SX → State → Prop} {AX : Nat → Prop} (hr : vx_Run p l e R s m args below meth c H locs cells slots mc ms (F0 m pc ls st0) rest (va_Qf post B A1 a) (vx_X px BX AX) free) (hS : va_S A0 H0 H locs) (hA : ∀ q, q < H.size → A1 q → A0 q) (hf : ∀ q, free q → A0 q) (hAX : ∀ q, q < H.size → AX q → A0 q)
    (kx : ∀ (E : String) (ce : Cell) (q9 : Addr) (u : SX) (t : State) (H1 : Heap) (locs1 : List Loc), t.heap = H1 → s.vm.Alike t.vm → px u → BX E u t → H.size ≤ H1.size → (∀ q : Nat, q < H.size → ¬ AX q → H1[q]? = H[q]?) → va_S A0 H0 H1 locs1 → H1[q9]? = some ce → ce.vm = .none → s.vm.findClass E = some ce.cls → vx_W p l e R s m args below meth c H1 locs1 (cells + mc) (slots + ms) Q (F0 m pc ls rest) q9)
    (kk : ∀ (r : UInt32) (u : S) (t : State) (H1 : Heap) (locs1 : List Loc), t.heap = H1 → s.vm.Alike t.vm → post r u → B u t → H.size ≤ H1.size → (∀ q : Nat, q < H.size → ¬ A1 q → H1[q]? = H[q]?) → va_S A0 H0 H1 locs1 → W p l e R s m args below meth c H1 locs1 (cells + mc) (slots + ms) Q (F0 m (pc + 3) ls (.float r :: rest))) : W p l e R s m args below meth c H locs cells slots Q (F0 m pc ls st0) := by
  intro T hT X
  rcases hr T hT X with ⟨v, st₀, t, T', L, h0, X', hL, e1, e2, ⟨⟨r, u, hv, hp, hb⟩, hF⟩, st⟩ | ⟨q, st₀, t, T', L, E, ce, h0, X', hL, e1, e2, ⟨u, hp, hb, hF⟩, hce, hcv, hcl, st⟩
  · cases hv
    obtain ⟨k1, k2, k3⟩ := vx_keep h0 e1 hS hA hf hL hF
    obtain ⟨t2, a1, b1⟩ := kk r u t T'.heap (locs ++ L) e1.symm (by rw [← e2]; exact X'.warmed.alike) hp hb k1 k2 k3 T' rfl X'
    exact ⟨t2, st t2 a1, b1⟩
  · obtain ⟨k1, k2, k3⟩ := vx_keep h0 e1 hS hAX hf hL hF
    obtain ⟨t2, a1, b1⟩ := kx E ce q u t T'.heap (locs ++ L) e1.symm (by rw [← e2]; exact X'.warmed.alike) hp hb k1 k2 k3 (by rw [e1]; exact hce) hcv hcl T' rfl X'
    exact ⟨t2, st.trans a1, b1⟩
theorem vx_calld {S SX : Type} {post : UInt64 → S → Prop} {px : SX → Prop} {B : S → State → Prop} {BX : String → SX → State → Prop} {AX : Nat → Prop} (hr : vx_Run p l e R s m args below meth c H locs cells slots mc ms (F0 m pc ls st0) rest (va_Qd post B A1 a) (vx_X px BX AX) free) (hS : va_S A0 H0 H locs) (hA : ∀ q, q < H.size → A1 q → A0 q) (hf : ∀ q, free q → A0 q) (hAX : ∀ q, q < H.size → AX q → A0 q)
    (kx : ∀ (E : String) (ce : Cell) (q9 : Addr) (u : SX) (t : State) (H1 : Heap) (locs1 : List Loc), t.heap = H1 → s.vm.Alike t.vm → px u → BX E u t → H.size ≤ H1.size → (∀ q : Nat, q < H.size → ¬ AX q → H1[q]? = H[q]?) → va_S A0 H0 H1 locs1 → H1[q9]? = some ce → ce.vm = .none → s.vm.findClass E = some ce.cls → vx_W p l e R s m args below meth c H1 locs1 (cells + mc) (slots + ms) Q (F0 m pc ls rest) q9)
    (kk : ∀ (r : UInt64) (u : S) (t : State) (H1 : Heap) (locs1 : List Loc), t.heap = H1 → s.vm.Alike t.vm → post r u → B u t → H.size ≤ H1.size → (∀ q : Nat, q < H.size → ¬ A1 q → H1[q]? = H[q]?) → va_S A0 H0 H1 locs1 → W p l e R s m args below meth c H1 locs1 (cells + mc) (slots + ms) Q (F0 m (pc + 3) ls (.double r :: rest))) : W p l e R s m args below meth c H locs cells slots Q (F0 m pc ls st0) := by
  intro T hT X
  rcases hr T hT X with ⟨v, st₀, t, T', L, h0, X', hL, e1, e2, ⟨⟨r, u, hv, hp, hb⟩, hF⟩, st⟩ | ⟨q, st₀, t, T', L, E, ce, h0, X', hL, e1, e2, ⟨u, hp, hb, hF⟩, hce, hcv, hcl, st⟩
  · cases hv
    obtain ⟨k1, k2, k3⟩ := vx_keep h0 e1 hS hA hf hL hF
    obtain ⟨t2, a1, b1⟩ := kk r u t T'.heap (locs ++ L) e1.symm (by rw [← e2]; exact X'.warmed.alike) hp hb k1 k2 k3 T' rfl X'
    exact ⟨t2, st t2 a1, b1⟩
  · obtain ⟨k1, k2, k3⟩ := vx_keep h0 e1 hS hAX hf hL hF
    obtain ⟨t2, a1, b1⟩ := kx E ce q u t T'.heap (locs ++ L) e1.symm (by rw [← e2]; exact X'.warmed.alike) hp hb k1 k2 k3 (by rw [e1]; exact hce) hcv hcl T' rfl X'
    exact ⟨t2, st.trans a1, b1⟩
theorem vx_callv {S SX : Type} {post : S → Prop} {px : SX → Prop} {B : S → State → Prop} {BX : String → SX → State → Prop} {AX : Nat → Prop} (hr : vx_Run p l e R s m args below meth c H locs cells slots mc ms (F0 m pc ls st0) rest (va_Qv post B A1 a) (vx_X px BX AX) free) (hS : va_S A0 H0 H locs) (hA : ∀ q, q < H.size → A1 q → A0 q) (hf : ∀ q, free q → A0 q) (hAX : ∀ q, q < H.size → AX q → A0 q)
    (kx : ∀ (E : String) (ce : Cell) (q9 : Addr) (u : SX) (t : State) (H1 : Heap) (locs1 : List Loc), t.heap = H1 → s.vm.Alike t.vm → px u → BX E u t → H.size ≤ H1.size → (∀ q : Nat, q < H.size → ¬ AX q → H1[q]? = H[q]?) → va_S A0 H0 H1 locs1 → H1[q9]? = some ce → ce.vm = .none → s.vm.findClass E = some ce.cls → vx_W p l e R s m args below meth c H1 locs1 (cells + mc) (slots + ms) Q (F0 m pc ls rest) q9)
    (kk : ∀ (u : S) (t : State) (H1 : Heap) (locs1 : List Loc), t.heap = H1 → s.vm.Alike t.vm → post u → B u t → H.size ≤ H1.size → (∀ q : Nat, q < H.size → ¬ A1 q → H1[q]? = H[q]?) → va_S A0 H0 H1 locs1 → W p l e R s m args below meth c H1 locs1 (cells + mc) (slots + ms) Q (F0 m (pc + 3) ls (rest))) : W p l e R s m args below meth c H locs cells slots Q (F0 m pc ls st0) := by
  intro T hT X
  rcases hr T hT X with ⟨v, st₀, t, T', L, h0, X', hL, e1, e2, ⟨⟨u, hv, hp, hb⟩, hF⟩, st⟩ | ⟨q, st₀, t, T', L, E, ce, h0, X', hL, e1, e2, ⟨u, hp, hb, hF⟩, hce, hcv, hcl, st⟩
  · cases hv
    obtain ⟨k1, k2, k3⟩ := vx_keep h0 e1 hS hA hf hL hF
    obtain ⟨t2, a1, b1⟩ := kk u t T'.heap (locs ++ L) e1.symm (by rw [← e2]; exact X'.warmed.alike) hp hb k1 k2 k3 T' rfl X'
    exact ⟨t2, st t2 a1, b1⟩
  · obtain ⟨k1, k2, k3⟩ := vx_keep h0 e1 hS hAX hf hL hF
    obtain ⟨t2, a1, b1⟩ := kx E ce q u t T'.heap (locs ++ L) e1.symm (by rw [← e2]; exact X'.warmed.alike) hp hb k1 k2 k3 (by rw [e1]; exact hce) hcv hcl T' rfl X'
    exact ⟨t2, st.trans a1, b1⟩
/-- caught by the row x of this method's table; the rows ahead don't take it -/
theorem vx_catch {own name : String} {E : String} {ce : Cell} {q : Addr} (hown : s.vm.findClass own = some m.cls) (pre : List ExceptionTableEntry) (x : ExceptionTableEntry) (suf : List ExceptionTableEntry) (hsplit : c.exceptionTable.toList = pre ++ x :: suf)
    (hpass : ∀ z ∈ pre, covers z pc = false ∨ (z.catchType ≠ 0 ∧ ∃ nm : String, (Cond.classLink own z.catchType nm).before args s = true ∧ va_Nc E nm s)) (hx : covers x pc = true) (h0 : x.catchType ≠ 0)
    (hlink : (Cond.classLink own x.catchType name).before args s = true) (hcast : (Cond.castable E name).before args s = true) (hcell : H[q]? = some ce) (hv : ce.vm = .none) (hcl : s.vm.findClass E = some ce.cls)
    (kk : W p l e R s m args below meth c H locs cells slots Q (F0 m x.handlerPc ls [.ref q])) : vx_W p l e R s m args below meth c H locs cells slots Q (F0 m pc ls rest) q := by
  intro T hT X
  have hpl : e.platform.magicAccessors = ({} : Platform).magicAccessors := by rw [X.admits.platform]
  obtain ⟨c3, c4, hc3, hc4, hasg⟩ := Cond.castable_spec hcast
  cases Option.some.inj (hc3.symm.trans hcl)
  obtain ⟨c5, hc5, hcl5⟩ := Cond.classLink_spec hown hlink e.platform hpl
  cases Option.some.inj (hc4.symm.trans hc5)
  obtain ⟨vm', X', st⟩ := X.thenCaughtThrough q (g := F0 m pc ls rest) rfl (Steps.refl _) (by rw [hT]; exact hcell) (by rw [hv]; rfl) (by obtain ⟨k9, h9, -⟩ := Vm.findClass_spec hcl; exact ⟨k9, h9⟩) pre x suf hsplit
    (fun z hz => by
      rcases hpass z hz with h | ⟨hz0, nm, hl1, hn1⟩
      · exact Or.inl h
      · obtain ⟨c6, hc6, hcl6⟩ := Cond.classLink_spec hown hl1 e.platform hpl
        obtain ⟨a8, b8, h1, h2, h3⟩ := hn1
        cases Option.some.inj (h1.symm.trans hcl)
        cases Option.some.inj (h2.symm.trans hc6)
        exact Or.inr ⟨hz0, _, hcl6, h3⟩) hx (Or.inr ⟨h0, c4, hcl5, hasg⟩)
  obtain ⟨t, a1, b1⟩ := kk (T.setVm vm') hT X'
  exact ⟨t, st.trans a1, b1⟩
end Rows
section Ends
variable {p : Program} {l : Launch} {e : Env} {R : Room} {s : State} {m : MethodId} {args : Array Value} {below : List Frame} {meth : Method} {c : Code} {H : Heap} {locs : List Loc} {cells slots : Nat} {Q : State → Prop}
variable {mc ms : Nat} {free : Addr → Prop} {A0 A1 : Nat → Prop} {H0 : Heap} {a : Array Value} {ls : Array Slot} {st0 rest : List Value}
variable {Qc : Array Value → State → Outcome → State → Prop} {XC : String → State → State → Prop}
/-- what a body that may throw owes at its end -/
def vx_MQ (below : List Frame) (Qc : Array Value → State → Outcome → State → Prop) (XC : String → State → State → Prop) (a : Array Value) (s : State) (mc ms : Nat) (free : Addr → Prop) : State → Prop := fun t =>
  ∃ o, t.status = .running ∧ Ended t below o ∧ vx_Q Qc XC mc ms free a s o t
theorem vx_ret {g : JFrame} {mc ms : Nat} (k : W p l e R s m args below meth c H locs cells slots (MQ below Qc args s mc ms free) g) : W p l e R s m args below meth c H locs cells slots (vx_MQ below Qc XC args s mc ms free) g := by
  intro T hT X
  obtain ⟨t, a1, o, b1, b2, b3, b4⟩ := k T hT X
  exact ⟨t, a1, o, b1, b2, Or.inl ⟨b3, b4⟩⟩
/-- not caught here: it goes on to the caller -/
theorem vx_widen {g : JFrame} {q : Addr} {k n : Nat} (h1 : cells ≤ k) (h2 : slots ≤ n) (kk : vx_W p l e R s m args below meth c H locs k n Q g q) : vx_W p l e R s m args below meth c H locs cells slots Q g q := fun T hT X => kk T hT (stand_widen X h1 h2)
theorem vx_out {pc : Nat} {E : String} {ce : Cell} {q : Addr} {mc ms : Nat} (hout : ∀ x ∈ c.exceptionTable.toList, covers x pc = false) (hlocks : meth.locks = false) (hcell : H[q]? = some ce) (hv : ce.vm = .none) (hcl : s.vm.findClass E = some ce.cls)
    (hx : ∀ t : State, t.heap = H → s.vm.Alike t.vm → XC E s t) (hf : ∀ z ∈ locs, free z.base) (hc : cells ≤ mc) (hs : slots ≤ ms) :
    vx_W p l e R s m args below meth c H locs cells slots (vx_MQ below Qc XC args s mc ms free) (F0 m pc ls rest) q := by
  intro T hT X
  obtain ⟨st1, hrun, hend, hW, hsm⟩ := X.leaveThrown q (g := F0 m pc ls rest) rfl rfl rfl hout hlocks
  have hcell9 : (T.setFrames (.throwing q :: below)).heap[q]? = some ce := by
    show T.heap[q]? = some ce
    rw [hT]; exact hcell
  exact ⟨_, st1, .threw q, hrun, hend, Or.inr ⟨q, rfl, E, ce, locs, hx _ hT hW.alike, hcell9, hv, hcl, hW, hsm.mono hc hs, hf⟩⟩
theorem vx_frame {U : State} {k n : Nat} (h : s.sameButNew ({ U with vm := s.vm } : State) locs k n) : s.heap.size ≤ U.heap.size ∧ ∀ q : Nat, q < s.heap.size → (∀ z ∈ locs, z.base ≠ q) → U.heap[q]? = s.heap[q]? := by
  obtain ⟨-, h2, -, -, -, h6⟩ := h
  refine ⟨h2, fun q hq hz => ?_⟩
  obtain ⟨c9, e1, e2, e3, e4⟩ := h6 q _ (Array.getElem?_eq_getElem hq)
  have hs : c9.slots = (s.heap[q]).slots := Array.ext_getElem? fun i => e4 i fun hm => hz _ hm rfl
  have h9 : c9 = s.heap[q] := by
    rw [hs] at e2
    exact e2
  have e5 : U.heap[q]? = some c9 := e1
  rw [e5, h9, Array.getElem?_eq_getElem hq]
/-- the words of a throw but the four that speak of the heap -/
def vx_no (w : Cond) : Bool := decide (w ≠ .isRef (.static Bundle.tN "UNASSIGNED_STACK" Bundle.steD)) && decide (w ≠ .isRef (.static Bundle.tN "SUPPRESSED_SENTINEL" Bundle.listD)) && decide (w ≠ .laysStatic Bundle.tN "UNASSIGNED_STACK" Bundle.steD) && decide (w ≠ .laysStatic Bundle.tN "SUPPRESSED_SENTINEL" Bundle.listD)
def vx_at0 (own : String) (ic : Nat) (X : String) (names : List String) : List Cond := (Bundle.ownAtoms0 own ic X names).filter vx_no
def vx_atS (own : String) (ic : Nat) (X : String) (names : List String) : List Cond := (Bundle.ownAtoms own ic X names).filter vx_no
/-- a word that the tables alone decide, or a good one -/
def vx_ot (w : Cond) : Bool := w.onTables || goodWord w
theorem vx_ot_at {args a' : Array Value} {s U : State} {w : Cond} (hW : s.WarmedH U.vm) (hvm : s.vm = U.vm) (hg : vx_ot w = true) (h : w.before args s = true) : w.before a' U = true := by
  simp only [vx_ot, Bool.or_eq_true] at hg
  rcases hg with hg | hg
  · exact va_tabs hg hvm h
  · exact word_at hW (good_of_word hg) h
/-- a list's words: the good ones out of the method's own list, the others by premises of their own -/
theorem vx_hat {args : Array Value} {s : State} {L B : List Cond} (h1 : ∀ w ∈ L.filter goodWord, w.before args s = true) (h2 : ∀ w ∈ L.filter (fun w => !goodWord w), w ∈ B) (h3 : ∀ w ∈ B, w.before args s = true) : ∀ w ∈ L, w.before args s = true := by
  intro w hw
  by_cases g : goodWord w = true
  · exact h1 w (List.mem_filter.mpr ⟨hw, g⟩)
  · refine h3 w (h2 w (List.mem_filter.mpr ⟨hw, ?_⟩))
    show (!goodWord w) = true
    cases hgw : goodWord w
    · rfl
    · exact absurd hgw g
theorem vx_c {args : Array Value} {s : State} {w : Cond} {B : List Cond} (h : w.before args s = true) (t : ∀ w ∈ B, w.before args s = true) : ∀ w' ∈ w :: B, w'.before args s = true := fun w' h' => (List.mem_cons.mp h').elim (fun e => by rw [e]; exact h) (t w')
theorem vx_n {args : Array Value} {s : State} : ∀ w ∈ ([] : List Cond), w.before args s = true := fun _ h => nomatch h
theorem vx_own {args : Array Value} {s : State} {L : List Cond} (h1 : ∀ w ∈ L.filter vx_no, w.before args s = true)
    (hU : (Cond.isRef (.static Bundle.tN "UNASSIGNED_STACK" Bundle.steD)).before args s = true) (hN : (Cond.isRef (.static Bundle.tN "SUPPRESSED_SENTINEL" Bundle.listD)).before args s = true)
    (lU : (Cond.laysStatic Bundle.tN "UNASSIGNED_STACK" Bundle.steD).before args s = true) (lN : (Cond.laysStatic Bundle.tN "SUPPRESSED_SENTINEL" Bundle.listD).before args s = true) : ∀ w ∈ L, w.before args s = true := by
  intro w hw
  by_cases e1 : w = .isRef (.static Bundle.tN "UNASSIGNED_STACK" Bundle.steD)
  · rw [e1]; exact hU
  · by_cases e2 : w = .isRef (.static Bundle.tN "SUPPRESSED_SENTINEL" Bundle.listD)
    · rw [e2]; exact hN
    · by_cases e3 : w = .laysStatic Bundle.tN "UNASSIGNED_STACK" Bundle.steD
      · rw [e3]; exact lU
      · by_cases e4 : w = .laysStatic Bundle.tN "SUPPRESSED_SENTINEL" Bundle.listD
        · rw [e4]; exact lN
        · exact h1 w (List.mem_filter.mpr ⟨hw, by unfold vx_no; rw [decide_eq_true e1, decide_eq_true e2, decide_eq_true e3, decide_eq_true e4]; rfl⟩)
/-- where a static field lies, its class's statics cell in H -/
def vx_L (C n d : String) (A : Nat → Prop) (U : State) (H : Heap) : Prop := ∃ (c : ClassId) (k : Class) (i : Nat) (f : Field) (a : Nat) (cell : Cell), U.vm.findClass C = some c ∧ U.fieldFound? C n d = some (c, k, i, f) ∧ f.isStatic = true ∧ k.statics = some a ∧ H[a]? = some cell ∧ cell.vm.isStatics = true ∧ cell.cls = c ∧ f.slot < cell.slots.size ∧ k.staticTypes[f.slot]? = some f.type ∧ ¬ A a
theorem vx_L.moved {C n d : String} {A : Nat → Prop} {u U : State} {H : Heap} (hvm : u.vm.Alike U.vm) (h : vx_L C n d A u H) : vx_L C n d A U H := by
  obtain ⟨c, k, i, f, a, cell, h1, h2, h3, h4, h5, h6, h7, h8, h9, h10⟩ := h
  obtain ⟨k', hi', he⟩ := State.fieldFound?_setVm hvm h2
  exact ⟨c, k', i, f, a, cell, by rw [hvm.findClass]; exact h1, hi', h3, by rw [he]; exact h4, h5, h6, h7, h8, by rw [he]; exact h9, h10⟩
theorem vx_L.kept {C n d : String} {A : Nat → Prop} {U : State} {H H1 : Heap} (h : vx_L C n d A U H) (hq : ∀ a : Nat, a < H.size → ¬ A a → H1[a]? = H[a]?) : vx_L C n d A U H1 := by
  obtain ⟨c, k, i, f, a, cell, h1, h2, h3, h4, h5, h6, h7, h8, h9, h10⟩ := h
  exact ⟨c, k, i, f, a, cell, h1, h2, h3, h4, by rw [hq a (Array.getElem?_eq_some_iff.mp h5).1 h10]; exact h5, h6, h7, h8, h9, h10⟩
theorem vx_L.narrow {C n d : String} {A B : Nat → Prop} {U : State} {H : Heap} (h : vx_L C n d A U H) (hAB : ∀ q, B q → A q) : vx_L C n d B U H := by
  obtain ⟨c, k, i, f, a, cell, h1, h2, h3, h4, h5, h6, h7, h8, h9, h10⟩ := h
  exact ⟨c, k, i, f, a, cell, h1, h2, h3, h4, h5, h6, h7, h8, h9, fun z => h10 (hAB _ z)⟩
theorem vx_L.word {C n d : String} {A : Nat → Prop} {s : State} {args : Array Value} (h : vx_L C n d A s s.heap) : (Cond.laysStatic C n d).before args s = true := by
  obtain ⟨c, k, i, f, a, cell, h1, h2, h3, h4, h5, h6, h7, h8, h9, -⟩ := h
  show (Cond.laysStatic C n d).holds args s none s [] = true
  exact Cond.laysStatic_of h1 h2 h3 h4 h5 h6 h7 h8 h9
/-- .. and what it holds: null or some reference -/
def vx_Zq (C n d : String) (A : Nat → Prop) (U : State) (H : Heap) : Prop := va_Zq C n d A U H ∧ vx_L C n d A U H
theorem vx_Zq.moved {C n d : String} {A : Nat → Prop} {u U : State} {H : Heap} (hvm : u.vm.Alike U.vm) (h : vx_Zq C n d A u H) : vx_Zq C n d A U H := ⟨va_Zq.moved hvm h.1, vx_L.moved hvm h.2⟩
theorem vx_Zq.kept {C n d : String} {A : Nat → Prop} {U : State} {H H1 : Heap} (h : vx_Zq C n d A U H) (hq : ∀ a : Nat, a < H.size → ¬ A a → H1[a]? = H[a]?) : vx_Zq C n d A U H1 := ⟨va_Zq.kept h.1 hq, vx_L.kept h.2 hq⟩
theorem vx_Zq.narrow {C n d : String} {A B : Nat → Prop} {U : State} {H : Heap} (h : vx_Zq C n d A U H) (hAB : ∀ q, B q → A q) : vx_Zq C n d B U H := ⟨va_Zq.narrow h.1 hAB, vx_L.narrow h.2 hAB⟩
theorem vx_Zqof {args : Array Value} {s : State} {C n d : String} {A : Nat → Prop} (hl : (Cond.laysStatic C n d).before args s = true) (hini : (Cond.initialized C).before args s = true) (h : (Cond.isRef (.static C n d)).before args s = true) (hA : ∀ a : Nat, a < s.heap.size → ¬ A a) : vx_Zq C n d A s s.heap := by
  refine ⟨va_Zqof hl hini h hA, ?_⟩
  obtain ⟨c, k, i, f, a, cell, h1, h2, h3, h4, h5, h6, h7, h8, h9⟩ := Cond.laysStatic_spec hl
  exact ⟨c, k, i, f, a, cell, h1, h2, h3, h4, h5, h6, h7, h8, h9, hA a (Array.getElem?_eq_some_iff.mp h5).1⟩
theorem vx_isRef {C n d : String} {v : Value} {A : Nat → Prop} {s : State} {args : Array Value} (h : va_Z C n d v A s s.heap) (hv : v.isRef = true) : (Cond.isRef (.static C n d)).before args s = true := by
  obtain ⟨cf, kf, fi, f, a, cell, h1, h2, h3, h4, h5, h6, h7, -⟩ := h
  have he : (Term.static C n d).eval args s none [] s = some v := by
    simp [Term.eval, State.fieldNamed?, h1, h2, h4, h5, h6, h7]
  simp only [Cond.before, Cond.holds, Cond.value, he]
  cases v <;> simp_all [Value.isRef]
theorem vx_isRefq {C n d : String} {A : Nat → Prop} {s : State} {args : Array Value} (h : va_Zq C n d A s s.heap) : (Cond.isRef (.static C n d)).before args s = true := by
  rcases h with h | ⟨t, h⟩
  · exact vx_isRef h rfl
  · exact vx_isRef h rfl
/-- the same frame, seen from here: as if the method were called anew in this heap -/
theorem vx_rebase {T : State} (X : Stand p l e R s m args below meth c T locs cells slots) {R' : Room} (hf : R'.frames ≤ R.frames) (hl : R'.locals ≤ R.locals) (hc : cells + R'.cells ≤ R.cells) (hs : slots + R'.slots ≤ R.slots) :
    Stand p l e R' ((T.setVm s.vm).setFrames (.invoking m args :: below)) m args below meth c T [] 0 0 := by
  have htop : (T.setVm s.vm).topJava?.isSome := X.here.top
  have hF : ((T.setVm s.vm).setFrames (.invoking m args :: below)).frames = .invoking m args :: below := State.frames_setFrames _ (State.cur_lt_of_top htop)
  obtain ⟨g₀, hg0⟩ := Option.isSome_iff_exists.mp htop
  obtain ⟨r, hr⟩ := State.topJava?_eq_some.mp hg0
  have hl9 : e.platform.stackLimits (T.setVm s.vm).me = e.platform.stackLimits s.me := X.limits
  have hb9 : (T.setVm s.vm).me.stackBytes = s.me.stackBytes := X.bytes
  refine ⟨X.admits, X.cas, X.clock, hF, ?_, X.hears, X.method, X.code, X.here, X.tail, X.warmed, ?_, ?_, ?_⟩
  · have h := X.room
    have hU : ((T.setVm s.vm).setFrames (.invoking m args :: below)).localsInUse = s.localsInUse := by
      rw [State.localsInUse_invoking hF (meth := meth) (c := c) X.method X.code, State.localsInUse_invoking X.frames X.method X.code]
    simp only [State.hasRoom, Bool.and_eq_true, decide_eq_true_eq] at h ⊢
    obtain ⟨⟨⟨⟨h1, h2, h3, h4, h5, h6⟩, h7⟩, h8⟩, h9⟩ := h
    rw [X.frames, List.length_cons] at h2 h3
    have q1 := X.heapSize
    have q2 := X.used
    simp only [hF, hU, List.length_cons, State.stackLimits_setFrames, State.stackBytes_setFrames, hl9, hb9]
    refine ⟨⟨⟨⟨by omega, by omega, by omega, by omega, by omega, h6⟩, ?_⟩, ?_⟩, X.book⟩
    · show T.heap.size + R'.cells ≤ e.platform.maxCells
      omega
    · show T.slotsUsed + R'.slots ≤ e.platform.maxSlots
      omega
  · rw [State.stackLimits_setFrames]; rfl
  · rw [State.stackBytes_setFrames]; rfl
  · refine ⟨?_, Nat.le_refl _, Nat.le_refl _, ?_, ?_, fun a c9 h9 => ⟨c9, h9, rfl, rfl, fun _ _ => rfl⟩⟩
    · obtain ⟨t, ht, -⟩ := State.frames_cons hr
      show T.setVm s.vm = { ((T.setVm s.vm).setFrames (.invoking m args :: below)).setFrames (T.setVm s.vm).frames with heap := T.heap, slotsUsed := T.slotsUsed }
      rw [State.setFrames_setFrames, State.setFrames_self ht]
      rfl
    · show T.slotsUsed = T.slotsUsed + ((T.heap.toList.drop T.heap.size).map (·.slots.size)).sum
      rw [List.drop_eq_nil_of_le (Nat.le_of_eq Array.length_toList)]
      rfl
    · show ((T.heap.toList.drop T.heap.size).map (·.slots.size)).sum ≤ 0
      rw [List.drop_eq_nil_of_le (Nat.le_of_eq Array.length_toList)]
      exact Nat.le_refl _
/-- 'throw new E()': new; dup; invokespecial; athrow -/
theorem vx_throw0 {cc : ByteArray} {pc : Nat} (hexec : p.tables.exec = Jvm.exec) (hb : c.code = cc) (hl : l.stackTraces = false) {own cls : String} {names : List String} {ik ic mc ms : Nat} {A : Nat → Prop}
    (hown : s.vm.findClass own = some m.cls) (hcls : Bundle.fit cls = true) (hnames : ∀ n ∈ names, Bundle.fit n = true)
    (hk : (Cond.classLink own ik cls).before args s = true) (hini : (Cond.initialized cls).before args s = true) (hat : ∀ w ∈ vx_at0 own ic cls names, w.before args s = true)
    (hgood : ∀ w ∈ Cond.classLink own ik cls :: Cond.initialized cls :: vx_at0 own ic cls names, vx_ot w = true)
    (hU : vx_Zq Bundle.tN "UNASSIGNED_STACK" Bundle.steD A s s.heap) (hN : vx_Zq Bundle.tN "SUPPRESSED_SENTINEL" Bundle.listD A s s.heap) (hS : va_S A s.heap H locs) (hsize : ls.size = c.maxLocals)
    (d0 : decode cc pc = .ok (.new ik, 3)) (d3 : decode cc (pc + 3) = .ok (.dup, 1)) (d4 : decode cc (pc + 4) = .ok (.invokespecial ic, 3)) (d7 : decode cc (pc + 7) = .ok (.athrow, 1))
    (hout : ∀ x ∈ c.exceptionTable.toList, covers x (pc + 7) = false)
    (hRframes : names.length + 3 < R.frames) (hRlocals : (rest.map fun v => v.category).sum + (13 * (names.length + 1) + 42) ≤ R.locals) (hRcells : cells + 1 ≤ R.cells) (hRslots : slots + 6 ≤ R.slots) (hlocks : meth.locks = false)
    (hx : ∀ t : State, s.vm.Alike t.vm → H.size ≤ t.heap.size → (∀ q : Nat, q < H.size → t.heap[q]? = H[q]?) → XC cls s t)
    (hf : ∀ z ∈ locs, free z.base) (hc : cells + 1 ≤ mc) (hs : slots + 6 ≤ ms) :
    W p l e R s m args below meth c H locs cells slots (vx_MQ below Qc XC args s mc ms free) (F0 m pc ls rest) := by
  intro T hT X
  have htr : e.platform.stackTraces = false := (show e.platform.stackTraces = l.stackTraces by rw [X.admits.platform]).trans hl
  have Y := vx_rebase X (R' := { frames := R.frames, locals := R.locals, cells := 1, slots := 6 }) (Nat.le_refl _) (Nat.le_refl _) hRcells hRslots
  obtain ⟨s', hA⟩ : ∃ z, z = (T.setVm s.vm).setFrames (.invoking m args :: below) := ⟨_, rfl⟩
  rw [← hA] at Y
  have hvm : s'.vm = s.vm := by rw [hA]; rfl
  have hhp : s'.heap = H := by rw [hA]; exact hT
  have hW0 : s.WarmedH s'.vm := by rw [hvm]; exact State.WarmedH.refl s
  have hat' : ∀ w ∈ vx_at0 own ic cls names, w.before args s' = true := fun w hw => vx_ot_at hW0 hvm.symm (hgood w (List.mem_cons_of_mem _ (List.mem_cons_of_mem _ hw))) (hat w hw)
  have hk' : (Cond.classLink own ik cls).before args s' = true := vx_ot_at hW0 hvm.symm (hgood _ List.mem_cons_self) hk
  have hini' : (Cond.initialized cls).before args s' = true := vx_ot_at hW0 hvm.symm (hgood _ (List.mem_cons_of_mem _ List.mem_cons_self)) hini
  have hU' : vx_Zq Bundle.tN "UNASSIGNED_STACK" Bundle.steD A s' s'.heap := by rw [hhp]; exact vx_Zq.moved hW0.alike (hU.kept hS.2.1)
  have hN' : vx_Zq Bundle.tN "SUPPRESSED_SENTINEL" Bundle.listD A s' s'.heap := by rw [hhp]; exact vx_Zq.moved hW0.alike (hN.kept hS.2.1)
  have h : ∀ w ∈ Bundle.ownAtoms0 own ic cls names, w.before args s' = true := vx_own hat' (vx_isRefq hU'.1) (vx_isRefq hN'.1) hU'.2.word hN'.2.word
  have hown' : s'.vm.findClass own = some m.cls := by rw [hvm]; exact hown
  have hins : (Cond.instantiable cls 6).before args s' = true := h _ (by simp [Bundle.ownAtoms0])
  obtain ⟨vm₁, cX, kX, hfX, hkX, -, -, X₁, st1⟩ := Y.newCold hexec (own := own) (C := cls) (index := ik) (n := 6) hown' hk' hins hini'
    (g := F0 m pc ls rest) rfl (by rw [hb]; exact d0) (Nat.le_refl _) (Nat.le_refl _)
  generalize hT1 : (T.setVm vm₁).pushCell { cls := cX, slots := kX.instanceTypes.map defaultValue, vm := .none } = T1 at X₁ st1
  have hcat : (Value.ref T.heap.size).category = 1 := rfl
  have hcellA : T1.heap[T.heap.size]? = some (freshCell cX kX) := by rw [← hT1]; exact State.heap_pushCell_size _ _
  have d3' : decode c.code (pc + 3) = .ok (.dup, 1) := by rw [hb]; exact d3
  obtain ⟨U, hsteps, hrun, hend, hW, hsame, ce, hce, hO⟩ := X₁.ctorThrow0 hexec htr (own := own) (cls := cls) (names := names) (ic := ic) hown' hcls hnames h (fun x hx => nomatch hx) hfX hkX hcellA (by rw [hhp, hT]; exact Nat.le_refl _)
    (g := { method := m, pc := pc + 4, locals := ls, stack := .ref T.heap.size :: .ref T.heap.size :: rest, locked := none }) rfl hsize rfl rfl (rest := rest) rfl
    (by rw [hb]; exact d4) (by rw [hb]; exact d7) hout hRframes (by simp only [List.map_cons, List.sum_cons, hcat]; omega) hlocks
  obtain ⟨f1, f2⟩ := vx_frame hsame
  rw [hhp] at f1 f2
  have hWs : s.WarmedH U.vm := State.WarmedH.trans hW0 hW
  have hcl : s.vm.findClass cls = some ce.cls := by
    have h9 := hO.cls
    rw [hvm] at h9
    exact h9
  have hall : s.sameButNew ({ U with vm := s.vm } : State) locs mc ms := by
    subst hA
    obtain ⟨e1, e2⟩ := hsame
    rw [State.setFrames_setFrames] at e1
    have h2 : (T.setVm s.vm).sameButNew ({ U with vm := s.vm } : State) [] (0 + 1) (0 + 6) := ⟨e1, e2⟩
    have h3 := X.same.trans h2
    rw [List.append_nil] at h3
    exact h3.mono hc hs
  refine ⟨U, ?_, .threw T.heap.size, hrun, hend, Or.inr ⟨T.heap.size, rfl, cls, ce, locs, hx U hWs.alike f1 (fun q hq => f2 q hq (fun z hz => nomatch hz)), hce, hO.vm, hcl, hWs, hall, hf⟩⟩
  refine st1 _ ?_
  show Steps p.tables e below (T1.setTop { method := m, pc := pc + 3, locals := ls, stack := .ref T.heap.size :: rest, locked := none }) _
  jvm_step X₁.here [X₁.here.top, hexec, d3', Value.category]
  exact hsteps
/-- 'throw new E("text")': new; dup; ldc; invokespecial; athrow -/
theorem vx_throwS {cc : ByteArray} {pc : Nat} (hexec : p.tables.exec = Jvm.exec) (hb : c.code = cc) (hl : l.stackTraces = false) {own cls text : String} {names : List String} {ik is ic mc ms sa : Nat} {A : Nat → Prop}
    (hown : s.vm.findClass own = some m.cls) (hcls : Bundle.fit cls = true) (hnames : ∀ n ∈ names, Bundle.fit n = true)
    (hk : (Cond.classLink own ik cls).before args s = true) (hini : (Cond.initialized cls).before args s = true) (hstr : vk_R own is text sa s) (hat : ∀ w ∈ vx_atS own ic cls names, w.before args s = true)
    (hgood : ∀ w ∈ Cond.classLink own ik cls :: Cond.initialized cls :: vx_atS own ic cls names, vx_ot w = true)
    (hU : vx_Zq Bundle.tN "UNASSIGNED_STACK" Bundle.steD A s s.heap) (hN : vx_Zq Bundle.tN "SUPPRESSED_SENTINEL" Bundle.listD A s s.heap) (hS : va_S A s.heap H locs) (hsize : ls.size = c.maxLocals)
    (d0 : decode cc pc = .ok (.new ik, 3)) (d3 : decode cc (pc + 3) = .ok (.dup, 1)) (d4 : decode cc (pc + 4) = .ok (.ldc is, 2)) (d6 : decode cc (pc + 6) = .ok (.invokespecial ic, 3)) (d9 : decode cc (pc + 9) = .ok (.athrow, 1))
    (hout : ∀ x ∈ c.exceptionTable.toList, covers x (pc + 9) = false)
    (hRframes : names.length + 3 < R.frames) (hRlocals : (rest.map fun v => v.category).sum + (13 * (names.length + 1) + 43) ≤ R.locals) (hRcells : cells + 1 ≤ R.cells) (hRslots : slots + 6 ≤ R.slots) (hlocks : meth.locks = false)
    (hx : ∀ t : State, s.vm.Alike t.vm → H.size ≤ t.heap.size → (∀ q : Nat, q < H.size → t.heap[q]? = H[q]?) → XC cls s t)
    (hf : ∀ z ∈ locs, free z.base) (hc : cells + 1 ≤ mc) (hs : slots + 6 ≤ ms) :
    W p l e R s m args below meth c H locs cells slots (vx_MQ below Qc XC args s mc ms free) (F0 m pc ls rest) := by
  intro T hT X
  have htr : e.platform.stackTraces = false := (show e.platform.stackTraces = l.stackTraces by rw [X.admits.platform]).trans hl
  have Y := vx_rebase X (R' := { frames := R.frames, locals := R.locals, cells := 1, slots := 6 }) (Nat.le_refl _) (Nat.le_refl _) hRcells hRslots
  obtain ⟨s', hA⟩ : ∃ z, z = (T.setVm s.vm).setFrames (.invoking m args :: below) := ⟨_, rfl⟩
  rw [← hA] at Y
  have hvm : s'.vm = s.vm := by rw [hA]; rfl
  have hhp : s'.heap = H := by rw [hA]; exact hT
  have hW0 : s.WarmedH s'.vm := by rw [hvm]; exact State.WarmedH.refl s
  have hat' : ∀ w ∈ vx_atS own ic cls names, w.before args s' = true := fun w hw => vx_ot_at hW0 hvm.symm (hgood w (List.mem_cons_of_mem _ (List.mem_cons_of_mem _ hw))) (hat w hw)
  have hk' : (Cond.classLink own ik cls).before args s' = true := vx_ot_at hW0 hvm.symm (hgood _ List.mem_cons_self) hk
  have hini' : (Cond.initialized cls).before args s' = true := vx_ot_at hW0 hvm.symm (hgood _ (List.mem_cons_of_mem _ List.mem_cons_self)) hini
  have hU' : vx_Zq Bundle.tN "UNASSIGNED_STACK" Bundle.steD A s' s'.heap := by rw [hhp]; exact vx_Zq.moved hW0.alike (hU.kept hS.2.1)
  have hN' : vx_Zq Bundle.tN "SUPPRESSED_SENTINEL" Bundle.listD A s' s'.heap := by rw [hhp]; exact vx_Zq.moved hW0.alike (hN.kept hS.2.1)
  have h : ∀ w ∈ Bundle.ownAtoms own ic cls names, w.before args s' = true := vx_own hat' (vx_isRefq hU'.1) (vx_isRefq hN'.1) hU'.2.word hN'.2.word
  have hown' : s'.vm.findClass own = some m.cls := by rw [hvm]; exact hown
  have hins : (Cond.instantiable cls 6).before args s' = true := h _ (by simp [Bundle.ownAtoms])
  obtain ⟨vm₁, cX, kX, hfX, hkX, -, -, X₁, st1⟩ := Y.newCold hexec (own := own) (C := cls) (index := ik) (n := 6) hown' hk' hins hini'
    (g := F0 m pc ls rest) rfl (by rw [hb]; exact d0) (Nat.le_refl _) (Nat.le_refl _)
  generalize hT1 : (T.setVm vm₁).pushCell { cls := cX, slots := kX.instanceTypes.map defaultValue, vm := .none } = T1 at X₁ st1
  have hcat : (Value.ref T.heap.size).category = 1 := rfl
  have hcellA : T1.heap[T.heap.size]? = some (freshCell cX kX) := by rw [← hT1]; exact State.heap_pushCell_size _ _
  have d3' : decode c.code (pc + 3) = .ok (.dup, 1) := by rw [hb]; exact d3
  have d4' : decode c.code (pc + 4) = .ok (.ldc is, 2) := by rw [hb]; exact d4
  have hstr' : vk_R own is text sa s' := vk_R.warm hW0 hstr
  obtain ⟨U, hsteps, hrun, hend, hW, hsame, ce, hce, hO⟩ := X₁.ctorThrowS hexec htr (own := own) (cls := cls) (names := names) (ic := ic) hown' hcls hnames h (fun x hx => nomatch hx) hfX hkX hcellA (by rw [hhp, hT]; exact Nat.le_refl _) (msg := .ref sa) rfl
    (g := { method := m, pc := pc + 6, locals := ls, stack := .ref sa :: .ref T.heap.size :: .ref T.heap.size :: rest, locked := none }) rfl hsize rfl rfl (rest := rest) rfl
    (by rw [hb]; exact d6) (by rw [hb]; exact d9) hout hRframes (by simp only [List.map_cons, List.sum_cons, hcat]; omega) hlocks
  obtain ⟨f1, f2⟩ := vx_frame hsame
  rw [hhp] at f1 f2
  have hWs : s.WarmedH U.vm := State.WarmedH.trans hW0 hW
  have hcl : s.vm.findClass cls = some ce.cls := by
    have h9 := hO.cls
    rw [hvm] at h9
    exact h9
  have hall : s.sameButNew ({ U with vm := s.vm } : State) locs mc ms := by
    subst hA
    obtain ⟨e1, e2⟩ := hsame
    rw [State.setFrames_setFrames] at e1
    have h2 : (T.setVm s.vm).sameButNew ({ U with vm := s.vm } : State) [] (0 + 1) (0 + 6) := ⟨e1, e2⟩
    have h3 := X.same.trans h2
    rw [List.append_nil] at h3
    exact h3.mono hc hs
  refine ⟨U, ?_, .threw T.heap.size, hrun, hend, Or.inr ⟨T.heap.size, rfl, cls, ce, locs, hx U hWs.alike f1 (fun q hq => f2 q hq (fun z hz => nomatch hz)), hce, hO.vm, hcl, hWs, hall, hf⟩⟩
  refine st1 _ ?_
  show Steps p.tables e below (T1.setTop { method := m, pc := pc + 3, locals := ls, stack := .ref T.heap.size :: rest, locked := none }) _
  jvm_step X₁.here [X₁.here.top, hexec, d3', Value.category]
  exact X₁.ldcString hexec (own := own) (text := text) (index := is) (a := sa) hown' hstr'.1 hstr'.2
    (g := { method := m, pc := pc + 4, locals := ls, stack := .ref T.heap.size :: .ref T.heap.size :: rest, locked := none }) rfl d4' _ hsteps
/-- 'throw new E("text")', the text by a wide index -/
theorem vx_throwSW {cc : ByteArray} {pc : Nat} (hexec : p.tables.exec = Jvm.exec) (hb : c.code = cc) (hl : l.stackTraces = false) {own cls text : String} {names : List String} {ik is ic mc ms sa : Nat} {A : Nat → Prop}
    (hown : s.vm.findClass own = some m.cls) (hcls : Bundle.fit cls = true) (hnames : ∀ n ∈ names, Bundle.fit n = true)
    (hk : (Cond.classLink own ik cls).before args s = true) (hini : (Cond.initialized cls).before args s = true) (hstr : vk_R own is text sa s) (hat : ∀ w ∈ vx_atS own ic cls names, w.before args s = true)
    (hgood : ∀ w ∈ Cond.classLink own ik cls :: Cond.initialized cls :: vx_atS own ic cls names, vx_ot w = true)
    (hU : vx_Zq Bundle.tN "UNASSIGNED_STACK" Bundle.steD A s s.heap) (hN : vx_Zq Bundle.tN "SUPPRESSED_SENTINEL" Bundle.listD A s s.heap) (hS : va_S A s.heap H locs) (hsize : ls.size = c.maxLocals)
    (d0 : decode cc pc = .ok (.new ik, 3)) (d3 : decode cc (pc + 3) = .ok (.dup, 1)) (d4 : decode cc (pc + 4) = .ok (.ldc_w is, 3)) (d7 : decode cc (pc + 7) = .ok (.invokespecial ic, 3)) (d10 : decode cc (pc + 10) = .ok (.athrow, 1))
    (hout : ∀ x ∈ c.exceptionTable.toList, covers x (pc + 10) = false)
    (hRframes : names.length + 3 < R.frames) (hRlocals : (rest.map fun v => v.category).sum + (13 * (names.length + 1) + 43) ≤ R.locals) (hRcells : cells + 1 ≤ R.cells) (hRslots : slots + 6 ≤ R.slots) (hlocks : meth.locks = false)
    (hx : ∀ t : State, s.vm.Alike t.vm → H.size ≤ t.heap.size → (∀ q : Nat, q < H.size → t.heap[q]? = H[q]?) → XC cls s t)
    (hf : ∀ z ∈ locs, free z.base) (hc : cells + 1 ≤ mc) (hs : slots + 6 ≤ ms) :
    W p l e R s m args below meth c H locs cells slots (vx_MQ below Qc XC args s mc ms free) (F0 m pc ls rest) := by
  intro T hT X
  have htr : e.platform.stackTraces = false := (show e.platform.stackTraces = l.stackTraces by rw [X.admits.platform]).trans hl
  have Y := vx_rebase X (R' := { frames := R.frames, locals := R.locals, cells := 1, slots := 6 }) (Nat.le_refl _) (Nat.le_refl _) hRcells hRslots
  obtain ⟨s', hA⟩ : ∃ z, z = (T.setVm s.vm).setFrames (.invoking m args :: below) := ⟨_, rfl⟩
  rw [← hA] at Y
  have hvm : s'.vm = s.vm := by rw [hA]; rfl
  have hhp : s'.heap = H := by rw [hA]; exact hT
  have hW0 : s.WarmedH s'.vm := by rw [hvm]; exact State.WarmedH.refl s
  have hat' : ∀ w ∈ vx_atS own ic cls names, w.before args s' = true := fun w hw => vx_ot_at hW0 hvm.symm (hgood w (List.mem_cons_of_mem _ (List.mem_cons_of_mem _ hw))) (hat w hw)
  have hk' : (Cond.classLink own ik cls).before args s' = true := vx_ot_at hW0 hvm.symm (hgood _ List.mem_cons_self) hk
  have hini' : (Cond.initialized cls).before args s' = true := vx_ot_at hW0 hvm.symm (hgood _ (List.mem_cons_of_mem _ List.mem_cons_self)) hini
  have hU' : vx_Zq Bundle.tN "UNASSIGNED_STACK" Bundle.steD A s' s'.heap := by rw [hhp]; exact vx_Zq.moved hW0.alike (hU.kept hS.2.1)
  have hN' : vx_Zq Bundle.tN "SUPPRESSED_SENTINEL" Bundle.listD A s' s'.heap := by rw [hhp]; exact vx_Zq.moved hW0.alike (hN.kept hS.2.1)
  have h : ∀ w ∈ Bundle.ownAtoms own ic cls names, w.before args s' = true := vx_own hat' (vx_isRefq hU'.1) (vx_isRefq hN'.1) hU'.2.word hN'.2.word
  have hown' : s'.vm.findClass own = some m.cls := by rw [hvm]; exact hown
  have hins : (Cond.instantiable cls 6).before args s' = true := h _ (by simp [Bundle.ownAtoms])
  obtain ⟨vm₁, cX, kX, hfX, hkX, -, -, X₁, st1⟩ := Y.newCold hexec (own := own) (C := cls) (index := ik) (n := 6) hown' hk' hins hini'
    (g := F0 m pc ls rest) rfl (by rw [hb]; exact d0) (Nat.le_refl _) (Nat.le_refl _)
  generalize hT1 : (T.setVm vm₁).pushCell { cls := cX, slots := kX.instanceTypes.map defaultValue, vm := .none } = T1 at X₁ st1
  have hcat : (Value.ref T.heap.size).category = 1 := rfl
  have hcellA : T1.heap[T.heap.size]? = some (freshCell cX kX) := by rw [← hT1]; exact State.heap_pushCell_size _ _
  have d3' : decode c.code (pc + 3) = .ok (.dup, 1) := by rw [hb]; exact d3
  have d4' : decode c.code (pc + 4) = .ok (.ldc_w is, 3) := by rw [hb]; exact d4
  have hstr' : vk_R own is text sa s' := vk_R.warm hW0 hstr
  obtain ⟨U, hsteps, hrun, hend, hW, hsame, ce, hce, hO⟩ := X₁.ctorThrowS hexec htr (own := own) (cls := cls) (names := names) (ic := ic) hown' hcls hnames h (fun x hx => nomatch hx) hfX hkX hcellA (by rw [hhp, hT]; exact Nat.le_refl _) (msg := .ref sa) rfl
    (g := { method := m, pc := pc + 7, locals := ls, stack := .ref sa :: .ref T.heap.size :: .ref T.heap.size :: rest, locked := none }) rfl hsize rfl rfl (rest := rest) rfl
    (by rw [hb]; exact d7) (by rw [hb]; exact d10) hout hRframes (by simp only [List.map_cons, List.sum_cons, hcat]; omega) hlocks
  obtain ⟨f1, f2⟩ := vx_frame hsame
  rw [hhp] at f1 f2
  have hWs : s.WarmedH U.vm := State.WarmedH.trans hW0 hW
  have hcl : s.vm.findClass cls = some ce.cls := by
    have h9 := hO.cls
    rw [hvm] at h9
    exact h9
  have hall : s.sameButNew ({ U with vm := s.vm } : State) locs mc ms := by
    subst hA
    obtain ⟨e1, e2⟩ := hsame
    rw [State.setFrames_setFrames] at e1
    have h2 : (T.setVm s.vm).sameButNew ({ U with vm := s.vm } : State) [] (0 + 1) (0 + 6) := ⟨e1, e2⟩
    have h3 := X.same.trans h2
    rw [List.append_nil] at h3
    exact h3.mono hc hs
  refine ⟨U, ?_, .threw T.heap.size, hrun, hend, Or.inr ⟨T.heap.size, rfl, cls, ce, locs, hx U hWs.alike f1 (fun q hq => f2 q hq (fun z hz => nomatch hz)), hce, hO.vm, hcl, hWs, hall, hf⟩⟩
  refine st1 _ ?_
  show Steps p.tables e below (T1.setTop { method := m, pc := pc + 3, locals := ls, stack := .ref T.heap.size :: rest, locked := none }) _
  jvm_step X₁.here [X₁.here.top, hexec, d3', Value.category]
  exact X₁.ldcStringW hexec (own := own) (text := text) (index := is) (a := sa) hown' hstr'.1 hstr'.2
    (g := { method := m, pc := pc + 4, locals := ls, stack := .ref T.heap.size :: .ref T.heap.size :: rest, locked := none }) rfl d4' _ hsteps
end Ends
section Bodies
variable {l : Launch}
theorem vx_ofW {y : MethodName} {ws ws' : List Cond} {rm : Room} {Pc : Array Value → State → Prop} {Qc : Array Value → State → Outcome → State → Prop} {XC : String → State → State → Prop} {mc ms : Nat} {free : Addr → Prop} {cc : ByteArray} {maxL : Nat} {ret : Option FieldType}
    (hy : plainName y.cls = true) (hw : ws = Cond.code y cc maxL ret :: ws')
    (body : ∀ p e s m args below meth c s₁, BodyLoose p l y (headSpec ws rm) cc maxL ret e s m args below meth c s₁ → c.maxLocals = maxL → (∀ x ∈ c.exceptionTable.toList, False) → Pc args s →
      W p l e (headSpec ws rm).room s m args below meth c s.heap [] 0 0 (vx_MQ below Qc XC args s mc ms free) (entryFrame m args maxL)) : vx_Met l y ws rm Pc Qc XC mc ms free := by
  refine MetFree.of_bodyS (code := cc) (maxLocals := maxL) (ret := ret) hy ?_ ?_
  · intro args s m h hn
    obtain ⟨meth, c, h1, h2, h3, h4, h5, h6, -, -⟩ := Cond.code_spec hn (atoms_spec (ws := ws) h _ (by rw [hw]; exact List.mem_cons_self))
    exact ⟨meth, c, h1, h2, h3, h4, h5, h6⟩
  · intro p e s m args below meth c s₁ B hml hP _
    have hh0 : s₁.heap = s.heap := by rw [B.state]; rfl
    have ht : ∀ x ∈ c.exceptionTable.toList, False := by
      obtain ⟨meth9, c9, h1, h2, -, -, -, -, h7, -⟩ := Cond.code_spec B.named (atoms_spec (ws := ws) B.pre _ (by rw [hw]; exact List.mem_cons_self))
      cases Option.some.inj (h1.symm.trans B.method)
      cases Option.some.inj (h2.symm.trans (Stand.of_body B).code)
      intro x hx
      rw [Array.isEmpty_iff.mp h7] at hx
      cases hx
    obtain ⟨t, a1, o, b1, b2, b3⟩ := body p e s m args below meth c s₁ B hml ht hP s₁ hh0 (Stand.of_body B)
    exact ⟨t, o, a1, b1, b2, b3⟩
/-- the table of a body with handlers -/
theorem vx_table {p : Program} {x y : MethodName} {S : Spec} {cc bytes : ByteArray} {maxL maxL' : Nat} {ret ret' : Option FieldType} {e : Env} {s s₁ : State} {m : MethodId} {args : Array Value} {below : List Frame} {meth : Method} {c : Code} {hh : List (Nat × Nat × Nat × Nat)}
    (B : BodyLoose p l y S cc maxL ret e s m args below meth c s₁) (h : (Cond.codeWith y bytes maxL' ret' hh).before args s = true) : c.exceptionTable.toList = tableOf hh := by
  obtain ⟨m9, meth9, c9, hn9, h1, h2, -, -, h6, -⟩ := Cond.codeWith_spec h
  cases Option.some.inj (hn9.symm.trans B.named)
  cases Option.some.inj (h1.symm.trans B.method)
  cases Option.some.inj (h2.symm.trans (Stand.of_body B).code)
  rw [← h6, table_eq]
end Bodies
end VXA
/-! ===== END ===== -/
/-! ===== BEGIN a static call of a method with an exception table ===== -/
section VXS
variable {p : Program} {l : Launch} {e : Env} {R : Room} {s : State} {m : MethodId} {args : Array Value} {below : List Frame} {meth : Method} {c : Code} {T : State} {H : Heap} {locs : List Loc} {cells slots : Nat}
abbrev vx_CSW (R : Room) (s : State) (args : Array Value) (own : String) (index : Nat) (y : MethodName) (bytes : ByteArray) (maxL : Nat) (ret : Option FieldType) (hh : List (Nat × Nat × Nat × Nat)) (ws : List Cond) (rm : Room) (mc ms n : Nat) : Prop :=
  (rm.cells = mc ∧ rm.slots = ms ∧ rm.frames + 1 ≤ R.frames ∧ 8 + (maxL + 11) + rm.locals ≤ R.locals ∧ (∀ w ∈ ws, ∀ (a' : Array Value) (U : State), s.WarmedH U.vm → w.before a' U = true) ∧ Cond.codeWith y bytes maxL ret hh ∈ ws) ∧
  (Cond.codeWith y bytes maxL ret hh).before args s = true ∧ (Cond.initialized y.cls).before args s = true ∧ (y.cls ≠ "java/lang/invoke/MethodHandle" ∧ y.cls ≠ "java/lang/invoke/VarHandle") ∧
  (∀ sig, parseMethodDescriptor y.desc = some sig → n = sig.parameters.length) ∧ (Cond.methodLink own index y).before args s = true ∧ (Cond.static y).before args s = true
theorem vx_cwSW {own : String} {index maxL mc ms : Nat} {y : MethodName} {bytes : ByteArray} {ret : Option FieldType} {hh : List (Nat × Nat × Nat × Nat)} {Ts ws ws' : List Cond} {rm : Room} (n : Nat) (ht : ∀ w ∈ Ts, w.before args s = true) (hT : GoodIn Ts (va_wsS own index y ws)) (hw : ws = Cond.codeWith y bytes maxL ret hh :: ws') (hrc : rm.cells = mc) (hrs : rm.slots = ms)
    (hd : y.cls ≠ "java/lang/invoke/MethodHandle" ∧ y.cls ≠ "java/lang/invoke/VarHandle" ∧ (parseMethodDescriptor y.desc).map (fun d => d.parameters.length) = some n) (hR : rm.frames + 1 ≤ R.frames ∧ 8 + (maxL + 11) + rm.locals ≤ R.locals) :
    vx_CSW R s args own index y bytes maxL ret hh ws rm mc ms n := by
  have ok : ∀ w ∈ va_wsS own index y ws, w.before args s = true := fun w h => ht w (hT w h).1
  have hG : GoodIn Ts ws := fun w h => hT w (by unfold va_wsS; exact List.mem_append_right _ h)
  have hc : Cond.codeWith y bytes maxL ret hh ∈ ws := by rw [hw]; exact List.mem_cons_self
  refine ⟨⟨hrc, hrs, hR.1, hR.2, pay_in ht hG, hc⟩, ht _ (hG _ hc).1, ok _ (by simp [va_wsS]), ⟨hd.1, hd.2.1⟩, fun sig h => ?_, ok _ (by simp [va_wsS]), ok _ (by simp [va_wsS])⟩
  have h2 := hd.2.2
  rw [h] at h2
  exact (Option.some.inj h2).symm
theorem vx_callSW (X : Stand p l e R s m args below meth c T locs cells slots) (hexec : p.tables.exec = Jvm.exec) {own : String} {index : Nat} {y : MethodName} {bytes : ByteArray} {maxL : Nat} {ret : Option FieldType} {hh : List (Nat × Nat × Nat × Nat)}
    (hown : s.vm.findClass own = some m.cls) (hlink : (Cond.methodLink own index y).before args s = true) (hstat : (Cond.static y).before args s = true) (hinit : (Cond.initialized y.cls).before args s = true)
    (hcode : (Cond.codeWith y bytes maxL ret hh).before args s = true) (hy : y.cls ≠ "java/lang/invoke/MethodHandle" ∧ y.cls ≠ "java/lang/invoke/VarHandle")
    {W9 : Nat} {Pre : Pt → Array Value → Prop} {Post : Pt → Array Value → Option Value → Pt → Prop} (hK : Back l R p e below s args y 3 W9 Pre Post)
    {g : JFrame} (hg : g.method = m) (hsize : g.locals.size = c.maxLocals) {argsL rest : List Value} (hlen : ∀ sig, parseMethodDescriptor y.desc = some sig → argsL.length = sig.parameters.length)
    (hstack : g.stack = argsL.reverse ++ rest) (hW : 2 * g.monitorRoom + (rest.map fun v => v.category).sum ≤ W9) (hdg : decode c.code g.pc = .ok (.invokestatic index, 3))
    (hpre : ∀ vm₁, s.WarmedH vm₁ → Pre ⟨T.setVm vm₁, locs, cells, slots⟩ argsL.toArray) :
    ∃ (v : Option Value) (vm₁ : Vm) (B : Pt), s.WarmedH vm₁ ∧ Stand p l e R s m args below meth c B.U B.locs B.cells B.slots ∧ Post ⟨T.setVm vm₁, locs, cells, slots⟩ argsL.toArray v B ∧
      ∀ target, Steps p.tables e below (B.U.setTop { g with pc := g.pc + 3, stack := v.toList ++ rest }) target → Steps p.tables e below (T.setTop g) target := by
  obtain ⟨mk, methM, cM, hnamed, hmethM, -, -, -, -, -, -, hsigM⟩ := Cond.codeWith_spec hcode
  have hstatic : methM.isStatic = true := Cond.static_spec hnamed hmethM hstat
  obtain ⟨kP, hkP, -⟩ := className_of_methodNamed hnamed
  have hinitP : kP.init = .initialized := Cond.initialized_spec (findClass_of_methodNamed hnamed) hkP hinit
  obtain ⟨vm₁, X₁, hstep₁⟩ := X.invokestatic hexec hown hlink hnamed hmethM hstatic hkP hinitP hy (g := g) hg (argsL := argsL) (rest := rest) (hlen _ hsigM) hstack hdg
  obtain ⟨v, B, X', hpost, hsteps⟩ := hK m meth c ⟨T.setVm vm₁, locs, cells, slots⟩ { g with stack := rest } (.invokestatic index) mk argsL.toArray X₁ hg hsize hdg hW (X₁.named hnamed) (hpre vm₁ X₁.warmed)
  exact ⟨v, vm₁, B, X₁.warmed, X', hpost, fun target h => hstep₁ _ fun acts => by rw [doInvoke_state]; exact hsteps.trans h⟩
theorem vx_runSW {y : MethodName} {bytes cc : ByteArray} {maxL nL mc ms n index : Nat} {ret : Option FieldType} {hh : List (Nat × Nat × Nat × Nat)} {ws : List Cond} {rm : Room} {Pc : Array Value → State → Prop} {Qc : Array Value → State → Outcome → State → Prop} {free : Addr → Prop} {Ts : List Cond} {own : String} {As rest : List Value} {g : JFrame}
    (S : CallFix p m c cc nL s args Ts own) (hM : Met l y ws rm Pc Qc mc ms free) (cw : vx_CSW R s args own index y bytes maxL ret hh ws rm mc ms n) (hp : PreS s H Pc As)
    (hg : g.method = m) (hn : As.length = n) (hsize : g.locals.size = nL) (hstack : g.stack = As.reverse ++ rest) (hW : 2 * g.monitorRoom + (rest.map fun v => v.category).sum ≤ 8) (hdg : decode cc g.pc = .ok (.invokestatic index, 3)) (hf : cells + mc ≤ R.cells ∧ slots + ms ≤ R.slots) :
    va_Run p l e R s m args below meth c H locs cells slots mc ms g rest (Qc As.toArray) (free) := by
  obtain ⟨⟨hrc, hrs, hfr, hlo, hws, hcw⟩, hcode, hini, hy, hlen, hl, hstt⟩ := cw
  have hK : Back l R p e below s args y 3 8 (PreOf R mc ms Pc) (PostOf Qc mc ms free) := va_backW (hh := hh) (bytes := bytes) (maxL := maxL) (ret := ret) hM hp.1 hrc hrs hfr hlo hws hcw (fun a' U hW => word_at hW (Or.inl (by first | rfl | simp [Cond.onTables, Cond.keeps, Cond.steady])) hini)
  obtain ⟨hx, hb, hml, ho, -⟩ := S
  intro T hT X
  obtain ⟨v, vm₁, ⟨U', l2, c2, s2⟩, hW₁, X', ⟨g', mk, t, L, e1, e2, hq, h1, hL, h2, h3⟩, st⟩ := vx_callSW X hx (hh := hh) (bytes := bytes) (maxL := maxL) (ret := ret) ho hl hstt hini hcode hy hK hg (hsize.trans hml.symm) (argsL := As) (rest := rest) (fun sig h => hn.trans (hlen sig h)) hstack hW (by rw [hb]; exact hdg)
    (fun vm₁ hW₁ => ⟨hf.1, hf.2, hp.2 (T.setVm vm₁) hT hW₁⟩)
  dsimp only [Pt.U, Pt.locs, Pt.cells, Pt.slots] at X' e1 e2 h1 h2 h3 st
  subst h1; subst h2; subst h3
  exact ⟨v, (T.setVm vm₁).calling g' mk As.toArray, t, U', L, hT, X', hL, e1, e2, hq, st⟩
/-- not caught here, past rows that name other classes: it goes on to the caller -/
theorem vx_outP {p : Program} {l : Launch} {e : Env} {R : Room} {s : State} {m : MethodId} {args : Array Value} {below : List Frame} {meth : Method} {c : Code} {H : Heap} {locs : List Loc} {cells slots : Nat} {free : Addr → Prop} {ls : Array Slot} {rest : List Value} {Qc : Array Value → State → Outcome → State → Prop} {XC : String → State → State → Prop}
    {pc : Nat} {own E : String} {ce : Cell} {q : Addr} {mc ms : Nat} (hown : s.vm.findClass own = some m.cls) (hlocks : meth.locks = false)
    (hpass : ∀ z ∈ c.exceptionTable.toList, covers z pc = false ∨ (z.catchType ≠ 0 ∧ ∃ nm : String, (Cond.classLink own z.catchType nm).before args s = true ∧ va_Nc E nm s)) (hcell : H[q]? = some ce) (hv : ce.vm = .none) (hcl : s.vm.findClass E = some ce.cls)
    (hx : ∀ t : State, t.heap = H → s.vm.Alike t.vm → XC E s t) (hf : ∀ z ∈ locs, free z.base) (hc : cells ≤ mc) (hs : slots ≤ ms) :
    vx_W p l e R s m args below meth c H locs cells slots (vx_MQ below Qc XC args s mc ms free) (F0 m pc ls rest) q := by
  intro T hT X
  have hpl : e.platform.magicAccessors = ({} : Platform).magicAccessors := by rw [X.admits.platform]
  obtain ⟨vm', hW', X', st⟩ := X.outThrough hlocks q (g := F0 m pc ls rest) rfl rfl rfl (cell := ce) (by rw [hT]; exact hcell) (by rw [hv]; rfl)
    (by obtain ⟨k9, h9, -⟩ := Vm.findClass_spec hcl; exact ⟨k9, h9⟩) (fun z hz => by
      rcases hpass z hz with h | ⟨hz0, nm, hl1, hn1⟩
      · exact Or.inl h
      · obtain ⟨c6, hc6, hcl6⟩ := Cond.classLink_spec hown hl1 e.platform hpl
        obtain ⟨a8, b8, h1, h2, h3⟩ := hn1
        cases Option.some.inj (h1.symm.trans hcl)
        cases Option.some.inj (h2.symm.trans hc6)
        exact Or.inr ⟨hz0, _, hcl6, h3⟩)
  obtain ⟨g₀, hfr⟩ := X'.frames_eq
  have hcell9 : ((T.setVm vm').setFrames (.throwing q :: below)).heap[q]? = some ce := by
    show T.heap[q]? = some ce
    rw [hT]; exact hcell
  have hend : Ended ((T.setVm vm').setFrames (.throwing q :: below)) below (.threw q) := State.frames_setFrames _ (State.cur_lt_of_frames hfr)
  refine ⟨(T.setVm vm').setFrames (.throwing q :: below), ?_, .threw q, X'.here.running, hend, Or.inr ⟨q, rfl, E, ce, locs, hx _ hT (X'.ends _).1.alike, hcell9, hv, hcl, (X'.ends _).1, (X'.ends _).2.mono hc hs, hf⟩⟩
  rw [X.pushThrowing_eq]
  exact st
/-- a thing of a world lies in the heap -/
theorem vx_lt {D : va_G} {cl : List vw_C} {ws : va_W} {H1 : Heap} (h : va_P D cl ws H1) {k : Nat} {q : Nat × va_E} (hk : ws[k]? = some q) : q.1 < H1.size := (h k q hk).lt
end VXS
/-! ===== END ===== -/
/-! ===== BEGIN methods with a table of their own: called by a name, returning or throwing ===== -/
section VXH
/-! vx_backW, vx_callVX, vx_callSX, vx_callVW, vx_runVW, vx_runVX, vx_runSX, vx_ofWH follow the same proofs as their sisters above (Free/Laws.lean, Shelf42/LK1.lean); vx_outP calls Shelf42/NT130.lean (outThrough). -/
section
variable {l : Launch} {R : Room} {p : Program} {e : Env} {below : List Frame} {s : State} {sargs : Array Value} {y : MethodName} {len W9 : Nat}
theorem vx_backW {ws : List Cond} {rm : Room} {Pc : Array Value → State → Prop} {Qc : Array Value → State → Outcome → State → Prop} {XC : String → State → State → Prop} {mc ms : Nat} {free : Addr → Prop} {bytes : ByteArray} {maxL : Nat} {ret : Option FieldType} {hh : List (Nat × Nat × Nat × Nat)}
    (hM : vx_Met l y ws rm Pc Qc XC mc ms free) (hblind : FrameBlind Pc) (hrc : rm.cells = mc) (hrs : rm.slots = ms)
    (hframes : rm.frames + 1 ≤ R.frames) (hlocals : W9 + (maxL + 11) + rm.locals ≤ R.locals)
    (hws : ∀ w ∈ ws, ∀ a' U, s.WarmedH U.vm → w.before a' U = true) (hcode : Cond.codeWith y bytes maxL ret hh ∈ ws) (hinit : ∀ a' U, s.WarmedH U.vm → (Cond.initialized y.cls).before a' U = true) :
    vx_Back l R p e below s sargs y len W9 (PreOf R mc ms Pc) (PostOf Qc mc ms free) (vx_Post XC mc ms free) := by
  intro m meth c A g ig mk a X hg hsize hdg hW hn hp
  have h1 : (headSpec ws rm).pre.before a A.U = true := atoms_intro fun w hw => hws w hw _ _ X.warmed
  have h2 : (Cond.codeWith y bytes maxL ret hh).before a A.U = true := hws _ hcode _ _ X.warmed
  have h3 : (Cond.initialized y.cls).before a A.U = true := hinit _ _ X.warmed
  have h4 : A.cells + (headSpec ws rm).room.cells ≤ R.cells := by rw [show (headSpec ws rm).room.cells = mc from hrc]; exact hp.1
  have h5 : A.slots + (headSpec ws rm).room.slots ≤ R.slots := by rw [show (headSpec ws rm).room.slots = ms from hrs]; exact hp.2.1
  have hPc : Pc a (A.U.calling g mk a) := hblind _ _ _ _ hp.2.2
  obtain ⟨U, Ls, c0, s0⟩ := A
  dsimp only [Pt.U, Pt.locs, Pt.cells, Pt.slots] at h1 h2 h3 h4 h5 X hn hPc ⊢
  obtain ⟨m9, methY, cY, hn9, hmY, hcY, -, hlY, -⟩ := Cond.codeWith_spec h2
  cases Option.some.inj (hn9.symm.trans hn)
  obtain ⟨kY, hkY, -⟩ := className_of_methodNamed hn
  have hinitY : kY.init = .initialized := Cond.initialized_spec (findClass_of_methodNamed hn) hkY h3
  have h : At U g.method c below := by rw [hg]; exact X.here
  have hlocals9 : W9 + (maxL + 11) + (headSpec ws rm).room.locals ≤ R.locals := hlocals
  have happ : (headSpec ws rm).appliesLoose y e.platform (U.calling g mk a) = true :=
    Spec.appliesLoose_calling (g := g) h hdg hn hkY hinitY
      (X.room_calling (g := g) (R' := (headSpec ws rm).room) hsize hmY hcY hframes (by rw [hlY]; omega) h4 h5) h1
  obtain ⟨mid, hmid⟩ := h.above
  have hfr : (U.setTop g).frames = (.java g :: mid) ++ below := by rw [State.frames_setTop' g h.top, hmid]; rfl
  obtain ⟨o, s₂, hsteps, -, hend, hq⟩ := Steps.callFree hM p X.admits X.cas X.clock (acts := []) hfr happ hPc trivial
  have hq' : vx_Q Qc XC mc ms free a (U.calling g mk a) o s₂ := hq
  rw [State.frames_setTop' g h.top] at hend
  obtain ⟨g₀, hg0⟩ := Option.isSome_iff_exists.mp h.top
  obtain ⟨r, hr⟩ := State.topJava?_eq_some.mp hg0
  have hr' : (({ U with heap := s₂.heap, slotsUsed := s₂.slotsUsed } : State).setVm s₂.vm).frames = .java g₀ :: r := hr
  rcases hq' with ⟨hqc, L, hfe, hL⟩ | ⟨q, rfl, E, ce, L, hx, hce, hcv, hcl, hW₂, hsm, hL⟩
  · obtain ⟨⟨v, rfl⟩, hW₂, e2, q2, q3, q4, q5, q6⟩ := id hfe
    have e3 : s₂ = ({ (U.calling g mk a).setFrames s₂.frames with heap := s₂.heap, slotsUsed := s₂.slotsUsed } : State).setVm s₂.vm := by
      have : s₂ = ({ s₂ with vm := (U.calling g mk a).vm } : State).setVm s₂.vm := rfl
      rw [e2] at this
      exact this
    obtain ⟨c₂, i₂, len₂, hc₂, hd₂, hf₂⟩ := hend
    have hW' : U.WarmedH s₂.vm := hW₂
    have hcc : c₂ = c := by
      have h1 : s₂.code? g.method = U.code? g.method := by
        rw [State.code?_eq, State.code?_eq, hW'.alike.method?]
      exact Option.some.inj (hc₂.symm.trans (h1.trans h.code))
    subst hcc
    have hlen : len₂ = len := by rw [hdg] at hd₂; cases hd₂; rfl
    subst hlen
    have hs₂ : s₂ = (({ U with heap := s₂.heap, slotsUsed := s₂.slotsUsed } : State).setVm s₂.vm).setTop { g with pc := g.pc + len₂, stack := v.toList ++ g.stack } := by
      refine e3.trans ?_
      rw [hf₂, State.calling_eq h.top, State.setFrames_setFrames, State.setTop_of_frames _ hr', hr]
      rfl
    have hsame : U.sameButNew ({ U with heap := s₂.heap, slotsUsed := s₂.slotsUsed } : State) L mc ms := by
      refine ⟨?_, q2, q3, q4, q5, q6⟩
      obtain ⟨t, ht, -⟩ := State.frames_cons hr
      show ({ U with heap := s₂.heap, slotsUsed := s₂.slotsUsed } : State) = { U.setFrames U.frames with heap := s₂.heap, slotsUsed := s₂.slotsUsed }
      rw [State.setFrames_self ht]
    subst hg
    refine Or.inl ⟨v, ⟨(({ U with heap := s₂.heap, slotsUsed := s₂.slotsUsed } : State).setVm s₂.vm), Ls ++ L, c0 + mc, s0 + ms⟩,
      ⟨X.admits, X.cas, X.clock, X.frames, X.room, X.hears, X.method, X.code, (X.here.setHeapUsed s₂.heap s₂.slotsUsed).setVm hW'.alike, X.tail, State.WarmedH.trans X.warmed hW', X.limits, X.bytes, X.same.trans (hsame.setVm s.vm)⟩,
      ⟨g, mk, s₂, L, rfl, rfl, hqc, rfl, hL, rfl, rfl⟩, ?_⟩
    show Steps p.tables e below _ ((({ U with heap := s₂.heap, slotsUsed := s₂.slotsUsed } : State).setVm s₂.vm).setTop { g with pc := g.pc + len₂, stack := v.toList ++ g.stack })
    rw [← hs₂]
    exact hsteps
  · obtain ⟨e2, q2, q3, q4, q5, q6⟩ := id hsm
    have e3 : s₂ = ({ (U.calling g mk a).setFrames s₂.frames with heap := s₂.heap, slotsUsed := s₂.slotsUsed } : State).setVm s₂.vm := by
      have : s₂ = ({ s₂ with vm := (U.calling g mk a).vm } : State).setVm s₂.vm := rfl
      rw [e2] at this
      exact this
    have hf₂ : s₂.frames = .throwing q :: .java g :: U.frames.tail := hend
    have hW' : U.WarmedH s₂.vm := hW₂
    have hs₂ : s₂ = ((({ U with heap := s₂.heap, slotsUsed := s₂.slotsUsed } : State).setVm s₂.vm).setTop g).pushFrame (.throwing q) := by
      refine e3.trans ?_
      rw [hf₂, State.calling_eq h.top, State.setFrames_setFrames, State.pushFrame, State.frames_setTop _ hr', State.setTop_of_frames _ hr', State.setFrames_setFrames, hr]
      rfl
    have hsame : U.sameButNew ({ U with heap := s₂.heap, slotsUsed := s₂.slotsUsed } : State) L mc ms := by
      refine ⟨?_, q2, q3, q4, q5, q6⟩
      obtain ⟨t, ht, -⟩ := State.frames_cons hr
      show ({ U with heap := s₂.heap, slotsUsed := s₂.slotsUsed } : State) = { U.setFrames U.frames with heap := s₂.heap, slotsUsed := s₂.slotsUsed }
      rw [State.setFrames_self ht]
    subst hg
    refine Or.inr ⟨q, ⟨(({ U with heap := s₂.heap, slotsUsed := s₂.slotsUsed } : State).setVm s₂.vm), Ls ++ L, c0 + mc, s0 + ms⟩,
      ⟨X.admits, X.cas, X.clock, X.frames, X.room, X.hears, X.method, X.code, (X.here.setHeapUsed s₂.heap s₂.slotsUsed).setVm hW'.alike, X.tail, State.WarmedH.trans X.warmed hW', X.limits, X.bytes, X.same.trans (hsame.setVm s.vm)⟩,
      ⟨g, mk, s₂, L, E, ce, rfl, rfl, hx, hce, hcv, hcl, rfl, hL, rfl, rfl⟩, ?_⟩
    show Steps p.tables e below _ (((({ U with heap := s₂.heap, slotsUsed := s₂.slotsUsed } : State).setVm s₂.vm).setTop g).pushFrame (.throwing q))
    rw [← hs₂]
    exact hsteps
end
variable {p : Program} {l : Launch} {e : Env} {R : Room} {s : State} {m : MethodId} {args : Array Value} {below : List Frame} {meth : Method} {c : Code} {T : State} {H : Heap} {locs : List Loc} {cells slots : Nat}
theorem vx_callVX (X : Stand p l e R s m args below meth c T locs cells slots) (hexec : p.tables.exec = Jvm.exec) {own C : String} {index : Nat} {y : MethodName} {bytes : ByteArray} {maxL : Nat} {ret : Option FieldType} {hh : List (Nat × Nat × Nat × Nat)}
    (hown : s.vm.findClass own = some m.cls) (hlink : (Cond.methodLink own index y).before args s = true) (hinst : (Cond.instanceMethod y).before args s = true) (hsel : (Cond.selects C y y).before args s = true)
    (hcode : (Cond.codeWith y bytes maxL ret hh).before args s = true) (hy : y.cls ≠ "java/lang/invoke/MethodHandle" ∧ y.cls ≠ "java/lang/invoke/VarHandle")
    {W9 : Nat} {Pre : Pt → Array Value → Prop} {Post : Pt → Array Value → Option Value → Pt → Prop} {PostX : Pt → Array Value → Addr → Pt → Prop} (hK : vx_Back l R p e below s args y 3 W9 Pre Post PostX)
    {b : Addr} {cellB : Cell} (hcell : T.heap[b]? = some cellB) (hobj : cellB.vm.isStatics = false) (hcls : s.vm.findClass C = some cellB.cls)
    {g : JFrame} (hg : g.method = m) (hsize : g.locals.size = c.maxLocals) {argsL rest : List Value} (hlen : ∀ sig, parseMethodDescriptor y.desc = some sig → argsL.length = sig.parameters.length)
    (hstack : g.stack = argsL.reverse ++ .ref b :: rest) (hW : 2 * g.monitorRoom + (rest.map fun v => v.category).sum ≤ W9) (hdg : decode c.code g.pc = .ok (.invokevirtual index, 3))
    (hpre : ∀ vm₁, s.WarmedH vm₁ → Pre ⟨T.setVm vm₁, locs, cells, slots⟩ (Value.ref b :: argsL).toArray) :
    (∃ (v : Option Value) (vm₁ : Vm) (B : Pt), s.WarmedH vm₁ ∧ Stand p l e R s m args below meth c B.U B.locs B.cells B.slots ∧ Post ⟨T.setVm vm₁, locs, cells, slots⟩ (Value.ref b :: argsL).toArray v B ∧
      ∀ target, Steps p.tables e below (B.U.setTop { g with pc := g.pc + 3, stack := v.toList ++ rest }) target → Steps p.tables e below (T.setTop g) target) ∨
    (∃ (q : Addr) (vm₁ : Vm) (B : Pt), s.WarmedH vm₁ ∧ Stand p l e R s m args below meth c B.U B.locs B.cells B.slots ∧ PostX ⟨T.setVm vm₁, locs, cells, slots⟩ (Value.ref b :: argsL).toArray q B ∧
      Steps p.tables e below (T.setTop g) ((B.U.setTop { g with stack := rest }).pushFrame (.throwing q))) := by
  obtain ⟨mk, methM, hnamed, hmethM, hstM, habM⟩ := Cond.instanceMethod_spec hinst
  obtain ⟨m8, methM', cM, hn8, hmethM', -, -, -, -, -, -, hsigM⟩ := Cond.codeWith_spec hcode
  cases Option.some.inj (hn8.symm.trans hnamed)
  cases hmethM.symm.trans hmethM'
  obtain ⟨c2, r2, m2, q1, q2, q3, q4, kP, hkP, hkPi⟩ := Cond.selects_spec hsel
  cases hcls.symm.trans q1
  cases (State.methodFound?_of_named hnamed hy).symm.trans q2
  cases hnamed.symm.trans q3
  have hselP : selectMethod e.platform s.vm cellB.cls mk = .method mk := by rw [Launch.admits_selectMethod X.admits]; exact q4
  obtain ⟨vm₁, X₁, hstep₁⟩ := X.invokevirtual hexec hown hlink hnamed hmethM hstM hkP hkPi hy (a := b) (cell := cellB) hcell
    (fun z h => by rw [h] at hobj; cases hobj) hselP hmethM habM hkP hkPi (g := g) hg (argsL := argsL) (rest := rest) (hlen _ hsigM) hstack hdg
  rcases hK m meth c ⟨T.setVm vm₁, locs, cells, slots⟩ { g with stack := rest } (.invokevirtual index) mk (Value.ref b :: argsL).toArray X₁ hg hsize hdg hW (X₁.named hnamed) (hpre vm₁ X₁.warmed) with ⟨v, B, X', hpost, hsteps⟩ | ⟨q, B, X', hpost, hsteps⟩
  · exact Or.inl ⟨v, vm₁, B, X₁.warmed, X', hpost, fun target h => hstep₁ _ fun acts => by rw [doInvoke_state]; exact hsteps.trans h⟩
  · exact Or.inr ⟨q, vm₁, B, X₁.warmed, X', hpost, hstep₁ _ fun acts => by rw [doInvoke_state]; exact hsteps⟩
theorem vx_callSX (X : Stand p l e R s m args below meth c T locs cells slots) (hexec : p.tables.exec = Jvm.exec) {own : String} {index : Nat} {y : MethodName} {bytes : ByteArray} {maxL : Nat} {ret : Option FieldType} {hh : List (Nat × Nat × Nat × Nat)}
    (hown : s.vm.findClass own = some m.cls) (hlink : (Cond.methodLink own index y).before args s = true) (hstat : (Cond.static y).before args s = true) (hinit : (Cond.initialized y.cls).before args s = true)
    (hcode : (Cond.codeWith y bytes maxL ret hh).before args s = true) (hy : y.cls ≠ "java/lang/invoke/MethodHandle" ∧ y.cls ≠ "java/lang/invoke/VarHandle")
    {W9 : Nat} {Pre : Pt → Array Value → Prop} {Post : Pt → Array Value → Option Value → Pt → Prop} {PostX : Pt → Array Value → Addr → Pt → Prop} (hK : vx_Back l R p e below s args y 3 W9 Pre Post PostX)
    {g : JFrame} (hg : g.method = m) (hsize : g.locals.size = c.maxLocals) {argsL rest : List Value} (hlen : ∀ sig, parseMethodDescriptor y.desc = some sig → argsL.length = sig.parameters.length)
    (hstack : g.stack = argsL.reverse ++ rest) (hW : 2 * g.monitorRoom + (rest.map fun v => v.category).sum ≤ W9) (hdg : decode c.code g.pc = .ok (.invokestatic index, 3))
    (hpre : ∀ vm₁, s.WarmedH vm₁ → Pre ⟨T.setVm vm₁, locs, cells, slots⟩ argsL.toArray) :
    (∃ (v : Option Value) (vm₁ : Vm) (B : Pt), s.WarmedH vm₁ ∧ Stand p l e R s m args below meth c B.U B.locs B.cells B.slots ∧ Post ⟨T.setVm vm₁, locs, cells, slots⟩ argsL.toArray v B ∧
      ∀ target, Steps p.tables e below (B.U.setTop { g with pc := g.pc + 3, stack := v.toList ++ rest }) target → Steps p.tables e below (T.setTop g) target) ∨
    (∃ (q : Addr) (vm₁ : Vm) (B : Pt), s.WarmedH vm₁ ∧ Stand p l e R s m args below meth c B.U B.locs B.cells B.slots ∧ PostX ⟨T.setVm vm₁, locs, cells, slots⟩ argsL.toArray q B ∧
      Steps p.tables e below (T.setTop g) ((B.U.setTop { g with stack := rest }).pushFrame (.throwing q))) := by
  obtain ⟨mk, methM, cM, hnamed, hmethM, -, -, -, -, -, -, hsigM⟩ := Cond.codeWith_spec hcode
  have hstatic : methM.isStatic = true := Cond.static_spec hnamed hmethM hstat
  obtain ⟨kP, hkP, -⟩ := className_of_methodNamed hnamed
  have hinitP : kP.init = .initialized := Cond.initialized_spec (findClass_of_methodNamed hnamed) hkP hinit
  obtain ⟨vm₁, X₁, hstep₁⟩ := X.invokestatic hexec hown hlink hnamed hmethM hstatic hkP hinitP hy (g := g) hg (argsL := argsL) (rest := rest) (hlen _ hsigM) hstack hdg
  rcases hK m meth c ⟨T.setVm vm₁, locs, cells, slots⟩ { g with stack := rest } (.invokestatic index) mk argsL.toArray X₁ hg hsize hdg hW (X₁.named hnamed) (hpre vm₁ X₁.warmed) with ⟨v, B, X', hpost, hsteps⟩ | ⟨q, B, X', hpost, hsteps⟩
  · exact Or.inl ⟨v, vm₁, B, X₁.warmed, X', hpost, fun target h => hstep₁ _ fun acts => by rw [doInvoke_state]; exact hsteps.trans h⟩
  · exact Or.inr ⟨q, vm₁, B, X₁.warmed, X', hpost, hstep₁ _ fun acts => by rw [doInvoke_state]; exact hsteps⟩
theorem vx_callVW (X : Stand p l e R s m args below meth c T locs cells slots) (hexec : p.tables.exec = Jvm.exec) {own C : String} {index : Nat} {y : MethodName} {bytes : ByteArray} {maxL : Nat} {ret : Option FieldType} {hh : List (Nat × Nat × Nat × Nat)}
    (hown : s.vm.findClass own = some m.cls) (hlink : (Cond.methodLink own index y).before args s = true) (hinst : (Cond.instanceMethod y).before args s = true) (hsel : (Cond.selects C y y).before args s = true)
    (hcode : (Cond.codeWith y bytes maxL ret hh).before args s = true) (hy : y.cls ≠ "java/lang/invoke/MethodHandle" ∧ y.cls ≠ "java/lang/invoke/VarHandle")
    {W9 : Nat} {Pre : Pt → Array Value → Prop} {Post : Pt → Array Value → Option Value → Pt → Prop} (hK : Back l R p e below s args y 3 W9 Pre Post)
    {b : Addr} {cellB : Cell} (hcell : T.heap[b]? = some cellB) (hobj : cellB.vm.isStatics = false) (hcls : s.vm.findClass C = some cellB.cls)
    {g : JFrame} (hg : g.method = m) (hsize : g.locals.size = c.maxLocals) {argsL rest : List Value} (hlen : ∀ sig, parseMethodDescriptor y.desc = some sig → argsL.length = sig.parameters.length)
    (hstack : g.stack = argsL.reverse ++ .ref b :: rest) (hW : 2 * g.monitorRoom + (rest.map fun v => v.category).sum ≤ W9) (hdg : decode c.code g.pc = .ok (.invokevirtual index, 3))
    (hpre : ∀ vm₁, s.WarmedH vm₁ → Pre ⟨T.setVm vm₁, locs, cells, slots⟩ (Value.ref b :: argsL).toArray) :
    ∃ (v : Option Value) (vm₁ : Vm) (B : Pt), s.WarmedH vm₁ ∧ Stand p l e R s m args below meth c B.U B.locs B.cells B.slots ∧ Post ⟨T.setVm vm₁, locs, cells, slots⟩ (Value.ref b :: argsL).toArray v B ∧
      ∀ target, Steps p.tables e below (B.U.setTop { g with pc := g.pc + 3, stack := v.toList ++ rest }) target → Steps p.tables e below (T.setTop g) target := by
  obtain ⟨mk, methM, hnamed, hmethM, hstM, habM⟩ := Cond.instanceMethod_spec hinst
  obtain ⟨m8, methM', cM, hn8, hmethM', -, -, -, -, -, -, hsigM⟩ := Cond.codeWith_spec hcode
  cases Option.some.inj (hn8.symm.trans hnamed)
  cases hmethM.symm.trans hmethM'
  obtain ⟨c2, r2, m2, q1, q2, q3, q4, kP, hkP, hkPi⟩ := Cond.selects_spec hsel
  cases hcls.symm.trans q1
  cases (State.methodFound?_of_named hnamed hy).symm.trans q2
  cases hnamed.symm.trans q3
  have hselP : selectMethod e.platform s.vm cellB.cls mk = .method mk := by rw [Launch.admits_selectMethod X.admits]; exact q4
  obtain ⟨vm₁, X₁, hstep₁⟩ := X.invokevirtual hexec hown hlink hnamed hmethM hstM hkP hkPi hy (a := b) (cell := cellB) hcell
    (fun z h => by rw [h] at hobj; cases hobj) hselP hmethM habM hkP hkPi (g := g) hg (argsL := argsL) (rest := rest) (hlen _ hsigM) hstack hdg
  obtain ⟨v, B, X', hpost, hsteps⟩ := hK m meth c ⟨T.setVm vm₁, locs, cells, slots⟩ { g with stack := rest } (.invokevirtual index) mk (Value.ref b :: argsL).toArray X₁ hg hsize hdg hW (X₁.named hnamed) (hpre vm₁ X₁.warmed)
  exact ⟨v, vm₁, B, X₁.warmed, X', hpost, fun target h => hstep₁ _ fun acts => by rw [doInvoke_state]; exact hsteps.trans h⟩
abbrev vx_CVW (R : Room) (s : State) (args : Array Value) (own C : String) (index : Nat) (y : MethodName) (bytes : ByteArray) (maxL : Nat) (ret : Option FieldType) (hh : List (Nat × Nat × Nat × Nat)) (ws : List Cond) (rm : Room) (mc ms n : Nat) : Prop :=
  (rm.cells = mc ∧ rm.slots = ms ∧ rm.frames + 1 ≤ R.frames ∧ 8 + (maxL + 11) + rm.locals ≤ R.locals ∧ (∀ w ∈ ws, ∀ (a' : Array Value) (U : State), s.WarmedH U.vm → w.before a' U = true) ∧ Cond.codeWith y bytes maxL ret hh ∈ ws) ∧
  (Cond.codeWith y bytes maxL ret hh).before args s = true ∧ (Cond.initialized y.cls).before args s = true ∧ (y.cls ≠ "java/lang/invoke/MethodHandle" ∧ y.cls ≠ "java/lang/invoke/VarHandle") ∧
  (∀ sig, parseMethodDescriptor y.desc = some sig → n = sig.parameters.length) ∧ (Cond.methodLink own index y).before args s = true ∧ (Cond.instanceMethod y).before args s = true ∧ (Cond.selects C y y).before args s = true
theorem vx_cwVW {own C : String} {index maxL mc ms : Nat} {y : MethodName} {bytes : ByteArray} {ret : Option FieldType} {hh : List (Nat × Nat × Nat × Nat)} {Ts ws ws' : List Cond} {rm : Room} (n : Nat) (ht : ∀ w ∈ Ts, w.before args s = true) (hT : GoodIn Ts (wsV own index C y ws)) (hw : ws = Cond.codeWith y bytes maxL ret hh :: ws') (hrc : rm.cells = mc) (hrs : rm.slots = ms)
    (hd : y.cls = C ∧ y.cls ≠ "java/lang/invoke/MethodHandle" ∧ y.cls ≠ "java/lang/invoke/VarHandle" ∧ (parseMethodDescriptor y.desc).map (fun d => d.parameters.length) = some n) (hR : rm.frames + 1 ≤ R.frames ∧ 8 + (maxL + 11) + rm.locals ≤ R.locals) :
    vx_CVW R s args own C index y bytes maxL ret hh ws rm mc ms n := by
  obtain ⟨hC, hd⟩ := hd
  subst hC
  have ok : ∀ w ∈ wsV own index y.cls y ws, w.before args s = true := fun w h => ht w (hT w h).1
  have hG : GoodIn Ts ws := fun w h => hT w (by unfold wsV; exact List.mem_append_right _ h)
  have hc : Cond.codeWith y bytes maxL ret hh ∈ ws := by rw [hw]; exact List.mem_cons_self
  refine ⟨⟨hrc, hrs, hR.1, hR.2, pay_in ht hG, hc⟩, ht _ (hG _ hc).1, ok _ (by simp [wsV]), ⟨hd.1, hd.2.1⟩, fun sig h => ?_, ok _ (by simp [wsV]), ok _ (by simp [wsV]), ok _ (by simp [wsV])⟩
  have h2 := hd.2.2
  rw [h] at h2
  exact (Option.some.inj h2).symm
theorem vx_runVW {y : MethodName} {bytes cc : ByteArray} {maxL nL mc ms n index : Nat} {ret : Option FieldType} {hh : List (Nat × Nat × Nat × Nat)} {ws : List Cond} {rm : Room} {Pc : Array Value → State → Prop} {Qc : Array Value → State → Outcome → State → Prop} {free : Addr → Prop} {Ts : List Cond} {own C : String} {b : Addr} {As rest : List Value} {g : JFrame}
    (S : CallFix p m c cc nL s args Ts own) (hM : Met l y ws rm Pc Qc mc ms free) (cw : vx_CVW R s args own C index y bytes maxL ret hh ws rm mc ms n) (hp : PreV s H C b Pc As)
    (hg : g.method = m) (hn : As.length = n) (hsize : g.locals.size = nL) (hstack : g.stack = As.reverse ++ .ref b :: rest) (hW : 2 * g.monitorRoom + (rest.map fun v => v.category).sum ≤ 8) (hdg : decode cc g.pc = .ok (.invokevirtual index, 3)) (hf : cells + mc ≤ R.cells ∧ slots + ms ≤ R.slots) :
    va_Run p l e R s m args below meth c H locs cells slots mc ms g rest (Qc (Value.ref b :: As).toArray) free := by
  obtain ⟨⟨hrc, hrs, hfr, hlo, hws, hcw⟩, hcode, hini, hy, hlen, hl, hin, hse⟩ := cw
  have hK : Back l R p e below s args y 3 8 (PreOf R mc ms Pc) (PostOf Qc mc ms free) := va_backW (hh := hh) (bytes := bytes) (maxL := maxL) (ret := ret) hM hp.1 hrc hrs hfr hlo hws hcw (fun a' U hW => word_at hW (Or.inl (by first | rfl | simp [Cond.onTables, Cond.keeps, Cond.steady])) hini)
  obtain ⟨hx, hb, hml, ho, -⟩ := S
  obtain ⟨-, ⟨cellB, hcB, hoB, hclB⟩, hPc⟩ := hp
  intro T hT X
  obtain ⟨v, vm₁, ⟨U', l2, c2, s2⟩, hW₁, X', ⟨g', mk, t, L, e1, e2, hq, h1, hL, h2, h3⟩, st⟩ := vx_callVW X hx (C := C) (hh := hh) (bytes := bytes) (maxL := maxL) (ret := ret) ho hl hin hse hcode hy hK (by rw [hT]; exact hcB) hoB hclB hg (hsize.trans hml.symm) (argsL := As) (rest := rest) (fun sig h => hn.trans (hlen sig h)) hstack hW (by rw [hb]; exact hdg)
    (fun vm₁ hW₁ => ⟨hf.1, hf.2, hPc (T.setVm vm₁) hT hW₁⟩)
  dsimp only [Pt.U, Pt.locs, Pt.cells, Pt.slots] at X' e1 e2 h1 h2 h3 st
  subst h1; subst h2; subst h3
  exact ⟨v, (T.setVm vm₁).calling g' mk (Value.ref b :: As).toArray, t, U', L, hT, X', hL, e1, e2, hq, st⟩
section
variable {y : MethodName} {bytes cc : ByteArray} {maxL nL mc ms n index : Nat} {ret : Option FieldType} {ws : List Cond} {rm : Room} {Pc : Array Value → State → Prop} {Qc : Array Value → State → Outcome → State → Prop} {XC : String → State → State → Prop} {free : Addr → Prop} {Ts : List Cond} {own C : String} {b : Addr} {As rest : List Value} {g : JFrame}
theorem vx_runVX {hh : List (Nat × Nat × Nat × Nat)} (S : CallFix p m c cc nL s args Ts own) (hM : vx_Met l y ws rm Pc Qc XC mc ms free) (cw : vx_CVW R s args own C index y bytes maxL ret hh ws rm mc ms n) (hp : PreV s H C b Pc As)
    (hg : g.method = m) (hn : As.length = n) (hsize : g.locals.size = nL) (hstack : g.stack = As.reverse ++ .ref b :: rest) (hW : 2 * g.monitorRoom + (rest.map fun v => v.category).sum ≤ 8) (hdg : decode cc g.pc = .ok (.invokevirtual index, 3)) (hf : cells + mc ≤ R.cells ∧ slots + ms ≤ R.slots) :
    vx_Run p l e R s m args below meth c H locs cells slots mc ms g rest (Qc (Value.ref b :: As).toArray) XC free := by
  obtain ⟨⟨hrc, hrs, hfr, hlo, hws, hcw⟩, hcode, hini, hy, hlen, hl, hin, hse⟩ := cw
  have hK : vx_Back l R p e below s args y 3 8 (PreOf R mc ms Pc) (PostOf Qc mc ms free) (vx_Post XC mc ms free) := vx_backW (hh := hh) (bytes := bytes) (maxL := maxL) (ret := ret) hM hp.1 hrc hrs hfr hlo hws hcw (fun a' U hW => word_at hW (Or.inl (by first | rfl | simp [Cond.onTables, Cond.keeps, Cond.steady])) hini)
  obtain ⟨hx, hb, hml, ho, -⟩ := S
  obtain ⟨-, ⟨cellB, hcB, hoB, hclB⟩, hPc⟩ := hp
  intro T hT X
  rcases vx_callVX X hx (C := C) (hh := hh) (bytes := bytes) (maxL := maxL) (ret := ret) ho hl hin hse hcode hy hK (by rw [hT]; exact hcB) hoB hclB hg (hsize.trans hml.symm) (argsL := As) (rest := rest) (fun sig h => hn.trans (hlen sig h)) hstack hW (by rw [hb]; exact hdg)
    (fun vm₁ hW₁ => ⟨hf.1, hf.2, hPc (T.setVm vm₁) hT hW₁⟩) with ⟨v, vm₁, ⟨U', l2, c2, s2⟩, hW₁, X', ⟨g', mk, t, L, e1, e2, hq, h1, hL, h2, h3⟩, st⟩ | ⟨q, vm₁, ⟨U', l2, c2, s2⟩, hW₁, X', ⟨g', mk, t, L, E, ce, e1, e2, hq, hce, hcv, hcl, h1, hL, h2, h3⟩, st⟩
  · dsimp only [Pt.U, Pt.locs, Pt.cells, Pt.slots] at X' e1 e2 h1 h2 h3 st
    subst h1; subst h2; subst h3
    exact Or.inl ⟨v, (T.setVm vm₁).calling g' mk (Value.ref b :: As).toArray, t, U', L, hT, X', hL, e1, e2, hq, st⟩
  · dsimp only [Pt.U, Pt.locs, Pt.cells, Pt.slots] at X' e1 e2 h1 h2 h3 st hcl
    subst h1; subst h2; subst h3
    exact Or.inr ⟨q, (T.setVm vm₁).calling g' mk (Value.ref b :: As).toArray, t, U', L, E, ce, hT, X', hL, e1, e2, hq, hce, hcv, vx_cls hW₁ hcl, st⟩
theorem vx_runSX {hh : List (Nat × Nat × Nat × Nat)} (S : CallFix p m c cc nL s args Ts own) (hM : vx_Met l y ws rm Pc Qc XC mc ms free) (cw : vx_CSW R s args own index y bytes maxL ret hh ws rm mc ms n) (hp : PreS s H Pc As)
    (hg : g.method = m) (hn : As.length = n) (hsize : g.locals.size = nL) (hstack : g.stack = As.reverse ++ rest) (hW : 2 * g.monitorRoom + (rest.map fun v => v.category).sum ≤ 8) (hdg : decode cc g.pc = .ok (.invokestatic index, 3)) (hf : cells + mc ≤ R.cells ∧ slots + ms ≤ R.slots) :
    vx_Run p l e R s m args below meth c H locs cells slots mc ms g rest (Qc As.toArray) XC free := by
  obtain ⟨⟨hrc, hrs, hfr, hlo, hws, hcw⟩, hcode, hini, hy, hlen, hl, hstt⟩ := cw
  have hK : vx_Back l R p e below s args y 3 8 (PreOf R mc ms Pc) (PostOf Qc mc ms free) (vx_Post XC mc ms free) := vx_backW (hh := hh) (bytes := bytes) (maxL := maxL) (ret := ret) hM hp.1 hrc hrs hfr hlo hws hcw (fun a' U hW => word_at hW (Or.inl (by first | rfl | simp [Cond.onTables, Cond.keeps, Cond.steady])) hini)
  obtain ⟨hx, hb, hml, ho, -⟩ := S
  intro T hT X
  rcases vx_callSX X hx (hh := hh) (bytes := bytes) (maxL := maxL) (ret := ret) ho hl hstt hini hcode hy hK hg (hsize.trans hml.symm) (argsL := As) (rest := rest) (fun sig h => hn.trans (hlen sig h)) hstack hW (by rw [hb]; exact hdg)
    (fun vm₁ hW₁ => ⟨hf.1, hf.2, hp.2 (T.setVm vm₁) hT hW₁⟩) with ⟨v, vm₁, ⟨U', l2, c2, s2⟩, hW₁, X', ⟨g', mk, t, L, e1, e2, hq, h1, hL, h2, h3⟩, st⟩ | ⟨q, vm₁, ⟨U', l2, c2, s2⟩, hW₁, X', ⟨g', mk, t, L, E, ce, e1, e2, hq, hce, hcv, hcl, h1, hL, h2, h3⟩, st⟩
  · dsimp only [Pt.U, Pt.locs, Pt.cells, Pt.slots] at X' e1 e2 h1 h2 h3 st
    subst h1; subst h2; subst h3
    exact Or.inl ⟨v, (T.setVm vm₁).calling g' mk As.toArray, t, U', L, hT, X', hL, e1, e2, hq, st⟩
  · dsimp only [Pt.U, Pt.locs, Pt.cells, Pt.slots] at X' e1 e2 h1 h2 h3 st hcl
    subst h1; subst h2; subst h3
    exact Or.inr ⟨q, (T.setVm vm₁).calling g' mk As.toArray, t, U', L, E, ce, hT, X', hL, e1, e2, hq, hce, hcv, vx_cls hW₁ hcl, st⟩
end
end VXH
theorem vx_ofWH {l : Launch} {y : MethodName} {ws ws' : List Cond} {rm : Room} {Pc : Array Value → State → Prop} {Qc : Array Value → State → Outcome → State → Prop} {XC : String → State → State → Prop} {mc ms : Nat} {free : Addr → Prop} {cc : ByteArray} {maxL : Nat} {ret : Option FieldType} {hh : List (Nat × Nat × Nat × Nat)}
    (hy : plainName y.cls = true) (hw : ws = Cond.codeWith y cc maxL ret hh :: ws')
    (body : ∀ p e s m args below meth c s₁, BodyLoose p l y (headSpec ws rm) cc maxL ret e s m args below meth c s₁ → c.maxLocals = maxL → Pc args s →
      W p l e (headSpec ws rm).room s m args below meth c s.heap [] 0 0 (vx_MQ below Qc XC args s mc ms free) (entryFrame m args maxL)) : vx_Met l y ws rm Pc Qc XC mc ms free := by
  refine MetFree.of_bodyS (code := cc) (maxLocals := maxL) (ret := ret) hy ?_ ?_
  · intro args s m h hn
    obtain ⟨m9, meth, c, hn9, h1, h2, h3, h4, -, h5, h6, -⟩ := Cond.codeWith_spec (atoms_spec (ws := ws) h _ (by rw [hw]; exact List.mem_cons_self))
    cases hn.symm.trans hn9
    exact ⟨meth, c, h1, h2, h3, h4, h5, h6⟩
  · intro p e s m args below meth c s₁ B hml hP _
    have hh0 : s₁.heap = s.heap := by rw [B.state]; rfl
    obtain ⟨t, a1, o, b1, b2, b3⟩ := body p e s m args below meth c s₁ B hml hP s₁ hh0 (Stand.of_body B)
    exact ⟨t, o, a1, b1, b2, b3⟩
/-! ===== END ===== -/

/-! ===== BEGIN printed: names, fields, word lists, decode rows ===== -/
def RX0 : String := "RingSeesaw$Ring"
def TX0 : u_T := fun k => match k with
  | 0 => ("RingSeesaw$Ring", "numbers", "[I", true)
  | _ => ("RingSeesaw$Ring", "size", "I", false)
def tyX0 : Nat → FieldType := fun k => match k with
  | 0 => .array .int
  | _ => .int
abbrev wsX00 : List Cond := u_ws RX0 TX0 2
theorem nmX0 : ∀ a, a < 2 → ∀ b, b < 2 → a ≠ b → (TX0 a).2.1 ≠ (TX0 b).2.1 := by decide +kernel
theorem tyX0_ok : ∀ k, k < 2 → parseFieldDescriptor (TX0 k).2.2.1 = some (tyX0 k) := by decide +kernel
abbrev cX0_init : ByteArray := prog_2_method_1_code
def yX0_init : MethodName := ⟨RX0, "<init>", "()V"⟩
abbrev cX0_size : ByteArray := prog_2_method_2_code
def yX0_size : MethodName := ⟨RX0, "size", "()I"⟩
abbrev cX0_at : ByteArray := prog_2_method_3_code
def yX0_at : MethodName := ⟨RX0, "at", "(I)I"⟩
abbrev cX0_write : ByteArray := prog_2_method_4_code
def yX0_write : MethodName := ⟨RX0, "write", "(II)V"⟩
abbrev cX0_clear : ByteArray := prog_2_method_5_code
def yX0_clear : MethodName := ⟨RX0, "clear", "(I)V"⟩
abbrev cX0_copyFrom : ByteArray := prog_2_method_6_code
def yX0_copyFrom : MethodName := ⟨RX0, "copyFrom", "(LRingSeesaw$Ring;)V"⟩
abbrev cX0_rotate : ByteArray := prog_2_method_7_code
def yX0_rotate : MethodName := ⟨RX0, "rotate", "()V"⟩
abbrev cX0_tipBy : ByteArray := prog_2_method_8_code
def yX0_tipBy : MethodName := ⟨RX0, "tipBy", "(II)V"⟩
abbrev cX0_settleBy : ByteArray := prog_2_method_9_code
def yX0_settleBy : MethodName := ⟨RX0, "settleBy", "(I)I"⟩
abbrev cX0_total : ByteArray := prog_2_method_10_code
def yX0_total : MethodName := ⟨RX0, "total", "()I"⟩
abbrev cX0_momentLeft : ByteArray := prog_2_method_11_code
def yX0_momentLeft : MethodName := ⟨RX0, "momentLeft", "()I"⟩
abbrev cX0_firstGreatest : ByteArray := prog_2_method_12_code
def yX0_firstGreatest : MethodName := ⟨RX0, "firstGreatest", "()I"⟩
abbrev cX0_span : ByteArray := prog_2_method_13_code
def yX0_span : MethodName := ⟨RX0, "span", "()I"⟩
abbrev cX0_steepAt : ByteArray := prog_2_method_14_code
def yX0_steepAt : MethodName := ⟨RX0, "steepAt", "(I)Z"⟩
abbrev cX0_firstSteep : ByteArray := prog_2_method_15_code
def yX0_firstSteep : MethodName := ⟨RX0, "firstSteep", "()I"⟩
abbrev cX0_tiltOn : ByteArray := prog_2_method_16_code
def yX0_tiltOn : MethodName := ⟨RX0, "tiltOn", "(I)I"⟩
abbrev cX0_differencesFrom : ByteArray := prog_2_method_17_code
def yX0_differencesFrom : MethodName := ⟨RX0, "differencesFrom", "(LRingSeesaw$Ring;)I"⟩
abbrev cX0_canBecome : ByteArray := prog_2_method_18_code
def yX0_canBecome : MethodName := ⟨RX0, "canBecome", "(LRingSeesaw$Ring;)Z"⟩
abbrev cX0_add : ByteArray := prog_2_method_19_code
def yX0_add : MethodName := ⟨RX0, "add", "(II)V"⟩
abbrev cX0_onRing : ByteArray := prog_2_method_20_code
def yX0_onRing : MethodName := ⟨RX0, "onRing", "(I)I"⟩
def RX1 : String := "RingSeesaw$Way"
def TX1 : u_T := fun k => match k with
  | 0 => ("RingSeesaw$Way", "tips", "[I", true)
  | _ => ("RingSeesaw$Way", "size", "I", false)
def tyX1 : Nat → FieldType := fun k => match k with
  | 0 => .array .int
  | _ => .int
abbrev wsX10 : List Cond := u_ws RX1 TX1 2
theorem nmX1 : ∀ a, a < 2 → ∀ b, b < 2 → a ≠ b → (TX1 a).2.1 ≠ (TX1 b).2.1 := by decide +kernel
theorem tyX1_ok : ∀ k, k < 2 → parseFieldDescriptor (TX1 k).2.2.1 = some (tyX1 k) := by decide +kernel
abbrev cX1_init : ByteArray := prog_3_method_1_code
def yX1_init : MethodName := ⟨RX1, "<init>", "()V"⟩
abbrev cX1_find : ByteArray := prog_3_method_2_code
def yX1_find : MethodName := ⟨RX1, "find", "(LRingSeesaw$Ring;LRingSeesaw$Ring;)V"⟩
abbrev cX1_tipsAt : ByteArray := prog_3_method_3_code
def yX1_tipsAt : MethodName := ⟨RX1, "tipsAt", "(I)I"⟩
abbrev cX1_fewest : ByteArray := prog_3_method_4_code
def yX1_fewest : MethodName := ⟨RX1, "fewest", "()I"⟩
abbrev cX1_firstClimb : ByteArray := prog_3_method_5_code
def yX1_firstClimb : MethodName := ⟨RX1, "firstClimb", "(LRingSeesaw$Ring;LRingSeesaw$Ring;)I"⟩
abbrev cX1_awayFrom : ByteArray := prog_3_method_6_code
def yX1_awayFrom : MethodName := ⟨RX1, "awayFrom", "(I)I"⟩
def RX2 : String := "RingSeesaw"
def TX2 : u_T := fun k => match k with
  | 0 => ("RingSeesaw", "ring", "LRingSeesaw$Ring;", true)
  | 1 => ("RingSeesaw", "kept", "[LRingSeesaw$Ring;", true)
  | 2 => ("RingSeesaw", "keptCount", "I", false)
  | 3 => ("RingSeesaw", "tipsDone", "I", false)
  | 4 => ("RingSeesaw", "trial", "LRingSeesaw$Ring;", true)
  | _ => ("RingSeesaw", "way", "LRingSeesaw$Way;", true)
def tyX2 : Nat → FieldType := fun k => match k with
  | 0 => .object "RingSeesaw$Ring"
  | 1 => .array (.object "RingSeesaw$Ring")
  | 2 => .int
  | 3 => .int
  | 4 => .object "RingSeesaw$Ring"
  | _ => .object "RingSeesaw$Way"
abbrev wsX20 : List Cond := u_ws RX2 TX2 6
theorem nmX2 : ∀ a, a < 6 → ∀ b, b < 6 → a ≠ b → (TX2 a).2.1 ≠ (TX2 b).2.1 := by decide +kernel
theorem tyX2_ok : ∀ k, k < 6 → parseFieldDescriptor (TX2 k).2.2.1 = some (tyX2 k) := by decide +kernel
abbrev cX2_init : ByteArray := prog_1_method_1_code
def yX2_init : MethodName := ⟨RX2, "<init>", "()V"⟩
abbrev cX2_lay : ByteArray := prog_1_method_2_code
def yX2_lay : MethodName := ⟨RX2, "lay", "(I)I"⟩
abbrev cX2_put : ByteArray := prog_1_method_3_code
def yX2_put : MethodName := ⟨RX2, "put", "(II)I"⟩
abbrev cX2_tip : ByteArray := prog_1_method_4_code
def yX2_tip : MethodName := ⟨RX2, "tip", "(II)I"⟩
abbrev cX2_turn : ByteArray := prog_1_method_5_code
def yX2_turn : MethodName := ⟨RX2, "turn", "()I"⟩
abbrev cX2_keep : ByteArray := prog_1_method_6_code
def yX2_keep : MethodName := ⟨RX2, "keep", "()I"⟩
abbrev cX2_settle : ByteArray := prog_1_method_7_code
def yX2_settle : MethodName := ⟨RX2, "settle", "(I)I"⟩
abbrev cX2_reach : ByteArray := prog_1_method_8_code
def yX2_reach : MethodName := ⟨RX2, "reach", "(I)I"⟩
abbrev cX2_places : ByteArray := prog_1_method_9_code
def yX2_places : MethodName := ⟨RX2, "places", "()I"⟩
abbrev cX2_numberAt : ByteArray := prog_1_method_10_code
def yX2_numberAt : MethodName := ⟨RX2, "numberAt", "(I)I"⟩
abbrev cX2_targets : ByteArray := prog_1_method_11_code
def yX2_targets : MethodName := ⟨RX2, "targets", "()I"⟩
abbrev cX2_tips : ByteArray := prog_1_method_12_code
def yX2_tips : MethodName := ⟨RX2, "tips", "()I"⟩
abbrev cX2_sum : ByteArray := prog_1_method_13_code
def yX2_sum : MethodName := ⟨RX2, "sum", "()I"⟩
abbrev cX2_moment : ByteArray := prog_1_method_14_code
def yX2_moment : MethodName := ⟨RX2, "moment", "()I"⟩
abbrev cX2_spread : ByteArray := prog_1_method_15_code
def yX2_spread : MethodName := ⟨RX2, "spread", "()I"⟩
abbrev cX2_highest : ByteArray := prog_1_method_16_code
def yX2_highest : MethodName := ⟨RX2, "highest", "()I"⟩
abbrev cX2_isSteep : ByteArray := prog_1_method_17_code
def yX2_isSteep : MethodName := ⟨RX2, "isSteep", "(I)Z"⟩
abbrev cX2_steepPlaces : ByteArray := prog_1_method_18_code
def yX2_steepPlaces : MethodName := ⟨RX2, "steepPlaces", "()I"⟩
abbrev cX2_nextToTip : ByteArray := prog_1_method_19_code
def yX2_nextToTip : MethodName := ⟨RX2, "nextToTip", "()I"⟩
abbrev cX2_tilt : ByteArray := prog_1_method_20_code
def yX2_tilt : MethodName := ⟨RX2, "tilt", "(I)I"⟩
abbrev cX2_levelAxes : ByteArray := prog_1_method_21_code
def yX2_levelAxes : MethodName := ⟨RX2, "levelAxes", "()I"⟩
abbrev cX2_bestAxis : ByteArray := prog_1_method_22_code
def yX2_bestAxis : MethodName := ⟨RX2, "bestAxis", "()I"⟩
abbrev cX2_numberIn : ByteArray := prog_1_method_23_code
def yX2_numberIn : MethodName := ⟨RX2, "numberIn", "(II)I"⟩
abbrev cX2_differences : ByteArray := prog_1_method_24_code
def yX2_differences : MethodName := ⟨RX2, "differences", "(I)I"⟩
abbrev cX2_canReach : ByteArray := prog_1_method_25_code
def yX2_canReach : MethodName := ⟨RX2, "canReach", "(I)Z"⟩
abbrev cX2_reachable : ByteArray := prog_1_method_26_code
def yX2_reachable : MethodName := ⟨RX2, "reachable", "()I"⟩
abbrev cX2_tipsTo : ByteArray := prog_1_method_27_code
def yX2_tipsTo : MethodName := ⟨RX2, "tipsTo", "(II)I"⟩
abbrev cX2_fewestTips : ByteArray := prog_1_method_28_code
def yX2_fewestTips : MethodName := ⟨RX2, "fewestTips", "(I)I"⟩
abbrev cX2_nearestTarget : ByteArray := prog_1_method_29_code
def yX2_nearestTarget : MethodName := ⟨RX2, "nearestTarget", "()I"⟩
abbrev cX2_stepsToRest : ByteArray := prog_1_method_30_code
def yX2_stepsToRest : MethodName := ⟨RX2, "stepsToRest", "()I"⟩
abbrev cX2_spreadAtRest : ByteArray := prog_1_method_31_code
def yX2_spreadAtRest : MethodName := ⟨RX2, "spreadAtRest", "()I"⟩
abbrev cX2_spreadWith : ByteArray := prog_1_method_32_code
def yX2_spreadWith : MethodName := ⟨RX2, "spreadWith", "(II)I"⟩
abbrev cX2_bestPlace : ByteArray := prog_1_method_33_code
def yX2_bestPlace : MethodName := ⟨RX2, "bestPlace", "()I"⟩
abbrev cX2_placeFor : ByteArray := prog_1_method_34_code
def yX2_placeFor : MethodName := ⟨RX2, "placeFor", "(I)I"⟩
abbrev cX2_meanNumber : ByteArray := prog_1_method_35_code
def yX2_meanNumber : MethodName := ⟨RX2, "meanNumber", "()D"⟩
abbrev cX2_digest : ByteArray := prog_1_method_36_code
def yX2_digest : MethodName := ⟨RX2, "digest", "()J"⟩
abbrev cX2_mixedWithPlaces : ByteArray := prog_1_method_37_code
def yX2_mixedWithPlaces : MethodName := ⟨RX2, "mixedWithPlaces", "(J)J"⟩
abbrev cX2_mixedWithTargets : ByteArray := prog_1_method_38_code
def yX2_mixedWithTargets : MethodName := ⟨RX2, "mixedWithTargets", "(J)J"⟩
abbrev cX2_mixed : ByteArray := prog_1_method_39_code
def yX2_mixed : MethodName := ⟨RX2, "mixed", "(JJ)J"⟩
abbrev cX2_requirePlace : ByteArray := prog_1_method_40_code
def yX2_requirePlace : MethodName := ⟨RX2, "requirePlace", "(I)V"⟩
abbrev cX2_requireNumber : ByteArray := prog_1_method_41_code
def yX2_requireNumber : MethodName := ⟨RX2, "requireNumber", "(I)V"⟩
abbrev cX2_requireTimes : ByteArray := prog_1_method_42_code
def yX2_requireTimes : MethodName := ⟨RX2, "requireTimes", "(I)V"⟩
abbrev cX2_requireWayTo : ByteArray := prog_1_method_43_code
def yX2_requireWayTo : MethodName := ⟨RX2, "requireWayTo", "(LRingSeesaw$Ring;)V"⟩
abbrev cX2_keptRing : ByteArray := prog_1_method_44_code
def yX2_keptRing : MethodName := ⟨RX2, "keptRing", "(I)LRingSeesaw$Ring;"⟩
abbrev cX2_fewestTo : ByteArray := prog_1_method_45_code
def yX2_fewestTo : MethodName := ⟨RX2, "fewestTo", "(LRingSeesaw$Ring;)I"⟩
abbrev cX2_tryToRest : ByteArray := prog_1_method_46_code
def yX2_tryToRest : MethodName := ⟨RX2, "tryToRest", "()I"⟩
abbrev cX2_spanAfter : ByteArray := prog_1_method_47_code
def yX2_spanAfter : MethodName := ⟨RX2, "spanAfter", "(II)I"⟩
abbrev cX2_firstPlaceFor : ByteArray := prog_1_method_48_code
def yX2_firstPlaceFor : MethodName := ⟨RX2, "firstPlaceFor", "(ILRingSeesaw$Ring;)I"⟩
def RX3 : String := "RingSeesawModel"
def TX3 : u_T := fun k => match k with
  | 0 => ("RingSeesawModel", "thrown", "I", false)
  | 1 => ("RingSeesawModel", "n", "I", false)
  | 2 => ("RingSeesawModel", "targets", "I", false)
  | 3 => ("RingSeesawModel", "tips", "I", false)
  | 4 => ("RingSeesawModel", "x", "[I", true)
  | 5 => ("RingSeesawModel", "then", "[I", true)
  | 6 => ("RingSeesawModel", "target", "[I", true)
  | _ => ("RingSeesawModel", "tip", "[I", true)
def tyX3 : Nat → FieldType := fun k => match k with
  | 0 => .int
  | 1 => .int
  | 2 => .int
  | 3 => .int
  | 4 => .array .int
  | 5 => .array .int
  | 6 => .array .int
  | _ => .array .int
abbrev wsX30 : List Cond := u_ws RX3 TX3 8
theorem nmX3 : ∀ a, a < 8 → ∀ b, b < 8 → a ≠ b → (TX3 a).2.1 ≠ (TX3 b).2.1 := by decide +kernel
theorem tyX3_ok : ∀ k, k < 8 → parseFieldDescriptor (TX3 k).2.2.1 = some (tyX3 k) := by decide +kernel
abbrev cX3_init : ByteArray := prog_5_method_1_code
def yX3_init : MethodName := ⟨RX3, "<init>", "()V"⟩
abbrev cX3_thrown : ByteArray := prog_5_method_2_code
def yX3_thrown : MethodName := ⟨RX3, "thrown", "()I"⟩
abbrev cX3_no : ByteArray := prog_5_method_3_code
def yX3_no : MethodName := ⟨RX3, "no", "(I)I"⟩
abbrev cX3_isNot : ByteArray := prog_5_method_4_code
def yX3_isNot : MethodName := ⟨RX3, "isNot", "(I)Z"⟩
abbrev cX3_ok : ByteArray := prog_5_method_5_code
def yX3_ok : MethodName := ⟨RX3, "ok", "(I)I"⟩
abbrev cX3_isIn : ByteArray := prog_5_method_6_code
def yX3_isIn : MethodName := ⟨RX3, "isIn", "(III)Z"⟩
abbrev cX3_isPlace : ByteArray := prog_5_method_7_code
def yX3_isPlace : MethodName := ⟨RX3, "isPlace", "(I)Z"⟩
abbrev cX3_isTarget : ByteArray := prog_5_method_8_code
def yX3_isTarget : MethodName := ⟨RX3, "isTarget", "(I)Z"⟩
abbrev cX3_on : ByteArray := prog_5_method_9_code
def yX3_on : MethodName := ⟨RX3, "on", "(II)I"⟩
abbrev cX3_lean : ByteArray := prog_5_method_10_code
def yX3_lean : MethodName := ⟨RX3, "lean", "([III)V"⟩
abbrev cX3_look : ByteArray := prog_5_method_11_code
def yX3_look : MethodName := ⟨RX3, "look", "()V"⟩
abbrev cX3_wide : ByteArray := prog_5_method_12_code
def yX3_wide : MethodName := ⟨RX3, "wide", "([I)I"⟩
abbrev cX3_steep : ByteArray := prog_5_method_13_code
def yX3_steep : MethodName := ⟨RX3, "steep", "([II)Z"⟩
abbrev cX3_firstSteep : ByteArray := prog_5_method_14_code
def yX3_firstSteep : MethodName := ⟨RX3, "firstSteep", "([I)I"⟩
abbrev cX3_settled : ByteArray := prog_5_method_15_code
def yX3_settled : MethodName := ⟨RX3, "settled", "([II)I"⟩
abbrev cX3_lay : ByteArray := prog_5_method_16_code
def yX3_lay : MethodName := ⟨RX3, "lay", "(I)I"⟩
abbrev cX3_put : ByteArray := prog_5_method_17_code
def yX3_put : MethodName := ⟨RX3, "put", "(II)I"⟩
abbrev cX3_tip : ByteArray := prog_5_method_18_code
def yX3_tip : MethodName := ⟨RX3, "tip", "(II)I"⟩
abbrev cX3_turn : ByteArray := prog_5_method_19_code
def yX3_turn : MethodName := ⟨RX3, "turn", "()I"⟩
abbrev cX3_keep : ByteArray := prog_5_method_20_code
def yX3_keep : MethodName := ⟨RX3, "keep", "()I"⟩
abbrev cX3_settle : ByteArray := prog_5_method_21_code
def yX3_settle : MethodName := ⟨RX3, "settle", "(I)I"⟩
abbrev cX3_places : ByteArray := prog_5_method_22_code
def yX3_places : MethodName := ⟨RX3, "places", "()I"⟩
abbrev cX3_numberAt : ByteArray := prog_5_method_23_code
def yX3_numberAt : MethodName := ⟨RX3, "numberAt", "(I)I"⟩
abbrev cX3_targets : ByteArray := prog_5_method_24_code
def yX3_targets : MethodName := ⟨RX3, "targets", "()I"⟩
abbrev cX3_tips : ByteArray := prog_5_method_25_code
def yX3_tips : MethodName := ⟨RX3, "tips", "()I"⟩
abbrev cX3_sumOf : ByteArray := prog_5_method_26_code
def yX3_sumOf : MethodName := ⟨RX3, "sumOf", "()I"⟩
abbrev cX3_sum : ByteArray := prog_5_method_27_code
def yX3_sum : MethodName := ⟨RX3, "sum", "()I"⟩
abbrev cX3_turning : ByteArray := prog_5_method_28_code
def yX3_turning : MethodName := ⟨RX3, "turning", "()I"⟩
abbrev cX3_moment : ByteArray := prog_5_method_29_code
def yX3_moment : MethodName := ⟨RX3, "moment", "()I"⟩
abbrev cX3_spread : ByteArray := prog_5_method_30_code
def yX3_spread : MethodName := ⟨RX3, "spread", "()I"⟩
abbrev cX3_top : ByteArray := prog_5_method_31_code
def yX3_top : MethodName := ⟨RX3, "top", "()I"⟩
abbrev cX3_highest : ByteArray := prog_5_method_32_code
def yX3_highest : MethodName := ⟨RX3, "highest", "()I"⟩
abbrev cX3_isSteep : ByteArray := prog_5_method_33_code
def yX3_isSteep : MethodName := ⟨RX3, "isSteep", "(I)Z"⟩
abbrev cX3_manySteep : ByteArray := prog_5_method_34_code
def yX3_manySteep : MethodName := ⟨RX3, "manySteep", "()I"⟩
abbrev cX3_steepPlaces : ByteArray := prog_5_method_35_code
def yX3_steepPlaces : MethodName := ⟨RX3, "steepPlaces", "()I"⟩
abbrev cX3_nextToTip : ByteArray := prog_5_method_36_code
def yX3_nextToTip : MethodName := ⟨RX3, "nextToTip", "()I"⟩
abbrev cX3_tiltOn : ByteArray := prog_5_method_37_code
def yX3_tiltOn : MethodName := ⟨RX3, "tiltOn", "(I)I"⟩
abbrev cX3_tilt : ByteArray := prog_5_method_38_code
def yX3_tilt : MethodName := ⟨RX3, "tilt", "(I)I"⟩
abbrev cX3_level : ByteArray := prog_5_method_39_code
def yX3_level : MethodName := ⟨RX3, "level", "()I"⟩
abbrev cX3_levelAxes : ByteArray := prog_5_method_40_code
def yX3_levelAxes : MethodName := ⟨RX3, "levelAxes", "()I"⟩
abbrev cX3_flattest : ByteArray := prog_5_method_41_code
def yX3_flattest : MethodName := ⟨RX3, "flattest", "()I"⟩
abbrev cX3_bestAxis : ByteArray := prog_5_method_42_code
def yX3_bestAxis : MethodName := ⟨RX3, "bestAxis", "()I"⟩
abbrev cX3_goal : ByteArray := prog_5_method_43_code
def yX3_goal : MethodName := ⟨RX3, "goal", "(II)I"⟩
abbrev cX3_numberIn : ByteArray := prog_5_method_44_code
def yX3_numberIn : MethodName := ⟨RX3, "numberIn", "(II)I"⟩
abbrev cX3_others : ByteArray := prog_5_method_45_code
def yX3_others : MethodName := ⟨RX3, "others", "(I)I"⟩
abbrev cX3_differences : ByteArray := prog_5_method_46_code
def yX3_differences : MethodName := ⟨RX3, "differences", "(I)I"⟩
abbrev cX3_around : ByteArray := prog_5_method_47_code
def yX3_around : MethodName := ⟨RX3, "around", "(II)I"⟩
abbrev cX3_solves : ByteArray := prog_5_method_48_code
def yX3_solves : MethodName := ⟨RX3, "solves", "(I)Z"⟩
abbrev cX3_canReach : ByteArray := prog_5_method_49_code
def yX3_canReach : MethodName := ⟨RX3, "canReach", "(I)Z"⟩
abbrev cX3_manySolved : ByteArray := prog_5_method_50_code
def yX3_manySolved : MethodName := ⟨RX3, "manySolved", "()I"⟩
abbrev cX3_reachable : ByteArray := prog_5_method_51_code
def yX3_reachable : MethodName := ⟨RX3, "reachable", "()I"⟩
abbrev cX3_tipsTo : ByteArray := prog_5_method_52_code
def yX3_tipsTo : MethodName := ⟨RX3, "tipsTo", "(II)I"⟩
abbrev cX3_fewest : ByteArray := prog_5_method_53_code
def yX3_fewest : MethodName := ⟨RX3, "fewest", "(I)I"⟩
abbrev cX3_fewestTips : ByteArray := prog_5_method_54_code
def yX3_fewestTips : MethodName := ⟨RX3, "fewestTips", "(I)I"⟩
abbrev cX3_reach : ByteArray := prog_5_method_55_code
def yX3_reach : MethodName := ⟨RX3, "reach", "(I)I"⟩
abbrev cX3_near : ByteArray := prog_5_method_56_code
def yX3_near : MethodName := ⟨RX3, "near", "()I"⟩
abbrev cX3_nearestTarget : ByteArray := prog_5_method_57_code
def yX3_nearestTarget : MethodName := ⟨RX3, "nearestTarget", "()I"⟩
abbrev cX3_rest : ByteArray := prog_5_method_58_code
def yX3_rest : MethodName := ⟨RX3, "rest", "()I"⟩
abbrev cX3_stepsToRest : ByteArray := prog_5_method_59_code
def yX3_stepsToRest : MethodName := ⟨RX3, "stepsToRest", "()I"⟩
abbrev cX3_wideAtRest : ByteArray := prog_5_method_60_code
def yX3_wideAtRest : MethodName := ⟨RX3, "wideAtRest", "()I"⟩
abbrev cX3_spreadAtRest : ByteArray := prog_5_method_61_code
def yX3_spreadAtRest : MethodName := ⟨RX3, "spreadAtRest", "()I"⟩
abbrev cX3_wideWith : ByteArray := prog_5_method_62_code
def yX3_wideWith : MethodName := ⟨RX3, "wideWith", "(II)I"⟩
abbrev cX3_spreadWith : ByteArray := prog_5_method_63_code
def yX3_spreadWith : MethodName := ⟨RX3, "spreadWith", "(II)I"⟩
abbrev cX3_best : ByteArray := prog_5_method_64_code
def yX3_best : MethodName := ⟨RX3, "best", "()I"⟩
abbrev cX3_bestPlace : ByteArray := prog_5_method_65_code
def yX3_bestPlace : MethodName := ⟨RX3, "bestPlace", "()I"⟩
abbrev cX3_fits : ByteArray := prog_5_method_66_code
def yX3_fits : MethodName := ⟨RX3, "fits", "(I)I"⟩
abbrev cX3_placeFor : ByteArray := prog_5_method_67_code
def yX3_placeFor : MethodName := ⟨RX3, "placeFor", "(I)I"⟩
abbrev cX3_meanNumber : ByteArray := prog_5_method_68_code
def yX3_meanNumber : MethodName := ⟨RX3, "meanNumber", "()D"⟩
abbrev cX3_digest : ByteArray := prog_5_method_69_code
def yX3_digest : MethodName := ⟨RX3, "digest", "()J"⟩
def RJ9 : String := "java/lang/Math"
def TJ9 : u_T := fun k => match k with
  | _ => ("", "", "", false)
def tyJ9 : Nat → FieldType := fun k => match k with
  | _ => .int
abbrev wsJ90 : List Cond := u_ws RJ9 TJ9 0
theorem nmJ9 : ∀ a, a < 0 → ∀ b, b < 0 → a ≠ b → (TJ9 a).2.1 ≠ (TJ9 b).2.1 := by decide +kernel
theorem tyJ9_ok : ∀ k, k < 0 → parseFieldDescriptor (TJ9 k).2.2.1 = some (tyJ9 k) := by decide +kernel
abbrev cJ9_floorMod_7cf53 : ByteArray := prog_10_method_50_code
def yJ9_floorMod_7cf53 : MethodName := ⟨RJ9, "floorMod", "(II)I"⟩
abbrev cJ9_abs_0f7a4 : ByteArray := prog_10_method_59_code
def yJ9_abs_0f7a4 : MethodName := ⟨RJ9, "abs", "(I)I"⟩
abbrev cJ9_max_7cf53 : ByteArray := prog_10_method_65_code
def yJ9_max_7cf53 : MethodName := ⟨RJ9, "max", "(II)I"⟩
abbrev cJ9_min_7cf53 : ByteArray := prog_10_method_69_code
def yJ9_min_7cf53 : MethodName := ⟨RJ9, "min", "(II)I"⟩
def RJ0 : String := "java/lang/String"
def TJ0 : u_T := fun k => match k with
  | _ => ("", "", "", false)
def tyJ0 : Nat → FieldType := fun k => match k with
  | _ => .int
abbrev wsJ00 : List Cond := u_ws RJ0 TJ0 0
theorem nmJ0 : ∀ a, a < 0 → ∀ b, b < 0 → a ≠ b → (TJ0 a).2.1 ≠ (TJ0 b).2.1 := by decide +kernel
theorem tyJ0_ok : ∀ k, k < 0 → parseFieldDescriptor (TJ0 k).2.2.1 = some (tyJ0 k) := by decide +kernel
def RJ10 : String := "java/lang/System"
def TJ10 : u_T := fun k => match k with
  | _ => ("", "", "", false)
def tyJ10 : Nat → FieldType := fun k => match k with
  | _ => .int
abbrev wsJ100 : List Cond := u_ws RJ10 TJ10 0
theorem nmJ10 : ∀ a, a < 0 → ∀ b, b < 0 → a ≠ b → (TJ10 a).2.1 ≠ (TJ10 b).2.1 := by decide +kernel
theorem tyJ10_ok : ∀ k, k < 0 → parseFieldDescriptor (TJ10 k).2.2.1 = some (tyJ10 k) := by decide +kernel
def RL : String := "RingSeesawLaw"
abbrev cL_lay : ByteArray := method_3_code
def yL_lay : MethodName := ⟨RL, "lay", "(LRingSeesaw;I[J)I"⟩
abbrev cL_put : ByteArray := method_4_code
def yL_put : MethodName := ⟨RL, "put", "(LRingSeesaw;II[J)I"⟩
abbrev cL_tip : ByteArray := method_5_code
def yL_tip : MethodName := ⟨RL, "tip", "(LRingSeesaw;II[J)I"⟩
abbrev cL_keep : ByteArray := method_6_code
def yL_keep : MethodName := ⟨RL, "keep", "(LRingSeesaw;[J)I"⟩
abbrev cL_settle : ByteArray := method_7_code
def yL_settle : MethodName := ⟨RL, "settle", "(LRingSeesaw;I[J)I"⟩
abbrev cL_reach : ByteArray := method_8_code
def yL_reach : MethodName := ⟨RL, "reach", "(LRingSeesaw;I[J)I"⟩
abbrev cL_numberAt : ByteArray := method_9_code
def yL_numberAt : MethodName := ⟨RL, "numberAt", "(LRingSeesaw;I[J)I"⟩
abbrev cL_isSteep : ByteArray := method_10_code
def yL_isSteep : MethodName := ⟨RL, "isSteep", "(LRingSeesaw;I[J)I"⟩
abbrev cL_tilt : ByteArray := method_11_code
def yL_tilt : MethodName := ⟨RL, "tilt", "(LRingSeesaw;I[J)I"⟩
abbrev cL_numberIn : ByteArray := method_12_code
def yL_numberIn : MethodName := ⟨RL, "numberIn", "(LRingSeesaw;II[J)I"⟩
abbrev cL_differences : ByteArray := method_13_code
def yL_differences : MethodName := ⟨RL, "differences", "(LRingSeesaw;I[J)I"⟩
abbrev cL_canReach : ByteArray := method_14_code
def yL_canReach : MethodName := ⟨RL, "canReach", "(LRingSeesaw;I[J)I"⟩
abbrev cL_tipsTo : ByteArray := method_15_code
def yL_tipsTo : MethodName := ⟨RL, "tipsTo", "(LRingSeesaw;II[J)I"⟩
abbrev cL_fewestTips : ByteArray := method_16_code
def yL_fewestTips : MethodName := ⟨RL, "fewestTips", "(LRingSeesaw;I[J)I"⟩
abbrev cL_spreadWith : ByteArray := method_17_code
def yL_spreadWith : MethodName := ⟨RL, "spreadWith", "(LRingSeesaw;II[J)I"⟩
abbrev cL_placeFor : ByteArray := method_18_code
def yL_placeFor : MethodName := ⟨RL, "placeFor", "(LRingSeesaw;I[J)I"⟩
abbrev cL_law : ByteArray := code
def yL_law : MethodName := ⟨RL, "law", "([I)Z"⟩
def wsX0_init : List Cond := .code yX0_init cX0_init 1 none :: ([.methodLink RX0 3 objectInit, .instanceMethod objectInit, .code objectInit ⟨#[0xb1]⟩ 1 none, .arrayClass .int, .fieldLink RX0 9 "RingSeesaw$Ring" "numbers" "[I", .fieldLink RX0 15 "RingSeesaw$Ring" "size" "I"] ++ wsX00)
def wsX0_size : List Cond := .code yX0_size cX0_size 1 (some .int) :: ([.fieldLink RX0 15 "RingSeesaw$Ring" "size" "I"] ++ wsX00)
def wsX0_at : List Cond := .code yX0_at cX0_at 2 (some .int) :: ([.fieldLink RX0 9 "RingSeesaw$Ring" "numbers" "[I"] ++ wsX00)
def wsX0_write : List Cond := .code yX0_write cX0_write 3 none :: ([.fieldLink RX0 9 "RingSeesaw$Ring" "numbers" "[I"] ++ wsX00)
def wsX0_clear : List Cond := .code yX0_clear cX0_clear 3 none :: ([.fieldLink RX0 15 "RingSeesaw$Ring" "size" "I", .fieldLink RX0 9 "RingSeesaw$Ring" "numbers" "[I", .methodLink RX0 19 yX0_write, .instanceMethod yX0_write, .selects RX0 yX0_write yX0_write, .initialized RX0, .code yX0_write cX0_write 3 none] ++ wsX00)
def wsX0_copyFrom : List Cond := .code yX0_copyFrom cX0_copyFrom 3 none :: ([.fieldLink RX0 15 "RingSeesaw$Ring" "size" "I", .fieldLink RX0 9 "RingSeesaw$Ring" "numbers" "[I", .methodLink RX0 23 yX0_at, .instanceMethod yX0_at, .selects RX0 yX0_at yX0_at, .initialized RX0, .code yX0_at cX0_at 2 (some .int), .methodLink RX0 19 yX0_write, .instanceMethod yX0_write, .selects RX0 yX0_write yX0_write, .code yX0_write cX0_write 3 none] ++ wsX00)
def wsX0_rotate : List Cond := .code yX0_rotate cX0_rotate 3 none :: ([.fieldLink RX0 15 "RingSeesaw$Ring" "size" "I", .methodLink RX0 23 yX0_at, .instanceMethod yX0_at, .selects RX0 yX0_at yX0_at, .initialized RX0, .code yX0_at cX0_at 2 (some .int), .fieldLink RX0 9 "RingSeesaw$Ring" "numbers" "[I", .methodLink RX0 19 yX0_write, .instanceMethod yX0_write, .selects RX0 yX0_write yX0_write, .code yX0_write cX0_write 3 none] ++ wsX00)
def wsX0_add : List Cond := .code yX0_add cX0_add 3 none :: ([.methodLink RX0 23 yX0_at, .instanceMethod yX0_at, .selects RX0 yX0_at yX0_at, .initialized RX0, .code yX0_at cX0_at 2 (some .int), .fieldLink RX0 9 "RingSeesaw$Ring" "numbers" "[I", .methodLink RX0 19 yX0_write, .instanceMethod yX0_write, .selects RX0 yX0_write yX0_write, .code yX0_write cX0_write 3 none] ++ wsX00)
def wsX0_onRing : List Cond := .code yX0_onRing cX0_onRing 2 (some .int) :: ([.fieldLink RX0 15 "RingSeesaw$Ring" "size" "I"] ++ wsX00)
def wsX0_tipBy : List Cond := .code yX0_tipBy cX0_tipBy 3 none :: ([.methodLink RX0 27 yX0_add, .instanceMethod yX0_add, .selects RX0 yX0_add yX0_add, .initialized RX0, .code yX0_add cX0_add 3 none, .methodLink RX0 23 yX0_at, .instanceMethod yX0_at, .selects RX0 yX0_at yX0_at, .code yX0_at cX0_at 2 (some .int), .fieldLink RX0 9 "RingSeesaw$Ring" "numbers" "[I", .methodLink RX0 19 yX0_write, .instanceMethod yX0_write, .selects RX0 yX0_write yX0_write, .code yX0_write cX0_write 3 none, .methodLink RX0 30 yX0_onRing, .instanceMethod yX0_onRing, .selects RX0 yX0_onRing yX0_onRing, .code yX0_onRing cX0_onRing 2 (some .int), .fieldLink RX0 15 "RingSeesaw$Ring" "size" "I"] ++ wsX00)
def wsX0_steepAt : List Cond := .code yX0_steepAt cX0_steepAt 2 (some .boolean) :: ([.methodLink RX0 23 yX0_at, .instanceMethod yX0_at, .selects RX0 yX0_at yX0_at, .initialized RX0, .code yX0_at cX0_at 2 (some .int), .fieldLink RX0 9 "RingSeesaw$Ring" "numbers" "[I", .methodLink RX0 30 yX0_onRing, .instanceMethod yX0_onRing, .selects RX0 yX0_onRing yX0_onRing, .code yX0_onRing cX0_onRing 2 (some .int), .fieldLink RX0 15 "RingSeesaw$Ring" "size" "I"] ++ wsX00)
def wsX0_firstSteep : List Cond := .code yX0_firstSteep cX0_firstSteep 2 (some .int) :: ([.fieldLink RX0 15 "RingSeesaw$Ring" "size" "I", .methodLink RX0 52 yX0_steepAt, .instanceMethod yX0_steepAt, .selects RX0 yX0_steepAt yX0_steepAt, .initialized RX0, .code yX0_steepAt cX0_steepAt 2 (some .boolean), .methodLink RX0 23 yX0_at, .instanceMethod yX0_at, .selects RX0 yX0_at yX0_at, .code yX0_at cX0_at 2 (some .int), .fieldLink RX0 9 "RingSeesaw$Ring" "numbers" "[I", .methodLink RX0 30 yX0_onRing, .instanceMethod yX0_onRing, .selects RX0 yX0_onRing yX0_onRing, .code yX0_onRing cX0_onRing 2 (some .int)] ++ wsX00)
def wsX0_settleBy_r1 : List Cond := [Cond.methodLink RX0 33 yX0_firstSteep, Cond.instanceMethod yX0_firstSteep, Cond.selects RX0 yX0_firstSteep yX0_firstSteep, Cond.initialized RX0, Cond.code yX0_firstSteep cX0_firstSteep 2 (some .int), Cond.fieldLink RX0 15 "RingSeesaw$Ring" "size" "I", Cond.methodLink RX0 52 yX0_steepAt, Cond.instanceMethod yX0_steepAt, Cond.selects RX0 yX0_steepAt yX0_steepAt, Cond.code yX0_steepAt cX0_steepAt 2 (some .boolean), Cond.methodLink RX0 23 yX0_at, Cond.instanceMethod yX0_at, Cond.selects RX0 yX0_at yX0_at, Cond.code yX0_at cX0_at 2 (some .int), Cond.fieldLink RX0 9 "RingSeesaw$Ring" "numbers" "[I", Cond.methodLink RX0 30 yX0_onRing, Cond.instanceMethod yX0_onRing, Cond.selects RX0 yX0_onRing yX0_onRing, Cond.code yX0_onRing cX0_onRing 2 (some .int), Cond.methodLink RX0 37 yX0_tipBy, Cond.instanceMethod yX0_tipBy, Cond.selects RX0 yX0_tipBy yX0_tipBy, Cond.code yX0_tipBy cX0_tipBy 3 none, Cond.methodLink RX0 27 yX0_add]
def wsX0_settleBy_r2 : List Cond := [Cond.instanceMethod yX0_add, Cond.selects RX0 yX0_add yX0_add, Cond.code yX0_add cX0_add 3 none, Cond.methodLink RX0 19 yX0_write, Cond.instanceMethod yX0_write, Cond.selects RX0 yX0_write yX0_write, Cond.code yX0_write cX0_write 3 none]
def wsX0_settleBy : List Cond := .code yX0_settleBy cX0_settleBy 4 (some .int) :: ((wsX0_settleBy_r1 ++ wsX0_settleBy_r2) ++ wsX00)
def wsX0_total : List Cond := .code yX0_total cX0_total 3 (some .int) :: ([.fieldLink RX0 15 "RingSeesaw$Ring" "size" "I", .methodLink RX0 23 yX0_at, .instanceMethod yX0_at, .selects RX0 yX0_at yX0_at, .initialized RX0, .code yX0_at cX0_at 2 (some .int), .fieldLink RX0 9 "RingSeesaw$Ring" "numbers" "[I"] ++ wsX00)
def wsJ9_floorMod_7cf53 : List Cond := .code yJ9_floorMod_7cf53 cJ9_floorMod_7cf53 3 (some .int) :: ([])
def wsX0_momentLeft : List Cond := .code yX0_momentLeft cX0_momentLeft 3 (some .int) :: ([.fieldLink RX0 15 "RingSeesaw$Ring" "size" "I", .methodLink RX0 23 yX0_at, .instanceMethod yX0_at, .selects RX0 yX0_at yX0_at, .initialized RX0, .code yX0_at cX0_at 2 (some .int), .fieldLink RX0 9 "RingSeesaw$Ring" "numbers" "[I", .methodLink RX0 40 yJ9_floorMod_7cf53, .static yJ9_floorMod_7cf53, .initialized RJ9, .code yJ9_floorMod_7cf53 cJ9_floorMod_7cf53 3 (some .int)] ++ wsX00)
def wsX0_firstGreatest : List Cond := .code yX0_firstGreatest cX0_firstGreatest 3 (some .int) :: ([.fieldLink RX0 15 "RingSeesaw$Ring" "size" "I", .methodLink RX0 23 yX0_at, .instanceMethod yX0_at, .selects RX0 yX0_at yX0_at, .initialized RX0, .code yX0_at cX0_at 2 (some .int), .fieldLink RX0 9 "RingSeesaw$Ring" "numbers" "[I"] ++ wsX00)
def wsX0_span : List Cond := .code yX0_span cX0_span 3 (some .int) :: ([.fieldLink RX0 15 "RingSeesaw$Ring" "size" "I", .methodLink RX0 46 Lib.Math.min.name, .static Lib.Math.min.name, .initialized "java/lang/Math", .code Lib.Math.min.name Lib.Math.min.code 2 (some .int), .methodLink RX0 23 yX0_at, .instanceMethod yX0_at, .selects RX0 yX0_at yX0_at, .initialized RX0, .code yX0_at cX0_at 2 (some .int), .fieldLink RX0 9 "RingSeesaw$Ring" "numbers" "[I", .methodLink RX0 49 yX0_firstGreatest, .instanceMethod yX0_firstGreatest, .selects RX0 yX0_firstGreatest yX0_firstGreatest, .code yX0_firstGreatest cX0_firstGreatest 3 (some .int)] ++ wsX00)
def wsX0_tiltOn : List Cond := .code yX0_tiltOn cX0_tiltOn 4 (some .int) :: ([.fieldLink RX0 15 "RingSeesaw$Ring" "size" "I", .methodLink RX0 30 yX0_onRing, .instanceMethod yX0_onRing, .selects RX0 yX0_onRing yX0_onRing, .initialized RX0, .code yX0_onRing cX0_onRing 2 (some .int), .methodLink RX0 23 yX0_at, .instanceMethod yX0_at, .selects RX0 yX0_at yX0_at, .code yX0_at cX0_at 2 (some .int), .fieldLink RX0 9 "RingSeesaw$Ring" "numbers" "[I"] ++ wsX00)
def wsX0_differencesFrom : List Cond := .code yX0_differencesFrom cX0_differencesFrom 4 (some .int) :: ([.fieldLink RX0 15 "RingSeesaw$Ring" "size" "I", .methodLink RX0 23 yX0_at, .instanceMethod yX0_at, .selects RX0 yX0_at yX0_at, .initialized RX0, .code yX0_at cX0_at 2 (some .int), .fieldLink RX0 9 "RingSeesaw$Ring" "numbers" "[I"] ++ wsX00)
def wsX0_canBecome : List Cond := .code yX0_canBecome cX0_canBecome 2 (some .boolean) :: ([.methodLink RX0 56 yX0_total, .instanceMethod yX0_total, .selects RX0 yX0_total yX0_total, .initialized RX0, .code yX0_total cX0_total 3 (some .int), .fieldLink RX0 15 "RingSeesaw$Ring" "size" "I", .methodLink RX0 23 yX0_at, .instanceMethod yX0_at, .selects RX0 yX0_at yX0_at, .code yX0_at cX0_at 2 (some .int), .fieldLink RX0 9 "RingSeesaw$Ring" "numbers" "[I", .methodLink RX0 59 yX0_momentLeft, .instanceMethod yX0_momentLeft, .selects RX0 yX0_momentLeft yX0_momentLeft, .code yX0_momentLeft cX0_momentLeft 3 (some .int), .methodLink RX0 40 yJ9_floorMod_7cf53, .static yJ9_floorMod_7cf53, .initialized RJ9, .code yJ9_floorMod_7cf53 cJ9_floorMod_7cf53 3 (some .int)] ++ wsX00)
def wsX1_init : List Cond := .code yX1_init cX1_init 1 none :: ([.methodLink RX1 3 objectInit, .instanceMethod objectInit, .code objectInit ⟨#[0xb1]⟩ 1 none, .arrayClass .int, .fieldLink RX1 9 "RingSeesaw$Way" "tips" "[I", .fieldLink RX1 15 "RingSeesaw$Way" "size" "I"] ++ wsX10)
def wsX1_firstClimb : List Cond := .code yX1_firstClimb cX1_firstClimb 5 (some .int) :: ([.fieldLink RX1 15 "RingSeesaw$Way" "size" "I", .methodLink RX1 28 yX0_at, .instanceMethod yX0_at, .selects RX0 yX0_at yX0_at, .initialized RX0, .code yX0_at cX0_at 2 (some .int), .fieldLink RX0 9 "RingSeesaw$Ring" "numbers" "[I"] ++ wsX10 ++ wsX00)
def wsX1_find : List Cond := .code yX1_find cX1_find 6 none :: ([.fieldLink RX1 15 "RingSeesaw$Way" "size" "I", .fieldLink RX1 9 "RingSeesaw$Way" "tips" "[I", .methodLink RX1 19 yX0_size, .instanceMethod yX0_size, .selects RX0 yX0_size yX0_size, .initialized RX0, .code yX0_size cX0_size 1 (some .int), .fieldLink RX0 15 "RingSeesaw$Ring" "size" "I", .methodLink RX1 24 yX1_firstClimb, .instanceMethod yX1_firstClimb, .selects RX1 yX1_firstClimb yX1_firstClimb, .initialized RX1, .code yX1_firstClimb cX1_firstClimb 5 (some .int), .methodLink RX1 28 yX0_at, .instanceMethod yX0_at, .selects RX0 yX0_at yX0_at, .code yX0_at cX0_at 2 (some .int), .fieldLink RX0 9 "RingSeesaw$Ring" "numbers" "[I"] ++ wsX10 ++ wsX00)
def wsX1_tipsAt : List Cond := .code yX1_tipsAt cX1_tipsAt 2 (some .int) :: ([.fieldLink RX1 9 "RingSeesaw$Way" "tips" "[I"] ++ wsX10)
def wsX1_awayFrom : List Cond := .code yX1_awayFrom cX1_awayFrom 4 (some .int) :: ([.fieldLink RX1 15 "RingSeesaw$Way" "size" "I", .methodLink RX1 44 Lib.Math.abs.name, .static Lib.Math.abs.name, .initialized "java/lang/Math", .code Lib.Math.abs.name Lib.Math.abs.code 1 (some .int), .methodLink RX1 32 yX1_tipsAt, .instanceMethod yX1_tipsAt, .selects RX1 yX1_tipsAt yX1_tipsAt, .initialized RX1, .code yX1_tipsAt cX1_tipsAt 2 (some .int), .fieldLink RX1 9 "RingSeesaw$Way" "tips" "[I"] ++ wsX10)
def wsX1_fewest : List Cond := .code yX1_fewest cX1_fewest 3 (some .int) :: ([.fieldLink RX1 15 "RingSeesaw$Way" "size" "I", .methodLink RX1 38 Lib.Math.min.name, .static Lib.Math.min.name, .initialized "java/lang/Math", .code Lib.Math.min.name Lib.Math.min.code 2 (some .int), .methodLink RX1 32 yX1_tipsAt, .instanceMethod yX1_tipsAt, .selects RX1 yX1_tipsAt yX1_tipsAt, .initialized RX1, .code yX1_tipsAt cX1_tipsAt 2 (some .int), .fieldLink RX1 9 "RingSeesaw$Way" "tips" "[I", .methodLink RX1 35 yX1_awayFrom, .instanceMethod yX1_awayFrom, .selects RX1 yX1_awayFrom yX1_awayFrom, .code yX1_awayFrom cX1_awayFrom 4 (some .int), .methodLink RX1 44 Lib.Math.abs.name, .static Lib.Math.abs.name, .code Lib.Math.abs.name Lib.Math.abs.code 1 (some .int)] ++ wsX10)
def wsX2_init_r1 : List Cond := [Cond.methodLink RX2 1 objectInit, Cond.instanceMethod objectInit, Cond.code objectInit ⟨#[0xb1]⟩ 1 none, Cond.classLink RX2 7 RX0, Cond.instantiable RX0 2, Cond.initialized RX0, Cond.fieldLink RX2 10 "RingSeesaw" "ring" "LRingSeesaw$Ring;", Cond.fieldLink RX2 16 "RingSeesaw" "kept" "[LRingSeesaw$Ring;", Cond.fieldLink RX2 20 "RingSeesaw" "keptCount" "I", Cond.fieldLink RX2 24 "RingSeesaw" "tipsDone" "I", Cond.fieldLink RX2 27 "RingSeesaw" "trial" "LRingSeesaw$Ring;", Cond.classLink RX2 30 RX1, Cond.instantiable RX1 2, Cond.initialized RX1, Cond.fieldLink RX2 33 "RingSeesaw" "way" "LRingSeesaw$Way;", Cond.instanceMethod yX0_init, Cond.code yX0_init cX0_init 1 none, Cond.methodLink RX0 3 objectInit, Cond.arrayClass .int, Cond.fieldLink RX0 9 "RingSeesaw$Ring" "numbers" "[I", Cond.fieldLink RX0 15 "RingSeesaw$Ring" "size" "I", Cond.instanceMethod yX1_init, Cond.code yX1_init cX1_init 1 none, Cond.methodLink RX1 3 objectInit]
def wsX2_init_r2 : List Cond := [Cond.fieldLink RX1 9 "RingSeesaw$Way" "tips" "[I", Cond.fieldLink RX1 15 "RingSeesaw$Way" "size" "I"]
def wsX2_init : List Cond := .code yX2_init cX2_init 2 none :: ((wsX2_init_r1 ++ wsX2_init_r2) ++ wsX00 ++ wsX20 ++ wsX10)
def wsX2_lay : List Cond := .code yX2_lay cX2_lay 3 (some .int) :: ([.classLink RX2 37 "java/lang/IllegalArgumentException", .initialized "java/lang/IllegalArgumentException", .fieldLink RX2 10 "RingSeesaw" "ring" "LRingSeesaw$Ring;", .fieldLink RX2 20 "RingSeesaw" "keptCount" "I", .methodLink RX2 44 yX0_size, .instanceMethod yX0_size, .selects RX0 yX0_size yX0_size, .initialized RX0, .code yX0_size cX0_size 1 (some .int), .fieldLink RX0 15 "RingSeesaw$Ring" "size" "I", .methodLink RX2 48 yX0_clear, .instanceMethod yX0_clear, .selects RX0 yX0_clear yX0_clear, .code yX0_clear cX0_clear 3 none, .fieldLink RX0 9 "RingSeesaw$Ring" "numbers" "[I", .methodLink RX0 19 yX0_write, .instanceMethod yX0_write, .selects RX0 yX0_write yX0_write, .code yX0_write cX0_write 3 none] ++ wsX20 ++ wsX00 ++ (vx_atS RX2 41 "java/lang/IllegalArgumentException" ["java/lang/RuntimeException", "java/lang/Exception"]).filter goodWord)
def wsX2_requirePlace : List Cond := .code yX2_requirePlace cX2_requirePlace 2 none :: ([.classLink RX2 221 "java/lang/IndexOutOfBoundsException", .initialized "java/lang/IndexOutOfBoundsException", .fieldLink RX2 10 "RingSeesaw" "ring" "LRingSeesaw$Ring;", .methodLink RX2 44 yX0_size, .instanceMethod yX0_size, .selects RX0 yX0_size yX0_size, .initialized RX0, .code yX0_size cX0_size 1 (some .int), .fieldLink RX0 15 "RingSeesaw$Ring" "size" "I"] ++ wsX20 ++ wsX00 ++ (vx_atS RX2 225 "java/lang/IndexOutOfBoundsException" ["java/lang/RuntimeException", "java/lang/Exception"]).filter goodWord)
def wsX2_requireNumber : List Cond := .code yX2_requireNumber cX2_requireNumber 2 none :: ([.classLink RX2 37 "java/lang/IllegalArgumentException", .initialized "java/lang/IllegalArgumentException"] ++ (vx_atS RX2 41 "java/lang/IllegalArgumentException" ["java/lang/RuntimeException", "java/lang/Exception"]).filter goodWord)
def wsX2_put_r1 : List Cond := [Cond.fieldLink RX2 10 "RingSeesaw" "ring" "LRingSeesaw$Ring;", Cond.methodLink RX2 52 yX2_requirePlace, Cond.instanceMethod yX2_requirePlace, Cond.selects RX2 yX2_requirePlace yX2_requirePlace, Cond.initialized RX2, Cond.code yX2_requirePlace cX2_requirePlace 2 none, Cond.classLink RX2 221 "java/lang/IndexOutOfBoundsException", Cond.initialized "java/lang/IndexOutOfBoundsException", Cond.methodLink RX2 44 yX0_size, Cond.instanceMethod yX0_size, Cond.selects RX0 yX0_size yX0_size, Cond.initialized RX0, Cond.code yX0_size cX0_size 1 (some .int), Cond.fieldLink RX0 15 "RingSeesaw$Ring" "size" "I", Cond.methodLink RX2 55 yX2_requireNumber, Cond.instanceMethod yX2_requireNumber, Cond.selects RX2 yX2_requireNumber yX2_requireNumber, Cond.code yX2_requireNumber cX2_requireNumber 2 none, Cond.classLink RX2 37 "java/lang/IllegalArgumentException", Cond.initialized "java/lang/IllegalArgumentException", Cond.methodLink RX2 58 yX0_at, Cond.instanceMethod yX0_at, Cond.selects RX0 yX0_at yX0_at, Cond.code yX0_at cX0_at 2 (some .int)]
def wsX2_put_r2 : List Cond := [Cond.fieldLink RX0 9 "RingSeesaw$Ring" "numbers" "[I", Cond.methodLink RX2 62 yX0_write, Cond.instanceMethod yX0_write, Cond.selects RX0 yX0_write yX0_write, Cond.code yX0_write cX0_write 3 none]
def wsX2_put : List Cond := .code yX2_put cX2_put 4 (some .int) :: ((wsX2_put_r1 ++ wsX2_put_r2) ++ wsX20 ++ wsX00 ++ (vx_atS RX2 225 "java/lang/IndexOutOfBoundsException" ["java/lang/RuntimeException", "java/lang/Exception"]).filter goodWord ++ (vx_atS RX2 41 "java/lang/IllegalArgumentException" ["java/lang/RuntimeException", "java/lang/Exception"]).filter goodWord)
def wsX2_requireTimes : List Cond := .code yX2_requireTimes cX2_requireTimes 2 none :: ([.classLink RX2 37 "java/lang/IllegalArgumentException", .initialized "java/lang/IllegalArgumentException"] ++ (vx_atS RX2 41 "java/lang/IllegalArgumentException" ["java/lang/RuntimeException", "java/lang/Exception"]).filter goodWord)
def wsX2_tip_r1 : List Cond := [Cond.fieldLink RX2 10 "RingSeesaw" "ring" "LRingSeesaw$Ring;", Cond.fieldLink RX2 24 "RingSeesaw" "tipsDone" "I", Cond.methodLink RX2 72 Lib.Math.abs.name, Cond.static Lib.Math.abs.name, Cond.initialized "java/lang/Math", Cond.code Lib.Math.abs.name Lib.Math.abs.code 1 (some .int), Cond.methodLink RX2 52 yX2_requirePlace, Cond.instanceMethod yX2_requirePlace, Cond.selects RX2 yX2_requirePlace yX2_requirePlace, Cond.initialized RX2, Cond.code yX2_requirePlace cX2_requirePlace 2 none, Cond.classLink RX2 221 "java/lang/IndexOutOfBoundsException", Cond.initialized "java/lang/IndexOutOfBoundsException", Cond.methodLink RX2 44 yX0_size, Cond.instanceMethod yX0_size, Cond.selects RX0 yX0_size yX0_size, Cond.initialized RX0, Cond.code yX0_size cX0_size 1 (some .int), Cond.fieldLink RX0 15 "RingSeesaw$Ring" "size" "I", Cond.methodLink RX2 66 yX2_requireTimes, Cond.instanceMethod yX2_requireTimes, Cond.selects RX2 yX2_requireTimes yX2_requireTimes, Cond.code yX2_requireTimes cX2_requireTimes 2 none, Cond.classLink RX2 37 "java/lang/IllegalArgumentException"]
def wsX2_tip_r2 : List Cond := [Cond.initialized "java/lang/IllegalArgumentException", Cond.methodLink RX2 69 yX0_tipBy, Cond.instanceMethod yX0_tipBy, Cond.selects RX0 yX0_tipBy yX0_tipBy, Cond.code yX0_tipBy cX0_tipBy 3 none, Cond.methodLink RX0 27 yX0_add, Cond.instanceMethod yX0_add, Cond.selects RX0 yX0_add yX0_add, Cond.code yX0_add cX0_add 3 none, Cond.methodLink RX0 23 yX0_at, Cond.instanceMethod yX0_at, Cond.selects RX0 yX0_at yX0_at, Cond.code yX0_at cX0_at 2 (some .int), Cond.fieldLink RX0 9 "RingSeesaw$Ring" "numbers" "[I", Cond.methodLink RX0 19 yX0_write, Cond.instanceMethod yX0_write, Cond.selects RX0 yX0_write yX0_write, Cond.code yX0_write cX0_write 3 none, Cond.methodLink RX0 30 yX0_onRing, Cond.instanceMethod yX0_onRing, Cond.selects RX0 yX0_onRing yX0_onRing, Cond.code yX0_onRing cX0_onRing 2 (some .int), Cond.methodLink RX2 58 yX0_at]
def wsX2_tip : List Cond := .code yX2_tip cX2_tip 3 (some .int) :: ((wsX2_tip_r1 ++ wsX2_tip_r2) ++ wsX20 ++ wsX00 ++ (vx_atS RX2 225 "java/lang/IndexOutOfBoundsException" ["java/lang/RuntimeException", "java/lang/Exception"]).filter goodWord ++ (vx_atS RX2 41 "java/lang/IllegalArgumentException" ["java/lang/RuntimeException", "java/lang/Exception"]).filter goodWord)
def wsX2_turn : List Cond := .code yX2_turn cX2_turn 1 (some .int) :: ([.fieldLink RX2 10 "RingSeesaw" "ring" "LRingSeesaw$Ring;", .methodLink RX2 77 yX0_rotate, .instanceMethod yX0_rotate, .selects RX0 yX0_rotate yX0_rotate, .initialized RX0, .code yX0_rotate cX0_rotate 3 none, .fieldLink RX0 15 "RingSeesaw$Ring" "size" "I", .methodLink RX0 23 yX0_at, .instanceMethod yX0_at, .selects RX0 yX0_at yX0_at, .code yX0_at cX0_at 2 (some .int), .fieldLink RX0 9 "RingSeesaw$Ring" "numbers" "[I", .methodLink RX0 19 yX0_write, .instanceMethod yX0_write, .selects RX0 yX0_write yX0_write, .code yX0_write cX0_write 3 none, .methodLink RX2 58 yX0_at] ++ wsX20 ++ wsX00)
def wsX2_keptRing : List Cond := .code yX2_keptRing cX2_keptRing 3 (some (.object "RingSeesaw$Ring")) :: ([.classLink RX2 221 "java/lang/IndexOutOfBoundsException", .initialized "java/lang/IndexOutOfBoundsException", .fieldLink RX2 20 "RingSeesaw" "keptCount" "I", .fieldLink RX2 16 "RingSeesaw" "kept" "[LRingSeesaw$Ring;"] ++ wsX20 ++ (vx_atS RX2 225 "java/lang/IndexOutOfBoundsException" ["java/lang/RuntimeException", "java/lang/Exception"]).filter goodWord)
def wsX2_keep_r1 : List Cond := [Cond.classLink RX2 80 "java/lang/IllegalStateException", Cond.initialized "java/lang/IllegalStateException", Cond.fieldLink RX2 20 "RingSeesaw" "keptCount" "I", Cond.fieldLink RX2 10 "RingSeesaw" "ring" "LRingSeesaw$Ring;", Cond.methodLink RX2 85 yX2_keptRing, Cond.instanceMethod yX2_keptRing, Cond.selects RX2 yX2_keptRing yX2_keptRing, Cond.initialized RX2, Cond.code yX2_keptRing cX2_keptRing 3 (some (.object "RingSeesaw$Ring")), Cond.classLink RX2 221 "java/lang/IndexOutOfBoundsException", Cond.initialized "java/lang/IndexOutOfBoundsException", Cond.fieldLink RX2 16 "RingSeesaw" "kept" "[LRingSeesaw$Ring;", Cond.methodLink RX2 89 yX0_copyFrom, Cond.instanceMethod yX0_copyFrom, Cond.selects RX0 yX0_copyFrom yX0_copyFrom, Cond.initialized RX0, Cond.code yX0_copyFrom cX0_copyFrom 3 none, Cond.fieldLink RX0 15 "RingSeesaw$Ring" "size" "I", Cond.fieldLink RX0 9 "RingSeesaw$Ring" "numbers" "[I", Cond.methodLink RX0 23 yX0_at, Cond.instanceMethod yX0_at, Cond.selects RX0 yX0_at yX0_at, Cond.code yX0_at cX0_at 2 (some .int), Cond.methodLink RX0 19 yX0_write]
def wsX2_keep_r2 : List Cond := [Cond.instanceMethod yX0_write, Cond.selects RX0 yX0_write yX0_write, Cond.code yX0_write cX0_write 3 none]
def wsX2_keep : List Cond := .code yX2_keep cX2_keep 2 (some .int) :: ((wsX2_keep_r1 ++ wsX2_keep_r2) ++ wsX20 ++ wsX00 ++ (vx_atS RX2 84 "java/lang/IllegalStateException" ["java/lang/RuntimeException", "java/lang/Exception"]).filter goodWord ++ (vx_atS RX2 225 "java/lang/IndexOutOfBoundsException" ["java/lang/RuntimeException", "java/lang/Exception"]).filter goodWord)
def wsX2_settle_r1 : List Cond := [Cond.classLink RX2 37 "java/lang/IllegalArgumentException", Cond.initialized "java/lang/IllegalArgumentException", Cond.fieldLink RX2 10 "RingSeesaw" "ring" "LRingSeesaw$Ring;", Cond.fieldLink RX2 24 "RingSeesaw" "tipsDone" "I", Cond.methodLink RX2 95 yX0_settleBy, Cond.instanceMethod yX0_settleBy, Cond.selects RX0 yX0_settleBy yX0_settleBy, Cond.initialized RX0, Cond.code yX0_settleBy cX0_settleBy 4 (some .int), Cond.methodLink RX0 33 yX0_firstSteep, Cond.instanceMethod yX0_firstSteep, Cond.selects RX0 yX0_firstSteep yX0_firstSteep, Cond.code yX0_firstSteep cX0_firstSteep 2 (some .int), Cond.fieldLink RX0 15 "RingSeesaw$Ring" "size" "I", Cond.methodLink RX0 52 yX0_steepAt, Cond.instanceMethod yX0_steepAt, Cond.selects RX0 yX0_steepAt yX0_steepAt, Cond.code yX0_steepAt cX0_steepAt 2 (some .boolean), Cond.methodLink RX0 23 yX0_at, Cond.instanceMethod yX0_at, Cond.selects RX0 yX0_at yX0_at, Cond.code yX0_at cX0_at 2 (some .int), Cond.fieldLink RX0 9 "RingSeesaw$Ring" "numbers" "[I", Cond.methodLink RX0 30 yX0_onRing]
def wsX2_settle_r2 : List Cond := [Cond.instanceMethod yX0_onRing, Cond.selects RX0 yX0_onRing yX0_onRing, Cond.code yX0_onRing cX0_onRing 2 (some .int), Cond.methodLink RX0 37 yX0_tipBy, Cond.instanceMethod yX0_tipBy, Cond.selects RX0 yX0_tipBy yX0_tipBy, Cond.code yX0_tipBy cX0_tipBy 3 none, Cond.methodLink RX0 27 yX0_add, Cond.instanceMethod yX0_add, Cond.selects RX0 yX0_add yX0_add, Cond.code yX0_add cX0_add 3 none, Cond.methodLink RX0 19 yX0_write, Cond.instanceMethod yX0_write, Cond.selects RX0 yX0_write yX0_write, Cond.code yX0_write cX0_write 3 none]
def wsX2_settle : List Cond := .code yX2_settle cX2_settle 3 (some .int) :: ((wsX2_settle_r1 ++ wsX2_settle_r2) ++ wsX20 ++ wsX00 ++ (vx_atS RX2 41 "java/lang/IllegalArgumentException" ["java/lang/RuntimeException", "java/lang/Exception"]).filter goodWord)
def wsX2_requireWayTo_r1 : List Cond := [Cond.classLink RX2 80 "java/lang/IllegalStateException", Cond.initialized "java/lang/IllegalStateException", Cond.fieldLink RX2 10 "RingSeesaw" "ring" "LRingSeesaw$Ring;", Cond.methodLink RX2 130 yX0_canBecome, Cond.instanceMethod yX0_canBecome, Cond.selects RX0 yX0_canBecome yX0_canBecome, Cond.initialized RX0, Cond.code yX0_canBecome cX0_canBecome 2 (some .boolean), Cond.methodLink RX0 56 yX0_total, Cond.instanceMethod yX0_total, Cond.selects RX0 yX0_total yX0_total, Cond.code yX0_total cX0_total 3 (some .int), Cond.fieldLink RX0 15 "RingSeesaw$Ring" "size" "I", Cond.methodLink RX0 23 yX0_at, Cond.instanceMethod yX0_at, Cond.selects RX0 yX0_at yX0_at, Cond.code yX0_at cX0_at 2 (some .int), Cond.fieldLink RX0 9 "RingSeesaw$Ring" "numbers" "[I", Cond.methodLink RX0 59 yX0_momentLeft, Cond.instanceMethod yX0_momentLeft, Cond.selects RX0 yX0_momentLeft yX0_momentLeft, Cond.code yX0_momentLeft cX0_momentLeft 3 (some .int), Cond.methodLink RX0 40 yJ9_floorMod_7cf53, Cond.static yJ9_floorMod_7cf53]
def wsX2_requireWayTo_r2 : List Cond := [Cond.initialized RJ9, Cond.code yJ9_floorMod_7cf53 cJ9_floorMod_7cf53 3 (some .int)]
def wsX2_requireWayTo : List Cond := .code yX2_requireWayTo cX2_requireWayTo 2 none :: ((wsX2_requireWayTo_r1 ++ wsX2_requireWayTo_r2) ++ wsX20 ++ wsX00 ++ (vx_atS RX2 84 "java/lang/IllegalStateException" ["java/lang/RuntimeException", "java/lang/Exception"]).filter goodWord)
def wsX2_fewestTo_r1 : List Cond := [Cond.fieldLink RX2 10 "RingSeesaw" "ring" "LRingSeesaw$Ring;", Cond.fieldLink RX2 33 "RingSeesaw" "way" "LRingSeesaw$Way;", Cond.methodLink RX2 130 yX0_canBecome, Cond.instanceMethod yX0_canBecome, Cond.selects RX0 yX0_canBecome yX0_canBecome, Cond.initialized RX0, Cond.code yX0_canBecome cX0_canBecome 2 (some .boolean), Cond.methodLink RX0 56 yX0_total, Cond.instanceMethod yX0_total, Cond.selects RX0 yX0_total yX0_total, Cond.code yX0_total cX0_total 3 (some .int), Cond.fieldLink RX0 15 "RingSeesaw$Ring" "size" "I", Cond.methodLink RX0 23 yX0_at, Cond.instanceMethod yX0_at, Cond.selects RX0 yX0_at yX0_at, Cond.code yX0_at cX0_at 2 (some .int), Cond.fieldLink RX0 9 "RingSeesaw$Ring" "numbers" "[I", Cond.methodLink RX0 59 yX0_momentLeft, Cond.instanceMethod yX0_momentLeft, Cond.selects RX0 yX0_momentLeft yX0_momentLeft, Cond.code yX0_momentLeft cX0_momentLeft 3 (some .int), Cond.methodLink RX0 40 yJ9_floorMod_7cf53, Cond.static yJ9_floorMod_7cf53, Cond.initialized RJ9]
def wsX2_fewestTo_r2 : List Cond := [Cond.code yJ9_floorMod_7cf53 cJ9_floorMod_7cf53 3 (some .int), Cond.methodLink RX2 134 yX1_find, Cond.instanceMethod yX1_find, Cond.selects RX1 yX1_find yX1_find, Cond.initialized RX1, Cond.code yX1_find cX1_find 6 none, Cond.fieldLink RX1 15 "RingSeesaw$Way" "size" "I", Cond.fieldLink RX1 9 "RingSeesaw$Way" "tips" "[I", Cond.methodLink RX1 19 yX0_size, Cond.instanceMethod yX0_size, Cond.selects RX0 yX0_size yX0_size, Cond.code yX0_size cX0_size 1 (some .int), Cond.methodLink RX1 24 yX1_firstClimb, Cond.instanceMethod yX1_firstClimb, Cond.selects RX1 yX1_firstClimb yX1_firstClimb, Cond.code yX1_firstClimb cX1_firstClimb 5 (some .int), Cond.methodLink RX1 28 yX0_at, Cond.methodLink RX2 234 yX1_fewest, Cond.instanceMethod yX1_fewest, Cond.selects RX1 yX1_fewest yX1_fewest, Cond.code yX1_fewest cX1_fewest 3 (some .int), Cond.methodLink RX1 38 Lib.Math.min.name, Cond.static Lib.Math.min.name, Cond.initialized "java/lang/Math"]
def wsX2_fewestTo_r3 : List Cond := [Cond.code Lib.Math.min.name Lib.Math.min.code 2 (some .int), Cond.methodLink RX1 32 yX1_tipsAt, Cond.instanceMethod yX1_tipsAt, Cond.selects RX1 yX1_tipsAt yX1_tipsAt, Cond.code yX1_tipsAt cX1_tipsAt 2 (some .int), Cond.methodLink RX1 35 yX1_awayFrom, Cond.instanceMethod yX1_awayFrom, Cond.selects RX1 yX1_awayFrom yX1_awayFrom, Cond.code yX1_awayFrom cX1_awayFrom 4 (some .int), Cond.methodLink RX1 44 Lib.Math.abs.name, Cond.static Lib.Math.abs.name, Cond.code Lib.Math.abs.name Lib.Math.abs.code 1 (some .int)]
def wsX2_fewestTo : List Cond := .code yX2_fewestTo cX2_fewestTo 2 (some .int) :: ((wsX2_fewestTo_r1 ++ (wsX2_fewestTo_r2 ++ wsX2_fewestTo_r3)) ++ wsX20 ++ wsX00 ++ wsX10)
def wsX2_reach_r1 : List Cond := [Cond.fieldLink RX2 10 "RingSeesaw" "ring" "LRingSeesaw$Ring;", Cond.fieldLink RX2 24 "RingSeesaw" "tipsDone" "I", Cond.methodLink RX2 85 yX2_keptRing, Cond.instanceMethod yX2_keptRing, Cond.selects RX2 yX2_keptRing yX2_keptRing, Cond.initialized RX2, Cond.code yX2_keptRing cX2_keptRing 3 (some (.object "RingSeesaw$Ring")), Cond.classLink RX2 221 "java/lang/IndexOutOfBoundsException", Cond.initialized "java/lang/IndexOutOfBoundsException", Cond.fieldLink RX2 20 "RingSeesaw" "keptCount" "I", Cond.fieldLink RX2 16 "RingSeesaw" "kept" "[LRingSeesaw$Ring;", Cond.methodLink RX2 98 yX2_requireWayTo, Cond.instanceMethod yX2_requireWayTo, Cond.selects RX2 yX2_requireWayTo yX2_requireWayTo, Cond.code yX2_requireWayTo cX2_requireWayTo 2 none, Cond.classLink RX2 80 "java/lang/IllegalStateException", Cond.initialized "java/lang/IllegalStateException", Cond.methodLink RX2 130 yX0_canBecome, Cond.instanceMethod yX0_canBecome, Cond.selects RX0 yX0_canBecome yX0_canBecome, Cond.initialized RX0, Cond.code yX0_canBecome cX0_canBecome 2 (some .boolean), Cond.methodLink RX0 56 yX0_total, Cond.instanceMethod yX0_total]
def wsX2_reach_r2 : List Cond := [Cond.selects RX0 yX0_total yX0_total, Cond.code yX0_total cX0_total 3 (some .int), Cond.fieldLink RX0 15 "RingSeesaw$Ring" "size" "I", Cond.methodLink RX0 23 yX0_at, Cond.instanceMethod yX0_at, Cond.selects RX0 yX0_at yX0_at, Cond.code yX0_at cX0_at 2 (some .int), Cond.fieldLink RX0 9 "RingSeesaw$Ring" "numbers" "[I", Cond.methodLink RX0 59 yX0_momentLeft, Cond.instanceMethod yX0_momentLeft, Cond.selects RX0 yX0_momentLeft yX0_momentLeft, Cond.code yX0_momentLeft cX0_momentLeft 3 (some .int), Cond.methodLink RX0 40 yJ9_floorMod_7cf53, Cond.static yJ9_floorMod_7cf53, Cond.initialized RJ9, Cond.code yJ9_floorMod_7cf53 cJ9_floorMod_7cf53 3 (some .int), Cond.methodLink RX2 101 yX2_fewestTo, Cond.instanceMethod yX2_fewestTo, Cond.selects RX2 yX2_fewestTo yX2_fewestTo, Cond.code yX2_fewestTo cX2_fewestTo 2 (some .int), Cond.fieldLink RX2 33 "RingSeesaw" "way" "LRingSeesaw$Way;", Cond.methodLink RX2 134 yX1_find, Cond.instanceMethod yX1_find, Cond.selects RX1 yX1_find yX1_find]
def wsX2_reach_r3 : List Cond := [Cond.initialized RX1, Cond.code yX1_find cX1_find 6 none, Cond.fieldLink RX1 15 "RingSeesaw$Way" "size" "I", Cond.fieldLink RX1 9 "RingSeesaw$Way" "tips" "[I", Cond.methodLink RX1 19 yX0_size, Cond.instanceMethod yX0_size, Cond.selects RX0 yX0_size yX0_size, Cond.code yX0_size cX0_size 1 (some .int), Cond.methodLink RX1 24 yX1_firstClimb, Cond.instanceMethod yX1_firstClimb, Cond.selects RX1 yX1_firstClimb yX1_firstClimb, Cond.code yX1_firstClimb cX1_firstClimb 5 (some .int), Cond.methodLink RX1 28 yX0_at, Cond.methodLink RX2 234 yX1_fewest, Cond.instanceMethod yX1_fewest, Cond.selects RX1 yX1_fewest yX1_fewest, Cond.code yX1_fewest cX1_fewest 3 (some .int), Cond.methodLink RX1 38 Lib.Math.min.name, Cond.static Lib.Math.min.name, Cond.initialized "java/lang/Math", Cond.code Lib.Math.min.name Lib.Math.min.code 2 (some .int), Cond.methodLink RX1 32 yX1_tipsAt, Cond.instanceMethod yX1_tipsAt, Cond.selects RX1 yX1_tipsAt yX1_tipsAt]
def wsX2_reach_r4 : List Cond := [Cond.code yX1_tipsAt cX1_tipsAt 2 (some .int), Cond.methodLink RX1 35 yX1_awayFrom, Cond.instanceMethod yX1_awayFrom, Cond.selects RX1 yX1_awayFrom yX1_awayFrom, Cond.code yX1_awayFrom cX1_awayFrom 4 (some .int), Cond.methodLink RX1 44 Lib.Math.abs.name, Cond.static Lib.Math.abs.name, Cond.code Lib.Math.abs.name Lib.Math.abs.code 1 (some .int), Cond.methodLink RX2 89 yX0_copyFrom, Cond.instanceMethod yX0_copyFrom, Cond.selects RX0 yX0_copyFrom yX0_copyFrom, Cond.code yX0_copyFrom cX0_copyFrom 3 none, Cond.methodLink RX0 19 yX0_write, Cond.instanceMethod yX0_write, Cond.selects RX0 yX0_write yX0_write, Cond.code yX0_write cX0_write 3 none]
def wsX2_reach : List Cond := .code yX2_reach cX2_reach 4 (some .int) :: ((wsX2_reach_r1 ++ (wsX2_reach_r2 ++ (wsX2_reach_r3 ++ wsX2_reach_r4))) ++ wsX20 ++ wsX00 ++ wsX10 ++ (vx_atS RX2 225 "java/lang/IndexOutOfBoundsException" ["java/lang/RuntimeException", "java/lang/Exception"]).filter goodWord ++ (vx_atS RX2 84 "java/lang/IllegalStateException" ["java/lang/RuntimeException", "java/lang/Exception"]).filter goodWord)
def wsX2_places : List Cond := .code yX2_places cX2_places 1 (some .int) :: ([.fieldLink RX2 10 "RingSeesaw" "ring" "LRingSeesaw$Ring;", .methodLink RX2 44 yX0_size, .instanceMethod yX0_size, .selects RX0 yX0_size yX0_size, .initialized RX0, .code yX0_size cX0_size 1 (some .int), .fieldLink RX0 15 "RingSeesaw$Ring" "size" "I"] ++ wsX20 ++ wsX00)
def wsX2_numberAt : List Cond := .code yX2_numberAt cX2_numberAt 2 (some .int) :: ([.fieldLink RX2 10 "RingSeesaw" "ring" "LRingSeesaw$Ring;", .methodLink RX2 52 yX2_requirePlace, .instanceMethod yX2_requirePlace, .selects RX2 yX2_requirePlace yX2_requirePlace, .initialized RX2, .code yX2_requirePlace cX2_requirePlace 2 none, .classLink RX2 221 "java/lang/IndexOutOfBoundsException", .initialized "java/lang/IndexOutOfBoundsException", .methodLink RX2 44 yX0_size, .instanceMethod yX0_size, .selects RX0 yX0_size yX0_size, .initialized RX0, .code yX0_size cX0_size 1 (some .int), .fieldLink RX0 15 "RingSeesaw$Ring" "size" "I", .methodLink RX2 58 yX0_at, .instanceMethod yX0_at, .selects RX0 yX0_at yX0_at, .code yX0_at cX0_at 2 (some .int), .fieldLink RX0 9 "RingSeesaw$Ring" "numbers" "[I"] ++ wsX20 ++ wsX00 ++ (vx_atS RX2 225 "java/lang/IndexOutOfBoundsException" ["java/lang/RuntimeException", "java/lang/Exception"]).filter goodWord)
def wsX2_targets : List Cond := .code yX2_targets cX2_targets 1 (some .int) :: ([.fieldLink RX2 20 "RingSeesaw" "keptCount" "I"] ++ wsX20)
def wsX2_tips : List Cond := .code yX2_tips cX2_tips 1 (some .int) :: ([.fieldLink RX2 24 "RingSeesaw" "tipsDone" "I"] ++ wsX20)
def wsX2_sum : List Cond := .code yX2_sum cX2_sum 1 (some .int) :: ([.fieldLink RX2 10 "RingSeesaw" "ring" "LRingSeesaw$Ring;", .methodLink RX2 105 yX0_total, .instanceMethod yX0_total, .selects RX0 yX0_total yX0_total, .initialized RX0, .code yX0_total cX0_total 3 (some .int), .fieldLink RX0 15 "RingSeesaw$Ring" "size" "I", .methodLink RX0 23 yX0_at, .instanceMethod yX0_at, .selects RX0 yX0_at yX0_at, .code yX0_at cX0_at 2 (some .int), .fieldLink RX0 9 "RingSeesaw$Ring" "numbers" "[I"] ++ wsX20 ++ wsX00)
def wsX2_moment : List Cond := .code yX2_moment cX2_moment 1 (some .int) :: ([.fieldLink RX2 10 "RingSeesaw" "ring" "LRingSeesaw$Ring;", .methodLink RX2 108 yX0_momentLeft, .instanceMethod yX0_momentLeft, .selects RX0 yX0_momentLeft yX0_momentLeft, .initialized RX0, .code yX0_momentLeft cX0_momentLeft 3 (some .int), .fieldLink RX0 15 "RingSeesaw$Ring" "size" "I", .methodLink RX0 23 yX0_at, .instanceMethod yX0_at, .selects RX0 yX0_at yX0_at, .code yX0_at cX0_at 2 (some .int), .fieldLink RX0 9 "RingSeesaw$Ring" "numbers" "[I", .methodLink RX0 40 yJ9_floorMod_7cf53, .static yJ9_floorMod_7cf53, .initialized RJ9, .code yJ9_floorMod_7cf53 cJ9_floorMod_7cf53 3 (some .int)] ++ wsX20 ++ wsX00)
def wsX2_spread : List Cond := .code yX2_spread cX2_spread 1 (some .int) :: ([.fieldLink RX2 10 "RingSeesaw" "ring" "LRingSeesaw$Ring;", .methodLink RX2 111 yX0_span, .instanceMethod yX0_span, .selects RX0 yX0_span yX0_span, .initialized RX0, .code yX0_span cX0_span 3 (some .int), .fieldLink RX0 15 "RingSeesaw$Ring" "size" "I", .methodLink RX0 46 Lib.Math.min.name, .static Lib.Math.min.name, .initialized "java/lang/Math", .code Lib.Math.min.name Lib.Math.min.code 2 (some .int), .methodLink RX0 23 yX0_at, .instanceMethod yX0_at, .selects RX0 yX0_at yX0_at, .code yX0_at cX0_at 2 (some .int), .fieldLink RX0 9 "RingSeesaw$Ring" "numbers" "[I", .methodLink RX0 49 yX0_firstGreatest, .instanceMethod yX0_firstGreatest, .selects RX0 yX0_firstGreatest yX0_firstGreatest, .code yX0_firstGreatest cX0_firstGreatest 3 (some .int)] ++ wsX20 ++ wsX00)
def wsX2_highest : List Cond := .code yX2_highest cX2_highest 1 (some .int) :: ([.fieldLink RX2 10 "RingSeesaw" "ring" "LRingSeesaw$Ring;", .methodLink RX2 114 yX0_firstGreatest, .instanceMethod yX0_firstGreatest, .selects RX0 yX0_firstGreatest yX0_firstGreatest, .initialized RX0, .code yX0_firstGreatest cX0_firstGreatest 3 (some .int), .fieldLink RX0 15 "RingSeesaw$Ring" "size" "I", .methodLink RX0 23 yX0_at, .instanceMethod yX0_at, .selects RX0 yX0_at yX0_at, .code yX0_at cX0_at 2 (some .int), .fieldLink RX0 9 "RingSeesaw$Ring" "numbers" "[I"] ++ wsX20 ++ wsX00)
def wsX2_isSteep_r1 : List Cond := [Cond.fieldLink RX2 10 "RingSeesaw" "ring" "LRingSeesaw$Ring;", Cond.methodLink RX2 52 yX2_requirePlace, Cond.instanceMethod yX2_requirePlace, Cond.selects RX2 yX2_requirePlace yX2_requirePlace, Cond.initialized RX2, Cond.code yX2_requirePlace cX2_requirePlace 2 none, Cond.classLink RX2 221 "java/lang/IndexOutOfBoundsException", Cond.initialized "java/lang/IndexOutOfBoundsException", Cond.methodLink RX2 44 yX0_size, Cond.instanceMethod yX0_size, Cond.selects RX0 yX0_size yX0_size, Cond.initialized RX0, Cond.code yX0_size cX0_size 1 (some .int), Cond.fieldLink RX0 15 "RingSeesaw$Ring" "size" "I", Cond.methodLink RX2 117 yX0_steepAt, Cond.instanceMethod yX0_steepAt, Cond.selects RX0 yX0_steepAt yX0_steepAt, Cond.code yX0_steepAt cX0_steepAt 2 (some .boolean), Cond.methodLink RX0 23 yX0_at, Cond.instanceMethod yX0_at, Cond.selects RX0 yX0_at yX0_at, Cond.code yX0_at cX0_at 2 (some .int), Cond.fieldLink RX0 9 "RingSeesaw$Ring" "numbers" "[I", Cond.methodLink RX0 30 yX0_onRing]
def wsX2_isSteep_r2 : List Cond := [Cond.instanceMethod yX0_onRing, Cond.selects RX0 yX0_onRing yX0_onRing, Cond.code yX0_onRing cX0_onRing 2 (some .int)]
def wsX2_isSteep : List Cond := .code yX2_isSteep cX2_isSteep 2 (some .boolean) :: ((wsX2_isSteep_r1 ++ wsX2_isSteep_r2) ++ wsX20 ++ wsX00 ++ (vx_atS RX2 225 "java/lang/IndexOutOfBoundsException" ["java/lang/RuntimeException", "java/lang/Exception"]).filter goodWord)
def wsX2_steepPlaces : List Cond := .code yX2_steepPlaces cX2_steepPlaces 3 (some .int) :: ([.fieldLink RX2 10 "RingSeesaw" "ring" "LRingSeesaw$Ring;", .methodLink RX2 44 yX0_size, .instanceMethod yX0_size, .selects RX0 yX0_size yX0_size, .initialized RX0, .code yX0_size cX0_size 1 (some .int), .fieldLink RX0 15 "RingSeesaw$Ring" "size" "I", .methodLink RX2 117 yX0_steepAt, .instanceMethod yX0_steepAt, .selects RX0 yX0_steepAt yX0_steepAt, .code yX0_steepAt cX0_steepAt 2 (some .boolean), .methodLink RX0 23 yX0_at, .instanceMethod yX0_at, .selects RX0 yX0_at yX0_at, .code yX0_at cX0_at 2 (some .int), .fieldLink RX0 9 "RingSeesaw$Ring" "numbers" "[I", .methodLink RX0 30 yX0_onRing, .instanceMethod yX0_onRing, .selects RX0 yX0_onRing yX0_onRing, .code yX0_onRing cX0_onRing 2 (some .int)] ++ wsX20 ++ wsX00)
def wsX2_nextToTip : List Cond := .code yX2_nextToTip cX2_nextToTip 1 (some .int) :: ([.fieldLink RX2 10 "RingSeesaw" "ring" "LRingSeesaw$Ring;", .methodLink RX2 121 yX0_firstSteep, .instanceMethod yX0_firstSteep, .selects RX0 yX0_firstSteep yX0_firstSteep, .initialized RX0, .code yX0_firstSteep cX0_firstSteep 2 (some .int), .fieldLink RX0 15 "RingSeesaw$Ring" "size" "I", .methodLink RX0 52 yX0_steepAt, .instanceMethod yX0_steepAt, .selects RX0 yX0_steepAt yX0_steepAt, .code yX0_steepAt cX0_steepAt 2 (some .boolean), .methodLink RX0 23 yX0_at, .instanceMethod yX0_at, .selects RX0 yX0_at yX0_at, .code yX0_at cX0_at 2 (some .int), .fieldLink RX0 9 "RingSeesaw$Ring" "numbers" "[I", .methodLink RX0 30 yX0_onRing, .instanceMethod yX0_onRing, .selects RX0 yX0_onRing yX0_onRing, .code yX0_onRing cX0_onRing 2 (some .int)] ++ wsX20 ++ wsX00)
def wsX2_tilt_r1 : List Cond := [Cond.fieldLink RX2 10 "RingSeesaw" "ring" "LRingSeesaw$Ring;", Cond.methodLink RX2 52 yX2_requirePlace, Cond.instanceMethod yX2_requirePlace, Cond.selects RX2 yX2_requirePlace yX2_requirePlace, Cond.initialized RX2, Cond.code yX2_requirePlace cX2_requirePlace 2 none, Cond.classLink RX2 221 "java/lang/IndexOutOfBoundsException", Cond.initialized "java/lang/IndexOutOfBoundsException", Cond.methodLink RX2 44 yX0_size, Cond.instanceMethod yX0_size, Cond.selects RX0 yX0_size yX0_size, Cond.initialized RX0, Cond.code yX0_size cX0_size 1 (some .int), Cond.fieldLink RX0 15 "RingSeesaw$Ring" "size" "I", Cond.methodLink RX2 124 yX0_tiltOn, Cond.instanceMethod yX0_tiltOn, Cond.selects RX0 yX0_tiltOn yX0_tiltOn, Cond.code yX0_tiltOn cX0_tiltOn 4 (some .int), Cond.methodLink RX0 30 yX0_onRing, Cond.instanceMethod yX0_onRing, Cond.selects RX0 yX0_onRing yX0_onRing, Cond.code yX0_onRing cX0_onRing 2 (some .int), Cond.methodLink RX0 23 yX0_at, Cond.instanceMethod yX0_at]
def wsX2_tilt_r2 : List Cond := [Cond.selects RX0 yX0_at yX0_at, Cond.code yX0_at cX0_at 2 (some .int), Cond.fieldLink RX0 9 "RingSeesaw$Ring" "numbers" "[I"]
def wsX2_tilt : List Cond := .code yX2_tilt cX2_tilt 2 (some .int) :: ((wsX2_tilt_r1 ++ wsX2_tilt_r2) ++ wsX20 ++ wsX00 ++ (vx_atS RX2 225 "java/lang/IndexOutOfBoundsException" ["java/lang/RuntimeException", "java/lang/Exception"]).filter goodWord)
def wsX2_levelAxes : List Cond := .code yX2_levelAxes cX2_levelAxes 3 (some .int) :: ([.fieldLink RX2 10 "RingSeesaw" "ring" "LRingSeesaw$Ring;", .methodLink RX2 44 yX0_size, .instanceMethod yX0_size, .selects RX0 yX0_size yX0_size, .initialized RX0, .code yX0_size cX0_size 1 (some .int), .fieldLink RX0 15 "RingSeesaw$Ring" "size" "I", .methodLink RX2 124 yX0_tiltOn, .instanceMethod yX0_tiltOn, .selects RX0 yX0_tiltOn yX0_tiltOn, .code yX0_tiltOn cX0_tiltOn 4 (some .int), .methodLink RX0 30 yX0_onRing, .instanceMethod yX0_onRing, .selects RX0 yX0_onRing yX0_onRing, .code yX0_onRing cX0_onRing 2 (some .int), .methodLink RX0 23 yX0_at, .instanceMethod yX0_at, .selects RX0 yX0_at yX0_at, .code yX0_at cX0_at 2 (some .int), .fieldLink RX0 9 "RingSeesaw$Ring" "numbers" "[I"] ++ wsX20 ++ wsX00)
def wsX2_bestAxis : List Cond := .code yX2_bestAxis cX2_bestAxis 3 (some .int) :: ([.fieldLink RX2 10 "RingSeesaw" "ring" "LRingSeesaw$Ring;", .methodLink RX2 72 Lib.Math.abs.name, .static Lib.Math.abs.name, .initialized "java/lang/Math", .code Lib.Math.abs.name Lib.Math.abs.code 1 (some .int), .methodLink RX2 44 yX0_size, .instanceMethod yX0_size, .selects RX0 yX0_size yX0_size, .initialized RX0, .code yX0_size cX0_size 1 (some .int), .fieldLink RX0 15 "RingSeesaw$Ring" "size" "I", .methodLink RX2 124 yX0_tiltOn, .instanceMethod yX0_tiltOn, .selects RX0 yX0_tiltOn yX0_tiltOn, .code yX0_tiltOn cX0_tiltOn 4 (some .int), .methodLink RX0 30 yX0_onRing, .instanceMethod yX0_onRing, .selects RX0 yX0_onRing yX0_onRing, .code yX0_onRing cX0_onRing 2 (some .int), .methodLink RX0 23 yX0_at, .instanceMethod yX0_at, .selects RX0 yX0_at yX0_at, .code yX0_at cX0_at 2 (some .int), .fieldLink RX0 9 "RingSeesaw$Ring" "numbers" "[I"] ++ wsX20 ++ wsX00)
def wsX2_numberIn_r1 : List Cond := [Cond.methodLink RX2 85 yX2_keptRing, Cond.instanceMethod yX2_keptRing, Cond.selects RX2 yX2_keptRing yX2_keptRing, Cond.initialized RX2, Cond.code yX2_keptRing cX2_keptRing 3 (some (.object "RingSeesaw$Ring")), Cond.classLink RX2 221 "java/lang/IndexOutOfBoundsException", Cond.initialized "java/lang/IndexOutOfBoundsException", Cond.fieldLink RX2 20 "RingSeesaw" "keptCount" "I", Cond.fieldLink RX2 16 "RingSeesaw" "kept" "[LRingSeesaw$Ring;", Cond.methodLink RX2 52 yX2_requirePlace, Cond.instanceMethod yX2_requirePlace, Cond.selects RX2 yX2_requirePlace yX2_requirePlace, Cond.code yX2_requirePlace cX2_requirePlace 2 none, Cond.fieldLink RX2 10 "RingSeesaw" "ring" "LRingSeesaw$Ring;", Cond.methodLink RX2 44 yX0_size, Cond.instanceMethod yX0_size, Cond.selects RX0 yX0_size yX0_size, Cond.initialized RX0, Cond.code yX0_size cX0_size 1 (some .int), Cond.fieldLink RX0 15 "RingSeesaw$Ring" "size" "I", Cond.methodLink RX2 58 yX0_at, Cond.instanceMethod yX0_at, Cond.selects RX0 yX0_at yX0_at, Cond.code yX0_at cX0_at 2 (some .int)]
def wsX2_numberIn_r2 : List Cond := [Cond.fieldLink RX0 9 "RingSeesaw$Ring" "numbers" "[I"]
def wsX2_numberIn : List Cond := .code yX2_numberIn cX2_numberIn 4 (some .int) :: ((wsX2_numberIn_r1 ++ wsX2_numberIn_r2) ++ wsX20 ++ wsX00 ++ (vx_atS RX2 225 "java/lang/IndexOutOfBoundsException" ["java/lang/RuntimeException", "java/lang/Exception"]).filter goodWord)
def wsX2_differences : List Cond := .code yX2_differences cX2_differences 2 (some .int) :: ([.fieldLink RX2 10 "RingSeesaw" "ring" "LRingSeesaw$Ring;", .methodLink RX2 85 yX2_keptRing, .instanceMethod yX2_keptRing, .selects RX2 yX2_keptRing yX2_keptRing, .initialized RX2, .code yX2_keptRing cX2_keptRing 3 (some (.object "RingSeesaw$Ring")), .classLink RX2 221 "java/lang/IndexOutOfBoundsException", .initialized "java/lang/IndexOutOfBoundsException", .fieldLink RX2 20 "RingSeesaw" "keptCount" "I", .fieldLink RX2 16 "RingSeesaw" "kept" "[LRingSeesaw$Ring;", .methodLink RX2 127 yX0_differencesFrom, .instanceMethod yX0_differencesFrom, .selects RX0 yX0_differencesFrom yX0_differencesFrom, .initialized RX0, .code yX0_differencesFrom cX0_differencesFrom 4 (some .int), .fieldLink RX0 15 "RingSeesaw$Ring" "size" "I", .methodLink RX0 23 yX0_at, .instanceMethod yX0_at, .selects RX0 yX0_at yX0_at, .code yX0_at cX0_at 2 (some .int), .fieldLink RX0 9 "RingSeesaw$Ring" "numbers" "[I"] ++ wsX20 ++ wsX00 ++ (vx_atS RX2 225 "java/lang/IndexOutOfBoundsException" ["java/lang/RuntimeException", "java/lang/Exception"]).filter goodWord)
def wsX2_canReach_r1 : List Cond := [Cond.fieldLink RX2 10 "RingSeesaw" "ring" "LRingSeesaw$Ring;", Cond.methodLink RX2 85 yX2_keptRing, Cond.instanceMethod yX2_keptRing, Cond.selects RX2 yX2_keptRing yX2_keptRing, Cond.initialized RX2, Cond.code yX2_keptRing cX2_keptRing 3 (some (.object "RingSeesaw$Ring")), Cond.classLink RX2 221 "java/lang/IndexOutOfBoundsException", Cond.initialized "java/lang/IndexOutOfBoundsException", Cond.fieldLink RX2 20 "RingSeesaw" "keptCount" "I", Cond.fieldLink RX2 16 "RingSeesaw" "kept" "[LRingSeesaw$Ring;", Cond.methodLink RX2 130 yX0_canBecome, Cond.instanceMethod yX0_canBecome, Cond.selects RX0 yX0_canBecome yX0_canBecome, Cond.initialized RX0, Cond.code yX0_canBecome cX0_canBecome 2 (some .boolean), Cond.methodLink RX0 56 yX0_total, Cond.instanceMethod yX0_total, Cond.selects RX0 yX0_total yX0_total, Cond.code yX0_total cX0_total 3 (some .int), Cond.fieldLink RX0 15 "RingSeesaw$Ring" "size" "I", Cond.methodLink RX0 23 yX0_at, Cond.instanceMethod yX0_at, Cond.selects RX0 yX0_at yX0_at, Cond.code yX0_at cX0_at 2 (some .int)]
def wsX2_canReach_r2 : List Cond := [Cond.fieldLink RX0 9 "RingSeesaw$Ring" "numbers" "[I", Cond.methodLink RX0 59 yX0_momentLeft, Cond.instanceMethod yX0_momentLeft, Cond.selects RX0 yX0_momentLeft yX0_momentLeft, Cond.code yX0_momentLeft cX0_momentLeft 3 (some .int), Cond.methodLink RX0 40 yJ9_floorMod_7cf53, Cond.static yJ9_floorMod_7cf53, Cond.initialized RJ9, Cond.code yJ9_floorMod_7cf53 cJ9_floorMod_7cf53 3 (some .int)]
def wsX2_canReach : List Cond := .code yX2_canReach cX2_canReach 2 (some .boolean) :: ((wsX2_canReach_r1 ++ wsX2_canReach_r2) ++ wsX20 ++ wsX00 ++ (vx_atS RX2 225 "java/lang/IndexOutOfBoundsException" ["java/lang/RuntimeException", "java/lang/Exception"]).filter goodWord)
def wsX2_reachable_r1 : List Cond := [Cond.fieldLink RX2 20 "RingSeesaw" "keptCount" "I", Cond.fieldLink RX2 10 "RingSeesaw" "ring" "LRingSeesaw$Ring;", Cond.methodLink RX2 85 yX2_keptRing, Cond.instanceMethod yX2_keptRing, Cond.selects RX2 yX2_keptRing yX2_keptRing, Cond.initialized RX2, Cond.code yX2_keptRing cX2_keptRing 3 (some (.object "RingSeesaw$Ring")), Cond.classLink RX2 221 "java/lang/IndexOutOfBoundsException", Cond.initialized "java/lang/IndexOutOfBoundsException", Cond.fieldLink RX2 16 "RingSeesaw" "kept" "[LRingSeesaw$Ring;", Cond.methodLink RX2 130 yX0_canBecome, Cond.instanceMethod yX0_canBecome, Cond.selects RX0 yX0_canBecome yX0_canBecome, Cond.initialized RX0, Cond.code yX0_canBecome cX0_canBecome 2 (some .boolean), Cond.methodLink RX0 56 yX0_total, Cond.instanceMethod yX0_total, Cond.selects RX0 yX0_total yX0_total, Cond.code yX0_total cX0_total 3 (some .int), Cond.fieldLink RX0 15 "RingSeesaw$Ring" "size" "I", Cond.methodLink RX0 23 yX0_at, Cond.instanceMethod yX0_at, Cond.selects RX0 yX0_at yX0_at, Cond.code yX0_at cX0_at 2 (some .int)]
def wsX2_reachable_r2 : List Cond := [Cond.fieldLink RX0 9 "RingSeesaw$Ring" "numbers" "[I", Cond.methodLink RX0 59 yX0_momentLeft, Cond.instanceMethod yX0_momentLeft, Cond.selects RX0 yX0_momentLeft yX0_momentLeft, Cond.code yX0_momentLeft cX0_momentLeft 3 (some .int), Cond.methodLink RX0 40 yJ9_floorMod_7cf53, Cond.static yJ9_floorMod_7cf53, Cond.initialized RJ9, Cond.code yJ9_floorMod_7cf53 cJ9_floorMod_7cf53 3 (some .int)]
def wsX2_reachable : List Cond := .code yX2_reachable cX2_reachable 3 (some .int) :: ((wsX2_reachable_r1 ++ wsX2_reachable_r2) ++ wsX20 ++ wsX00 ++ (vx_atS RX2 225 "java/lang/IndexOutOfBoundsException" ["java/lang/RuntimeException", "java/lang/Exception"]).filter goodWord)
def wsX2_tipsTo_r1 : List Cond := [Cond.fieldLink RX2 33 "RingSeesaw" "way" "LRingSeesaw$Way;", Cond.fieldLink RX2 10 "RingSeesaw" "ring" "LRingSeesaw$Ring;", Cond.methodLink RX2 85 yX2_keptRing, Cond.instanceMethod yX2_keptRing, Cond.selects RX2 yX2_keptRing yX2_keptRing, Cond.initialized RX2, Cond.code yX2_keptRing cX2_keptRing 3 (some (.object "RingSeesaw$Ring")), Cond.classLink RX2 221 "java/lang/IndexOutOfBoundsException", Cond.initialized "java/lang/IndexOutOfBoundsException", Cond.fieldLink RX2 20 "RingSeesaw" "keptCount" "I", Cond.fieldLink RX2 16 "RingSeesaw" "kept" "[LRingSeesaw$Ring;", Cond.methodLink RX2 52 yX2_requirePlace, Cond.instanceMethod yX2_requirePlace, Cond.selects RX2 yX2_requirePlace yX2_requirePlace, Cond.code yX2_requirePlace cX2_requirePlace 2 none, Cond.methodLink RX2 44 yX0_size, Cond.instanceMethod yX0_size, Cond.selects RX0 yX0_size yX0_size, Cond.initialized RX0, Cond.code yX0_size cX0_size 1 (some .int), Cond.fieldLink RX0 15 "RingSeesaw$Ring" "size" "I", Cond.methodLink RX2 98 yX2_requireWayTo, Cond.instanceMethod yX2_requireWayTo, Cond.selects RX2 yX2_requireWayTo yX2_requireWayTo]
def wsX2_tipsTo_r2 : List Cond := [Cond.code yX2_requireWayTo cX2_requireWayTo 2 none, Cond.classLink RX2 80 "java/lang/IllegalStateException", Cond.initialized "java/lang/IllegalStateException", Cond.methodLink RX2 130 yX0_canBecome, Cond.instanceMethod yX0_canBecome, Cond.selects RX0 yX0_canBecome yX0_canBecome, Cond.code yX0_canBecome cX0_canBecome 2 (some .boolean), Cond.methodLink RX0 56 yX0_total, Cond.instanceMethod yX0_total, Cond.selects RX0 yX0_total yX0_total, Cond.code yX0_total cX0_total 3 (some .int), Cond.methodLink RX0 23 yX0_at, Cond.instanceMethod yX0_at, Cond.selects RX0 yX0_at yX0_at, Cond.code yX0_at cX0_at 2 (some .int), Cond.fieldLink RX0 9 "RingSeesaw$Ring" "numbers" "[I", Cond.methodLink RX0 59 yX0_momentLeft, Cond.instanceMethod yX0_momentLeft, Cond.selects RX0 yX0_momentLeft yX0_momentLeft, Cond.code yX0_momentLeft cX0_momentLeft 3 (some .int), Cond.methodLink RX0 40 yJ9_floorMod_7cf53, Cond.static yJ9_floorMod_7cf53, Cond.initialized RJ9, Cond.code yJ9_floorMod_7cf53 cJ9_floorMod_7cf53 3 (some .int)]
def wsX2_tipsTo_r3 : List Cond := [Cond.methodLink RX2 134 yX1_find, Cond.instanceMethod yX1_find, Cond.selects RX1 yX1_find yX1_find, Cond.initialized RX1, Cond.code yX1_find cX1_find 6 none, Cond.fieldLink RX1 15 "RingSeesaw$Way" "size" "I", Cond.fieldLink RX1 9 "RingSeesaw$Way" "tips" "[I", Cond.methodLink RX1 19 yX0_size, Cond.methodLink RX1 24 yX1_firstClimb, Cond.instanceMethod yX1_firstClimb, Cond.selects RX1 yX1_firstClimb yX1_firstClimb, Cond.code yX1_firstClimb cX1_firstClimb 5 (some .int), Cond.methodLink RX1 28 yX0_at, Cond.methodLink RX2 138 yX1_tipsAt, Cond.instanceMethod yX1_tipsAt, Cond.selects RX1 yX1_tipsAt yX1_tipsAt, Cond.code yX1_tipsAt cX1_tipsAt 2 (some .int)]
def wsX2_tipsTo : List Cond := .code yX2_tipsTo cX2_tipsTo 4 (some .int) :: ((wsX2_tipsTo_r1 ++ (wsX2_tipsTo_r2 ++ wsX2_tipsTo_r3)) ++ wsX20 ++ wsX00 ++ wsX10 ++ (vx_atS RX2 225 "java/lang/IndexOutOfBoundsException" ["java/lang/RuntimeException", "java/lang/Exception"]).filter goodWord ++ (vx_atS RX2 84 "java/lang/IllegalStateException" ["java/lang/RuntimeException", "java/lang/Exception"]).filter goodWord)
def wsX2_fewestTips_r1 : List Cond := [Cond.methodLink RX2 85 yX2_keptRing, Cond.instanceMethod yX2_keptRing, Cond.selects RX2 yX2_keptRing yX2_keptRing, Cond.initialized RX2, Cond.code yX2_keptRing cX2_keptRing 3 (some (.object "RingSeesaw$Ring")), Cond.classLink RX2 221 "java/lang/IndexOutOfBoundsException", Cond.initialized "java/lang/IndexOutOfBoundsException", Cond.fieldLink RX2 20 "RingSeesaw" "keptCount" "I", Cond.fieldLink RX2 16 "RingSeesaw" "kept" "[LRingSeesaw$Ring;", Cond.methodLink RX2 101 yX2_fewestTo, Cond.instanceMethod yX2_fewestTo, Cond.selects RX2 yX2_fewestTo yX2_fewestTo, Cond.code yX2_fewestTo cX2_fewestTo 2 (some .int), Cond.fieldLink RX2 10 "RingSeesaw" "ring" "LRingSeesaw$Ring;", Cond.fieldLink RX2 33 "RingSeesaw" "way" "LRingSeesaw$Way;", Cond.methodLink RX2 130 yX0_canBecome, Cond.instanceMethod yX0_canBecome, Cond.selects RX0 yX0_canBecome yX0_canBecome, Cond.initialized RX0, Cond.code yX0_canBecome cX0_canBecome 2 (some .boolean), Cond.methodLink RX0 56 yX0_total, Cond.instanceMethod yX0_total, Cond.selects RX0 yX0_total yX0_total, Cond.code yX0_total cX0_total 3 (some .int)]
def wsX2_fewestTips_r2 : List Cond := [Cond.fieldLink RX0 15 "RingSeesaw$Ring" "size" "I", Cond.methodLink RX0 23 yX0_at, Cond.instanceMethod yX0_at, Cond.selects RX0 yX0_at yX0_at, Cond.code yX0_at cX0_at 2 (some .int), Cond.fieldLink RX0 9 "RingSeesaw$Ring" "numbers" "[I", Cond.methodLink RX0 59 yX0_momentLeft, Cond.instanceMethod yX0_momentLeft, Cond.selects RX0 yX0_momentLeft yX0_momentLeft, Cond.code yX0_momentLeft cX0_momentLeft 3 (some .int), Cond.methodLink RX0 40 yJ9_floorMod_7cf53, Cond.static yJ9_floorMod_7cf53, Cond.initialized RJ9, Cond.code yJ9_floorMod_7cf53 cJ9_floorMod_7cf53 3 (some .int), Cond.methodLink RX2 134 yX1_find, Cond.instanceMethod yX1_find, Cond.selects RX1 yX1_find yX1_find, Cond.initialized RX1, Cond.code yX1_find cX1_find 6 none, Cond.fieldLink RX1 15 "RingSeesaw$Way" "size" "I", Cond.fieldLink RX1 9 "RingSeesaw$Way" "tips" "[I", Cond.methodLink RX1 19 yX0_size, Cond.instanceMethod yX0_size, Cond.selects RX0 yX0_size yX0_size]
def wsX2_fewestTips_r3 : List Cond := [Cond.code yX0_size cX0_size 1 (some .int), Cond.methodLink RX1 24 yX1_firstClimb, Cond.instanceMethod yX1_firstClimb, Cond.selects RX1 yX1_firstClimb yX1_firstClimb, Cond.code yX1_firstClimb cX1_firstClimb 5 (some .int), Cond.methodLink RX1 28 yX0_at, Cond.methodLink RX2 234 yX1_fewest, Cond.instanceMethod yX1_fewest, Cond.selects RX1 yX1_fewest yX1_fewest, Cond.code yX1_fewest cX1_fewest 3 (some .int), Cond.methodLink RX1 38 Lib.Math.min.name, Cond.static Lib.Math.min.name, Cond.initialized "java/lang/Math", Cond.code Lib.Math.min.name Lib.Math.min.code 2 (some .int), Cond.methodLink RX1 32 yX1_tipsAt, Cond.instanceMethod yX1_tipsAt, Cond.selects RX1 yX1_tipsAt yX1_tipsAt, Cond.code yX1_tipsAt cX1_tipsAt 2 (some .int), Cond.methodLink RX1 35 yX1_awayFrom, Cond.instanceMethod yX1_awayFrom, Cond.selects RX1 yX1_awayFrom yX1_awayFrom, Cond.code yX1_awayFrom cX1_awayFrom 4 (some .int), Cond.methodLink RX1 44 Lib.Math.abs.name, Cond.static Lib.Math.abs.name]
def wsX2_fewestTips_r4 : List Cond := [Cond.code Lib.Math.abs.name Lib.Math.abs.code 1 (some .int)]
def wsX2_fewestTips : List Cond := .code yX2_fewestTips cX2_fewestTips 2 (some .int) :: ((wsX2_fewestTips_r1 ++ (wsX2_fewestTips_r2 ++ (wsX2_fewestTips_r3 ++ wsX2_fewestTips_r4))) ++ wsX20 ++ wsX00 ++ wsX10 ++ (vx_atS RX2 225 "java/lang/IndexOutOfBoundsException" ["java/lang/RuntimeException", "java/lang/Exception"]).filter goodWord)
def wsX2_nearestTarget_r1 : List Cond := [Cond.fieldLink RX2 20 "RingSeesaw" "keptCount" "I", Cond.methodLink RX2 85 yX2_keptRing, Cond.instanceMethod yX2_keptRing, Cond.selects RX2 yX2_keptRing yX2_keptRing, Cond.initialized RX2, Cond.code yX2_keptRing cX2_keptRing 3 (some (.object "RingSeesaw$Ring")), Cond.classLink RX2 221 "java/lang/IndexOutOfBoundsException", Cond.initialized "java/lang/IndexOutOfBoundsException", Cond.fieldLink RX2 16 "RingSeesaw" "kept" "[LRingSeesaw$Ring;", Cond.methodLink RX2 101 yX2_fewestTo, Cond.instanceMethod yX2_fewestTo, Cond.selects RX2 yX2_fewestTo yX2_fewestTo, Cond.code yX2_fewestTo cX2_fewestTo 2 (some .int), Cond.fieldLink RX2 10 "RingSeesaw" "ring" "LRingSeesaw$Ring;", Cond.fieldLink RX2 33 "RingSeesaw" "way" "LRingSeesaw$Way;", Cond.methodLink RX2 130 yX0_canBecome, Cond.instanceMethod yX0_canBecome, Cond.selects RX0 yX0_canBecome yX0_canBecome, Cond.initialized RX0, Cond.code yX0_canBecome cX0_canBecome 2 (some .boolean), Cond.methodLink RX0 56 yX0_total, Cond.instanceMethod yX0_total, Cond.selects RX0 yX0_total yX0_total, Cond.code yX0_total cX0_total 3 (some .int)]
def wsX2_nearestTarget_r2 : List Cond := [Cond.fieldLink RX0 15 "RingSeesaw$Ring" "size" "I", Cond.methodLink RX0 23 yX0_at, Cond.instanceMethod yX0_at, Cond.selects RX0 yX0_at yX0_at, Cond.code yX0_at cX0_at 2 (some .int), Cond.fieldLink RX0 9 "RingSeesaw$Ring" "numbers" "[I", Cond.methodLink RX0 59 yX0_momentLeft, Cond.instanceMethod yX0_momentLeft, Cond.selects RX0 yX0_momentLeft yX0_momentLeft, Cond.code yX0_momentLeft cX0_momentLeft 3 (some .int), Cond.methodLink RX0 40 yJ9_floorMod_7cf53, Cond.static yJ9_floorMod_7cf53, Cond.initialized RJ9, Cond.code yJ9_floorMod_7cf53 cJ9_floorMod_7cf53 3 (some .int), Cond.methodLink RX2 134 yX1_find, Cond.instanceMethod yX1_find, Cond.selects RX1 yX1_find yX1_find, Cond.initialized RX1, Cond.code yX1_find cX1_find 6 none, Cond.fieldLink RX1 15 "RingSeesaw$Way" "size" "I", Cond.fieldLink RX1 9 "RingSeesaw$Way" "tips" "[I", Cond.methodLink RX1 19 yX0_size, Cond.instanceMethod yX0_size, Cond.selects RX0 yX0_size yX0_size]
def wsX2_nearestTarget_r3 : List Cond := [Cond.code yX0_size cX0_size 1 (some .int), Cond.methodLink RX1 24 yX1_firstClimb, Cond.instanceMethod yX1_firstClimb, Cond.selects RX1 yX1_firstClimb yX1_firstClimb, Cond.code yX1_firstClimb cX1_firstClimb 5 (some .int), Cond.methodLink RX1 28 yX0_at, Cond.methodLink RX2 234 yX1_fewest, Cond.instanceMethod yX1_fewest, Cond.selects RX1 yX1_fewest yX1_fewest, Cond.code yX1_fewest cX1_fewest 3 (some .int), Cond.methodLink RX1 38 Lib.Math.min.name, Cond.static Lib.Math.min.name, Cond.initialized "java/lang/Math", Cond.code Lib.Math.min.name Lib.Math.min.code 2 (some .int), Cond.methodLink RX1 32 yX1_tipsAt, Cond.instanceMethod yX1_tipsAt, Cond.selects RX1 yX1_tipsAt yX1_tipsAt, Cond.code yX1_tipsAt cX1_tipsAt 2 (some .int), Cond.methodLink RX1 35 yX1_awayFrom, Cond.instanceMethod yX1_awayFrom, Cond.selects RX1 yX1_awayFrom yX1_awayFrom, Cond.code yX1_awayFrom cX1_awayFrom 4 (some .int), Cond.methodLink RX1 44 Lib.Math.abs.name, Cond.static Lib.Math.abs.name]
def wsX2_nearestTarget_r4 : List Cond := [Cond.code Lib.Math.abs.name Lib.Math.abs.code 1 (some .int)]
def wsX2_nearestTarget : List Cond := .code yX2_nearestTarget cX2_nearestTarget 5 (some .int) :: ((wsX2_nearestTarget_r1 ++ (wsX2_nearestTarget_r2 ++ (wsX2_nearestTarget_r3 ++ wsX2_nearestTarget_r4))) ++ wsX20 ++ wsX00 ++ wsX10 ++ (vx_atS RX2 225 "java/lang/IndexOutOfBoundsException" ["java/lang/RuntimeException", "java/lang/Exception"]).filter goodWord)
def wsX2_tryToRest_r1 : List Cond := [Cond.fieldLink RX2 27 "RingSeesaw" "trial" "LRingSeesaw$Ring;", Cond.fieldLink RX2 10 "RingSeesaw" "ring" "LRingSeesaw$Ring;", Cond.methodLink RX2 89 yX0_copyFrom, Cond.instanceMethod yX0_copyFrom, Cond.selects RX0 yX0_copyFrom yX0_copyFrom, Cond.initialized RX0, Cond.code yX0_copyFrom cX0_copyFrom 3 none, Cond.fieldLink RX0 15 "RingSeesaw$Ring" "size" "I", Cond.fieldLink RX0 9 "RingSeesaw$Ring" "numbers" "[I", Cond.methodLink RX0 23 yX0_at, Cond.instanceMethod yX0_at, Cond.selects RX0 yX0_at yX0_at, Cond.code yX0_at cX0_at 2 (some .int), Cond.methodLink RX0 19 yX0_write, Cond.instanceMethod yX0_write, Cond.selects RX0 yX0_write yX0_write, Cond.code yX0_write cX0_write 3 none, Cond.methodLink RX2 95 yX0_settleBy, Cond.instanceMethod yX0_settleBy, Cond.selects RX0 yX0_settleBy yX0_settleBy, Cond.code yX0_settleBy cX0_settleBy 4 (some .int), Cond.methodLink RX0 33 yX0_firstSteep, Cond.instanceMethod yX0_firstSteep, Cond.selects RX0 yX0_firstSteep yX0_firstSteep]
def wsX2_tryToRest_r2 : List Cond := [Cond.code yX0_firstSteep cX0_firstSteep 2 (some .int), Cond.methodLink RX0 52 yX0_steepAt, Cond.instanceMethod yX0_steepAt, Cond.selects RX0 yX0_steepAt yX0_steepAt, Cond.code yX0_steepAt cX0_steepAt 2 (some .boolean), Cond.methodLink RX0 30 yX0_onRing, Cond.instanceMethod yX0_onRing, Cond.selects RX0 yX0_onRing yX0_onRing, Cond.code yX0_onRing cX0_onRing 2 (some .int), Cond.methodLink RX0 37 yX0_tipBy, Cond.instanceMethod yX0_tipBy, Cond.selects RX0 yX0_tipBy yX0_tipBy, Cond.code yX0_tipBy cX0_tipBy 3 none, Cond.methodLink RX0 27 yX0_add, Cond.instanceMethod yX0_add, Cond.selects RX0 yX0_add yX0_add, Cond.code yX0_add cX0_add 3 none, Cond.methodLink RX2 121 yX0_firstSteep]
def wsX2_tryToRest : List Cond := .code yX2_tryToRest cX2_tryToRest 2 (some .int) :: ((wsX2_tryToRest_r1 ++ wsX2_tryToRest_r2) ++ wsX20 ++ wsX00)
def wsX2_stepsToRest_r1 : List Cond := [Cond.methodLink RX2 141 yX2_tryToRest, Cond.instanceMethod yX2_tryToRest, Cond.selects RX2 yX2_tryToRest yX2_tryToRest, Cond.initialized RX2, Cond.code yX2_tryToRest cX2_tryToRest 2 (some .int), Cond.fieldLink RX2 27 "RingSeesaw" "trial" "LRingSeesaw$Ring;", Cond.fieldLink RX2 10 "RingSeesaw" "ring" "LRingSeesaw$Ring;", Cond.methodLink RX2 89 yX0_copyFrom, Cond.instanceMethod yX0_copyFrom, Cond.selects RX0 yX0_copyFrom yX0_copyFrom, Cond.initialized RX0, Cond.code yX0_copyFrom cX0_copyFrom 3 none, Cond.fieldLink RX0 15 "RingSeesaw$Ring" "size" "I", Cond.fieldLink RX0 9 "RingSeesaw$Ring" "numbers" "[I", Cond.methodLink RX0 23 yX0_at, Cond.instanceMethod yX0_at, Cond.selects RX0 yX0_at yX0_at, Cond.code yX0_at cX0_at 2 (some .int), Cond.methodLink RX0 19 yX0_write, Cond.instanceMethod yX0_write, Cond.selects RX0 yX0_write yX0_write, Cond.code yX0_write cX0_write 3 none, Cond.methodLink RX2 95 yX0_settleBy, Cond.instanceMethod yX0_settleBy]
def wsX2_stepsToRest_r2 : List Cond := [Cond.selects RX0 yX0_settleBy yX0_settleBy, Cond.code yX0_settleBy cX0_settleBy 4 (some .int), Cond.methodLink RX0 33 yX0_firstSteep, Cond.instanceMethod yX0_firstSteep, Cond.selects RX0 yX0_firstSteep yX0_firstSteep, Cond.code yX0_firstSteep cX0_firstSteep 2 (some .int), Cond.methodLink RX0 52 yX0_steepAt, Cond.instanceMethod yX0_steepAt, Cond.selects RX0 yX0_steepAt yX0_steepAt, Cond.code yX0_steepAt cX0_steepAt 2 (some .boolean), Cond.methodLink RX0 30 yX0_onRing, Cond.instanceMethod yX0_onRing, Cond.selects RX0 yX0_onRing yX0_onRing, Cond.code yX0_onRing cX0_onRing 2 (some .int), Cond.methodLink RX0 37 yX0_tipBy, Cond.instanceMethod yX0_tipBy, Cond.selects RX0 yX0_tipBy yX0_tipBy, Cond.code yX0_tipBy cX0_tipBy 3 none, Cond.methodLink RX0 27 yX0_add, Cond.instanceMethod yX0_add, Cond.selects RX0 yX0_add yX0_add, Cond.code yX0_add cX0_add 3 none, Cond.methodLink RX2 121 yX0_firstSteep]
def wsX2_stepsToRest : List Cond := .code yX2_stepsToRest cX2_stepsToRest 1 (some .int) :: ((wsX2_stepsToRest_r1 ++ wsX2_stepsToRest_r2) ++ wsX20 ++ wsX00)
def wsX2_spreadAtRest_r1 : List Cond := [Cond.fieldLink RX2 27 "RingSeesaw" "trial" "LRingSeesaw$Ring;", Cond.methodLink RX2 141 yX2_tryToRest, Cond.instanceMethod yX2_tryToRest, Cond.selects RX2 yX2_tryToRest yX2_tryToRest, Cond.initialized RX2, Cond.code yX2_tryToRest cX2_tryToRest 2 (some .int), Cond.fieldLink RX2 10 "RingSeesaw" "ring" "LRingSeesaw$Ring;", Cond.methodLink RX2 89 yX0_copyFrom, Cond.instanceMethod yX0_copyFrom, Cond.selects RX0 yX0_copyFrom yX0_copyFrom, Cond.initialized RX0, Cond.code yX0_copyFrom cX0_copyFrom 3 none, Cond.fieldLink RX0 15 "RingSeesaw$Ring" "size" "I", Cond.fieldLink RX0 9 "RingSeesaw$Ring" "numbers" "[I", Cond.methodLink RX0 23 yX0_at, Cond.instanceMethod yX0_at, Cond.selects RX0 yX0_at yX0_at, Cond.code yX0_at cX0_at 2 (some .int), Cond.methodLink RX0 19 yX0_write, Cond.instanceMethod yX0_write, Cond.selects RX0 yX0_write yX0_write, Cond.code yX0_write cX0_write 3 none, Cond.methodLink RX2 95 yX0_settleBy, Cond.instanceMethod yX0_settleBy]
def wsX2_spreadAtRest_r2 : List Cond := [Cond.selects RX0 yX0_settleBy yX0_settleBy, Cond.code yX0_settleBy cX0_settleBy 4 (some .int), Cond.methodLink RX0 33 yX0_firstSteep, Cond.instanceMethod yX0_firstSteep, Cond.selects RX0 yX0_firstSteep yX0_firstSteep, Cond.code yX0_firstSteep cX0_firstSteep 2 (some .int), Cond.methodLink RX0 52 yX0_steepAt, Cond.instanceMethod yX0_steepAt, Cond.selects RX0 yX0_steepAt yX0_steepAt, Cond.code yX0_steepAt cX0_steepAt 2 (some .boolean), Cond.methodLink RX0 30 yX0_onRing, Cond.instanceMethod yX0_onRing, Cond.selects RX0 yX0_onRing yX0_onRing, Cond.code yX0_onRing cX0_onRing 2 (some .int), Cond.methodLink RX0 37 yX0_tipBy, Cond.instanceMethod yX0_tipBy, Cond.selects RX0 yX0_tipBy yX0_tipBy, Cond.code yX0_tipBy cX0_tipBy 3 none, Cond.methodLink RX0 27 yX0_add, Cond.instanceMethod yX0_add, Cond.selects RX0 yX0_add yX0_add, Cond.code yX0_add cX0_add 3 none, Cond.methodLink RX2 121 yX0_firstSteep, Cond.methodLink RX2 111 yX0_span]
def wsX2_spreadAtRest_r3 : List Cond := [Cond.instanceMethod yX0_span, Cond.selects RX0 yX0_span yX0_span, Cond.code yX0_span cX0_span 3 (some .int), Cond.methodLink RX0 46 Lib.Math.min.name, Cond.static Lib.Math.min.name, Cond.initialized "java/lang/Math", Cond.code Lib.Math.min.name Lib.Math.min.code 2 (some .int), Cond.methodLink RX0 49 yX0_firstGreatest, Cond.instanceMethod yX0_firstGreatest, Cond.selects RX0 yX0_firstGreatest yX0_firstGreatest, Cond.code yX0_firstGreatest cX0_firstGreatest 3 (some .int)]
def wsX2_spreadAtRest : List Cond := .code yX2_spreadAtRest cX2_spreadAtRest 1 (some .int) :: ((wsX2_spreadAtRest_r1 ++ (wsX2_spreadAtRest_r2 ++ wsX2_spreadAtRest_r3)) ++ wsX20 ++ wsX00)
def wsX2_spanAfter_r1 : List Cond := [Cond.fieldLink RX2 27 "RingSeesaw" "trial" "LRingSeesaw$Ring;", Cond.fieldLink RX2 10 "RingSeesaw" "ring" "LRingSeesaw$Ring;", Cond.methodLink RX2 89 yX0_copyFrom, Cond.instanceMethod yX0_copyFrom, Cond.selects RX0 yX0_copyFrom yX0_copyFrom, Cond.initialized RX0, Cond.code yX0_copyFrom cX0_copyFrom 3 none, Cond.fieldLink RX0 15 "RingSeesaw$Ring" "size" "I", Cond.fieldLink RX0 9 "RingSeesaw$Ring" "numbers" "[I", Cond.methodLink RX0 23 yX0_at, Cond.instanceMethod yX0_at, Cond.selects RX0 yX0_at yX0_at, Cond.code yX0_at cX0_at 2 (some .int), Cond.methodLink RX0 19 yX0_write, Cond.instanceMethod yX0_write, Cond.selects RX0 yX0_write yX0_write, Cond.code yX0_write cX0_write 3 none, Cond.methodLink RX2 69 yX0_tipBy, Cond.instanceMethod yX0_tipBy, Cond.selects RX0 yX0_tipBy yX0_tipBy, Cond.code yX0_tipBy cX0_tipBy 3 none, Cond.methodLink RX0 27 yX0_add, Cond.instanceMethod yX0_add, Cond.selects RX0 yX0_add yX0_add]
def wsX2_spanAfter_r2 : List Cond := [Cond.code yX0_add cX0_add 3 none, Cond.methodLink RX0 30 yX0_onRing, Cond.instanceMethod yX0_onRing, Cond.selects RX0 yX0_onRing yX0_onRing, Cond.code yX0_onRing cX0_onRing 2 (some .int), Cond.methodLink RX2 111 yX0_span, Cond.instanceMethod yX0_span, Cond.selects RX0 yX0_span yX0_span, Cond.code yX0_span cX0_span 3 (some .int), Cond.methodLink RX0 46 Lib.Math.min.name, Cond.static Lib.Math.min.name, Cond.initialized "java/lang/Math", Cond.code Lib.Math.min.name Lib.Math.min.code 2 (some .int), Cond.methodLink RX0 49 yX0_firstGreatest, Cond.instanceMethod yX0_firstGreatest, Cond.selects RX0 yX0_firstGreatest yX0_firstGreatest, Cond.code yX0_firstGreatest cX0_firstGreatest 3 (some .int)]
def wsX2_spanAfter : List Cond := .code yX2_spanAfter cX2_spanAfter 3 (some .int) :: ((wsX2_spanAfter_r1 ++ wsX2_spanAfter_r2) ++ wsX20 ++ wsX00)
def wsX2_spreadWith_r1 : List Cond := [Cond.methodLink RX2 52 yX2_requirePlace, Cond.instanceMethod yX2_requirePlace, Cond.selects RX2 yX2_requirePlace yX2_requirePlace, Cond.initialized RX2, Cond.code yX2_requirePlace cX2_requirePlace 2 none, Cond.classLink RX2 221 "java/lang/IndexOutOfBoundsException", Cond.initialized "java/lang/IndexOutOfBoundsException", Cond.fieldLink RX2 10 "RingSeesaw" "ring" "LRingSeesaw$Ring;", Cond.methodLink RX2 44 yX0_size, Cond.instanceMethod yX0_size, Cond.selects RX0 yX0_size yX0_size, Cond.initialized RX0, Cond.code yX0_size cX0_size 1 (some .int), Cond.fieldLink RX0 15 "RingSeesaw$Ring" "size" "I", Cond.methodLink RX2 66 yX2_requireTimes, Cond.instanceMethod yX2_requireTimes, Cond.selects RX2 yX2_requireTimes yX2_requireTimes, Cond.code yX2_requireTimes cX2_requireTimes 2 none, Cond.classLink RX2 37 "java/lang/IllegalArgumentException", Cond.initialized "java/lang/IllegalArgumentException", Cond.methodLink RX2 144 yX2_spanAfter, Cond.instanceMethod yX2_spanAfter, Cond.selects RX2 yX2_spanAfter yX2_spanAfter, Cond.code yX2_spanAfter cX2_spanAfter 3 (some .int)]
def wsX2_spreadWith_r2 : List Cond := [Cond.fieldLink RX2 27 "RingSeesaw" "trial" "LRingSeesaw$Ring;", Cond.methodLink RX2 89 yX0_copyFrom, Cond.instanceMethod yX0_copyFrom, Cond.selects RX0 yX0_copyFrom yX0_copyFrom, Cond.code yX0_copyFrom cX0_copyFrom 3 none, Cond.fieldLink RX0 9 "RingSeesaw$Ring" "numbers" "[I", Cond.methodLink RX0 23 yX0_at, Cond.instanceMethod yX0_at, Cond.selects RX0 yX0_at yX0_at, Cond.code yX0_at cX0_at 2 (some .int), Cond.methodLink RX0 19 yX0_write, Cond.instanceMethod yX0_write, Cond.selects RX0 yX0_write yX0_write, Cond.code yX0_write cX0_write 3 none, Cond.methodLink RX2 69 yX0_tipBy, Cond.instanceMethod yX0_tipBy, Cond.selects RX0 yX0_tipBy yX0_tipBy, Cond.code yX0_tipBy cX0_tipBy 3 none, Cond.methodLink RX0 27 yX0_add, Cond.instanceMethod yX0_add, Cond.selects RX0 yX0_add yX0_add, Cond.code yX0_add cX0_add 3 none, Cond.methodLink RX0 30 yX0_onRing, Cond.instanceMethod yX0_onRing]
def wsX2_spreadWith_r3 : List Cond := [Cond.selects RX0 yX0_onRing yX0_onRing, Cond.code yX0_onRing cX0_onRing 2 (some .int), Cond.methodLink RX2 111 yX0_span, Cond.instanceMethod yX0_span, Cond.selects RX0 yX0_span yX0_span, Cond.code yX0_span cX0_span 3 (some .int), Cond.methodLink RX0 46 Lib.Math.min.name, Cond.static Lib.Math.min.name, Cond.initialized "java/lang/Math", Cond.code Lib.Math.min.name Lib.Math.min.code 2 (some .int), Cond.methodLink RX0 49 yX0_firstGreatest, Cond.instanceMethod yX0_firstGreatest, Cond.selects RX0 yX0_firstGreatest yX0_firstGreatest, Cond.code yX0_firstGreatest cX0_firstGreatest 3 (some .int)]
def wsX2_spreadWith : List Cond := .code yX2_spreadWith cX2_spreadWith 3 (some .int) :: ((wsX2_spreadWith_r1 ++ (wsX2_spreadWith_r2 ++ wsX2_spreadWith_r3)) ++ wsX20 ++ wsX00 ++ (vx_atS RX2 225 "java/lang/IndexOutOfBoundsException" ["java/lang/RuntimeException", "java/lang/Exception"]).filter goodWord ++ (vx_atS RX2 41 "java/lang/IllegalArgumentException" ["java/lang/RuntimeException", "java/lang/Exception"]).filter goodWord)
def wsX2_bestPlace_r1 : List Cond := [Cond.fieldLink RX2 10 "RingSeesaw" "ring" "LRingSeesaw$Ring;", Cond.methodLink RX2 148 Lib.Math.min.name, Cond.static Lib.Math.min.name, Cond.initialized "java/lang/Math", Cond.code Lib.Math.min.name Lib.Math.min.code 2 (some .int), Cond.methodLink RX2 111 yX0_span, Cond.instanceMethod yX0_span, Cond.selects RX0 yX0_span yX0_span, Cond.initialized RX0, Cond.code yX0_span cX0_span 3 (some .int), Cond.fieldLink RX0 15 "RingSeesaw$Ring" "size" "I", Cond.methodLink RX0 46 Lib.Math.min.name, Cond.methodLink RX0 23 yX0_at, Cond.instanceMethod yX0_at, Cond.selects RX0 yX0_at yX0_at, Cond.code yX0_at cX0_at 2 (some .int), Cond.fieldLink RX0 9 "RingSeesaw$Ring" "numbers" "[I", Cond.methodLink RX0 49 yX0_firstGreatest, Cond.instanceMethod yX0_firstGreatest, Cond.selects RX0 yX0_firstGreatest yX0_firstGreatest, Cond.code yX0_firstGreatest cX0_firstGreatest 3 (some .int), Cond.methodLink RX2 44 yX0_size, Cond.instanceMethod yX0_size, Cond.selects RX0 yX0_size yX0_size]
def wsX2_bestPlace_r2 : List Cond := [Cond.code yX0_size cX0_size 1 (some .int), Cond.methodLink RX2 144 yX2_spanAfter, Cond.instanceMethod yX2_spanAfter, Cond.selects RX2 yX2_spanAfter yX2_spanAfter, Cond.initialized RX2, Cond.code yX2_spanAfter cX2_spanAfter 3 (some .int), Cond.fieldLink RX2 27 "RingSeesaw" "trial" "LRingSeesaw$Ring;", Cond.methodLink RX2 89 yX0_copyFrom, Cond.instanceMethod yX0_copyFrom, Cond.selects RX0 yX0_copyFrom yX0_copyFrom, Cond.code yX0_copyFrom cX0_copyFrom 3 none, Cond.methodLink RX0 19 yX0_write, Cond.instanceMethod yX0_write, Cond.selects RX0 yX0_write yX0_write, Cond.code yX0_write cX0_write 3 none, Cond.methodLink RX2 69 yX0_tipBy, Cond.instanceMethod yX0_tipBy, Cond.selects RX0 yX0_tipBy yX0_tipBy, Cond.code yX0_tipBy cX0_tipBy 3 none, Cond.methodLink RX0 27 yX0_add, Cond.instanceMethod yX0_add, Cond.selects RX0 yX0_add yX0_add, Cond.code yX0_add cX0_add 3 none, Cond.methodLink RX0 30 yX0_onRing]
def wsX2_bestPlace_r3 : List Cond := [Cond.instanceMethod yX0_onRing, Cond.selects RX0 yX0_onRing yX0_onRing, Cond.code yX0_onRing cX0_onRing 2 (some .int)]
def wsX2_bestPlace : List Cond := .code yX2_bestPlace cX2_bestPlace 5 (some .int) :: ((wsX2_bestPlace_r1 ++ (wsX2_bestPlace_r2 ++ wsX2_bestPlace_r3)) ++ wsX20 ++ wsX00)
def wsX2_firstPlaceFor_r1 : List Cond := [Cond.fieldLink RX2 10 "RingSeesaw" "ring" "LRingSeesaw$Ring;", Cond.fieldLink RX2 27 "RingSeesaw" "trial" "LRingSeesaw$Ring;", Cond.methodLink RX2 44 yX0_size, Cond.instanceMethod yX0_size, Cond.selects RX0 yX0_size yX0_size, Cond.initialized RX0, Cond.code yX0_size cX0_size 1 (some .int), Cond.fieldLink RX0 15 "RingSeesaw$Ring" "size" "I", Cond.methodLink RX2 89 yX0_copyFrom, Cond.instanceMethod yX0_copyFrom, Cond.selects RX0 yX0_copyFrom yX0_copyFrom, Cond.code yX0_copyFrom cX0_copyFrom 3 none, Cond.fieldLink RX0 9 "RingSeesaw$Ring" "numbers" "[I", Cond.methodLink RX0 23 yX0_at, Cond.instanceMethod yX0_at, Cond.selects RX0 yX0_at yX0_at, Cond.code yX0_at cX0_at 2 (some .int), Cond.methodLink RX0 19 yX0_write, Cond.instanceMethod yX0_write, Cond.selects RX0 yX0_write yX0_write, Cond.code yX0_write cX0_write 3 none, Cond.methodLink RX2 62 yX0_write, Cond.methodLink RX2 130 yX0_canBecome, Cond.instanceMethod yX0_canBecome]
def wsX2_firstPlaceFor_r2 : List Cond := [Cond.selects RX0 yX0_canBecome yX0_canBecome, Cond.code yX0_canBecome cX0_canBecome 2 (some .boolean), Cond.methodLink RX0 56 yX0_total, Cond.instanceMethod yX0_total, Cond.selects RX0 yX0_total yX0_total, Cond.code yX0_total cX0_total 3 (some .int), Cond.methodLink RX0 59 yX0_momentLeft, Cond.instanceMethod yX0_momentLeft, Cond.selects RX0 yX0_momentLeft yX0_momentLeft, Cond.code yX0_momentLeft cX0_momentLeft 3 (some .int), Cond.methodLink RX0 40 yJ9_floorMod_7cf53, Cond.static yJ9_floorMod_7cf53, Cond.initialized RJ9, Cond.code yJ9_floorMod_7cf53 cJ9_floorMod_7cf53 3 (some .int)]
def wsX2_firstPlaceFor : List Cond := .code yX2_firstPlaceFor cX2_firstPlaceFor 4 (some .int) :: ((wsX2_firstPlaceFor_r1 ++ wsX2_firstPlaceFor_r2) ++ wsX20 ++ wsX00)
def wsX2_placeFor_r1 : List Cond := [Cond.fieldLink RX2 20 "RingSeesaw" "keptCount" "I", Cond.methodLink RX2 55 yX2_requireNumber, Cond.instanceMethod yX2_requireNumber, Cond.selects RX2 yX2_requireNumber yX2_requireNumber, Cond.initialized RX2, Cond.code yX2_requireNumber cX2_requireNumber 2 none, Cond.classLink RX2 37 "java/lang/IllegalArgumentException", Cond.initialized "java/lang/IllegalArgumentException", Cond.methodLink RX2 85 yX2_keptRing, Cond.instanceMethod yX2_keptRing, Cond.selects RX2 yX2_keptRing yX2_keptRing, Cond.code yX2_keptRing cX2_keptRing 3 (some (.object "RingSeesaw$Ring")), Cond.classLink RX2 221 "java/lang/IndexOutOfBoundsException", Cond.initialized "java/lang/IndexOutOfBoundsException", Cond.fieldLink RX2 16 "RingSeesaw" "kept" "[LRingSeesaw$Ring;", Cond.methodLink RX2 151 yX2_firstPlaceFor, Cond.instanceMethod yX2_firstPlaceFor, Cond.selects RX2 yX2_firstPlaceFor yX2_firstPlaceFor, Cond.code yX2_firstPlaceFor cX2_firstPlaceFor 4 (some .int), Cond.fieldLink RX2 10 "RingSeesaw" "ring" "LRingSeesaw$Ring;", Cond.fieldLink RX2 27 "RingSeesaw" "trial" "LRingSeesaw$Ring;", Cond.methodLink RX2 44 yX0_size, Cond.instanceMethod yX0_size, Cond.selects RX0 yX0_size yX0_size]
def wsX2_placeFor_r2 : List Cond := [Cond.initialized RX0, Cond.code yX0_size cX0_size 1 (some .int), Cond.fieldLink RX0 15 "RingSeesaw$Ring" "size" "I", Cond.methodLink RX2 89 yX0_copyFrom, Cond.instanceMethod yX0_copyFrom, Cond.selects RX0 yX0_copyFrom yX0_copyFrom, Cond.code yX0_copyFrom cX0_copyFrom 3 none, Cond.fieldLink RX0 9 "RingSeesaw$Ring" "numbers" "[I", Cond.methodLink RX0 23 yX0_at, Cond.instanceMethod yX0_at, Cond.selects RX0 yX0_at yX0_at, Cond.code yX0_at cX0_at 2 (some .int), Cond.methodLink RX0 19 yX0_write, Cond.instanceMethod yX0_write, Cond.selects RX0 yX0_write yX0_write, Cond.code yX0_write cX0_write 3 none, Cond.methodLink RX2 62 yX0_write, Cond.methodLink RX2 130 yX0_canBecome, Cond.instanceMethod yX0_canBecome, Cond.selects RX0 yX0_canBecome yX0_canBecome, Cond.code yX0_canBecome cX0_canBecome 2 (some .boolean), Cond.methodLink RX0 56 yX0_total, Cond.instanceMethod yX0_total, Cond.selects RX0 yX0_total yX0_total]
def wsX2_placeFor_r3 : List Cond := [Cond.code yX0_total cX0_total 3 (some .int), Cond.methodLink RX0 59 yX0_momentLeft, Cond.instanceMethod yX0_momentLeft, Cond.selects RX0 yX0_momentLeft yX0_momentLeft, Cond.code yX0_momentLeft cX0_momentLeft 3 (some .int), Cond.methodLink RX0 40 yJ9_floorMod_7cf53, Cond.static yJ9_floorMod_7cf53, Cond.initialized RJ9, Cond.code yJ9_floorMod_7cf53 cJ9_floorMod_7cf53 3 (some .int)]
def wsX2_placeFor : List Cond := .code yX2_placeFor cX2_placeFor 2 (some .int) :: ((wsX2_placeFor_r1 ++ (wsX2_placeFor_r2 ++ wsX2_placeFor_r3)) ++ wsX20 ++ wsX00 ++ (vx_atS RX2 41 "java/lang/IllegalArgumentException" ["java/lang/RuntimeException", "java/lang/Exception"]).filter goodWord ++ (vx_atS RX2 225 "java/lang/IndexOutOfBoundsException" ["java/lang/RuntimeException", "java/lang/Exception"]).filter goodWord)
def wsX2_meanNumber : List Cond := .code yX2_meanNumber cX2_meanNumber 2 (some .double) :: ([.fieldLink RX2 10 "RingSeesaw" "ring" "LRingSeesaw$Ring;", .methodLink RX2 44 yX0_size, .instanceMethod yX0_size, .selects RX0 yX0_size yX0_size, .initialized RX0, .code yX0_size cX0_size 1 (some .int), .fieldLink RX0 15 "RingSeesaw$Ring" "size" "I", .methodLink RX2 105 yX0_total, .instanceMethod yX0_total, .selects RX0 yX0_total yX0_total, .code yX0_total cX0_total 3 (some .int), .methodLink RX0 23 yX0_at, .instanceMethod yX0_at, .selects RX0 yX0_at yX0_at, .code yX0_at cX0_at 2 (some .int), .fieldLink RX0 9 "RingSeesaw$Ring" "numbers" "[I"] ++ wsX20 ++ wsX00)
def wsX2_mixed : List Cond := .code yX2_mixed cX2_mixed 4 (some .long) :: ([.constantLong RX2 219 (31)])
def wsX2_mixedWithPlaces_r1 : List Cond := [Cond.fieldLink RX2 10 "RingSeesaw" "ring" "LRingSeesaw$Ring;", Cond.methodLink RX2 44 yX0_size, Cond.instanceMethod yX0_size, Cond.selects RX0 yX0_size yX0_size, Cond.initialized RX0, Cond.code yX0_size cX0_size 1 (some .int), Cond.fieldLink RX0 15 "RingSeesaw$Ring" "size" "I", Cond.methodLink RX2 58 yX0_at, Cond.instanceMethod yX0_at, Cond.selects RX0 yX0_at yX0_at, Cond.code yX0_at cX0_at 2 (some .int), Cond.fieldLink RX0 9 "RingSeesaw$Ring" "numbers" "[I", Cond.methodLink RX2 160 yX2_mixed, Cond.static yX2_mixed, Cond.initialized RX2, Cond.code yX2_mixed cX2_mixed 4 (some .long), Cond.constantLong RX2 219 (31), Cond.methodLink RX2 117 yX0_steepAt, Cond.instanceMethod yX0_steepAt, Cond.selects RX0 yX0_steepAt yX0_steepAt, Cond.code yX0_steepAt cX0_steepAt 2 (some .boolean), Cond.methodLink RX0 23 yX0_at, Cond.methodLink RX0 30 yX0_onRing, Cond.instanceMethod yX0_onRing]
def wsX2_mixedWithPlaces_r2 : List Cond := [Cond.selects RX0 yX0_onRing yX0_onRing, Cond.code yX0_onRing cX0_onRing 2 (some .int), Cond.methodLink RX2 124 yX0_tiltOn, Cond.instanceMethod yX0_tiltOn, Cond.selects RX0 yX0_tiltOn yX0_tiltOn, Cond.code yX0_tiltOn cX0_tiltOn 4 (some .int)]
def wsX2_mixedWithPlaces : List Cond := .code yX2_mixedWithPlaces cX2_mixedWithPlaces 6 (some .long) :: ((wsX2_mixedWithPlaces_r1 ++ wsX2_mixedWithPlaces_r2) ++ wsX20 ++ wsX00)
def wsX2_mixedWithTargets_r1 : List Cond := [Cond.fieldLink RX2 20 "RingSeesaw" "keptCount" "I", Cond.fieldLink RX2 10 "RingSeesaw" "ring" "LRingSeesaw$Ring;", Cond.methodLink RX2 85 yX2_keptRing, Cond.instanceMethod yX2_keptRing, Cond.selects RX2 yX2_keptRing yX2_keptRing, Cond.initialized RX2, Cond.code yX2_keptRing cX2_keptRing 3 (some (.object "RingSeesaw$Ring")), Cond.classLink RX2 221 "java/lang/IndexOutOfBoundsException", Cond.initialized "java/lang/IndexOutOfBoundsException", Cond.fieldLink RX2 16 "RingSeesaw" "kept" "[LRingSeesaw$Ring;", Cond.methodLink RX2 127 yX0_differencesFrom, Cond.instanceMethod yX0_differencesFrom, Cond.selects RX0 yX0_differencesFrom yX0_differencesFrom, Cond.initialized RX0, Cond.code yX0_differencesFrom cX0_differencesFrom 4 (some .int), Cond.fieldLink RX0 15 "RingSeesaw$Ring" "size" "I", Cond.methodLink RX0 23 yX0_at, Cond.instanceMethod yX0_at, Cond.selects RX0 yX0_at yX0_at, Cond.code yX0_at cX0_at 2 (some .int), Cond.fieldLink RX0 9 "RingSeesaw$Ring" "numbers" "[I", Cond.methodLink RX2 160 yX2_mixed, Cond.static yX2_mixed, Cond.code yX2_mixed cX2_mixed 4 (some .long)]
def wsX2_mixedWithTargets_r2 : List Cond := [Cond.constantLong RX2 219 (31), Cond.methodLink RX2 130 yX0_canBecome, Cond.instanceMethod yX0_canBecome, Cond.selects RX0 yX0_canBecome yX0_canBecome, Cond.code yX0_canBecome cX0_canBecome 2 (some .boolean), Cond.methodLink RX0 56 yX0_total, Cond.instanceMethod yX0_total, Cond.selects RX0 yX0_total yX0_total, Cond.code yX0_total cX0_total 3 (some .int), Cond.methodLink RX0 59 yX0_momentLeft, Cond.instanceMethod yX0_momentLeft, Cond.selects RX0 yX0_momentLeft yX0_momentLeft, Cond.code yX0_momentLeft cX0_momentLeft 3 (some .int), Cond.methodLink RX0 40 yJ9_floorMod_7cf53, Cond.static yJ9_floorMod_7cf53, Cond.initialized RJ9, Cond.code yJ9_floorMod_7cf53 cJ9_floorMod_7cf53 3 (some .int), Cond.methodLink RX2 101 yX2_fewestTo, Cond.instanceMethod yX2_fewestTo, Cond.selects RX2 yX2_fewestTo yX2_fewestTo, Cond.code yX2_fewestTo cX2_fewestTo 2 (some .int), Cond.fieldLink RX2 33 "RingSeesaw" "way" "LRingSeesaw$Way;", Cond.methodLink RX2 134 yX1_find, Cond.instanceMethod yX1_find]
def wsX2_mixedWithTargets_r3 : List Cond := [Cond.selects RX1 yX1_find yX1_find, Cond.initialized RX1, Cond.code yX1_find cX1_find 6 none, Cond.fieldLink RX1 15 "RingSeesaw$Way" "size" "I", Cond.fieldLink RX1 9 "RingSeesaw$Way" "tips" "[I", Cond.methodLink RX1 19 yX0_size, Cond.instanceMethod yX0_size, Cond.selects RX0 yX0_size yX0_size, Cond.code yX0_size cX0_size 1 (some .int), Cond.methodLink RX1 24 yX1_firstClimb, Cond.instanceMethod yX1_firstClimb, Cond.selects RX1 yX1_firstClimb yX1_firstClimb, Cond.code yX1_firstClimb cX1_firstClimb 5 (some .int), Cond.methodLink RX1 28 yX0_at, Cond.methodLink RX2 234 yX1_fewest, Cond.instanceMethod yX1_fewest, Cond.selects RX1 yX1_fewest yX1_fewest, Cond.code yX1_fewest cX1_fewest 3 (some .int), Cond.methodLink RX1 38 Lib.Math.min.name, Cond.static Lib.Math.min.name, Cond.initialized "java/lang/Math", Cond.code Lib.Math.min.name Lib.Math.min.code 2 (some .int), Cond.methodLink RX1 32 yX1_tipsAt, Cond.instanceMethod yX1_tipsAt]
def wsX2_mixedWithTargets_r4 : List Cond := [Cond.selects RX1 yX1_tipsAt yX1_tipsAt, Cond.code yX1_tipsAt cX1_tipsAt 2 (some .int), Cond.methodLink RX1 35 yX1_awayFrom, Cond.instanceMethod yX1_awayFrom, Cond.selects RX1 yX1_awayFrom yX1_awayFrom, Cond.code yX1_awayFrom cX1_awayFrom 4 (some .int), Cond.methodLink RX1 44 Lib.Math.abs.name, Cond.static Lib.Math.abs.name, Cond.code Lib.Math.abs.name Lib.Math.abs.code 1 (some .int)]
def wsX2_mixedWithTargets : List Cond := .code yX2_mixedWithTargets cX2_mixedWithTargets 7 (some .long) :: ((wsX2_mixedWithTargets_r1 ++ (wsX2_mixedWithTargets_r2 ++ (wsX2_mixedWithTargets_r3 ++ wsX2_mixedWithTargets_r4))) ++ wsX20 ++ wsX00 ++ wsX10 ++ (vx_atS RX2 225 "java/lang/IndexOutOfBoundsException" ["java/lang/RuntimeException", "java/lang/Exception"]).filter goodWord)
def wsX2_digest_r1 : List Cond := [Cond.constantLong RX2 155 (2333), Cond.methodLink RX2 157 yX2_places, Cond.instanceMethod yX2_places, Cond.selects RX2 yX2_places yX2_places, Cond.initialized RX2, Cond.code yX2_places cX2_places 1 (some .int), Cond.fieldLink RX2 10 "RingSeesaw" "ring" "LRingSeesaw$Ring;", Cond.methodLink RX2 44 yX0_size, Cond.instanceMethod yX0_size, Cond.selects RX0 yX0_size yX0_size, Cond.initialized RX0, Cond.code yX0_size cX0_size 1 (some .int), Cond.fieldLink RX0 15 "RingSeesaw$Ring" "size" "I", Cond.methodLink RX2 160 yX2_mixed, Cond.static yX2_mixed, Cond.code yX2_mixed cX2_mixed 4 (some .long), Cond.constantLong RX2 219 (31), Cond.methodLink RX2 164 yX2_targets, Cond.instanceMethod yX2_targets, Cond.selects RX2 yX2_targets yX2_targets, Cond.code yX2_targets cX2_targets 1 (some .int), Cond.fieldLink RX2 20 "RingSeesaw" "keptCount" "I", Cond.methodLink RX2 167 yX2_tips, Cond.instanceMethod yX2_tips]
def wsX2_digest_r2 : List Cond := [Cond.selects RX2 yX2_tips yX2_tips, Cond.code yX2_tips cX2_tips 1 (some .int), Cond.fieldLink RX2 24 "RingSeesaw" "tipsDone" "I", Cond.methodLink RX2 170 yX2_sum, Cond.instanceMethod yX2_sum, Cond.selects RX2 yX2_sum yX2_sum, Cond.code yX2_sum cX2_sum 1 (some .int), Cond.methodLink RX2 105 yX0_total, Cond.instanceMethod yX0_total, Cond.selects RX0 yX0_total yX0_total, Cond.code yX0_total cX0_total 3 (some .int), Cond.methodLink RX0 23 yX0_at, Cond.instanceMethod yX0_at, Cond.selects RX0 yX0_at yX0_at, Cond.code yX0_at cX0_at 2 (some .int), Cond.fieldLink RX0 9 "RingSeesaw$Ring" "numbers" "[I", Cond.methodLink RX2 173 yX2_moment, Cond.instanceMethod yX2_moment, Cond.selects RX2 yX2_moment yX2_moment, Cond.code yX2_moment cX2_moment 1 (some .int), Cond.methodLink RX2 108 yX0_momentLeft, Cond.instanceMethod yX0_momentLeft, Cond.selects RX0 yX0_momentLeft yX0_momentLeft, Cond.code yX0_momentLeft cX0_momentLeft 3 (some .int)]
def wsX2_digest_r3 : List Cond := [Cond.methodLink RX0 40 yJ9_floorMod_7cf53, Cond.static yJ9_floorMod_7cf53, Cond.initialized RJ9, Cond.code yJ9_floorMod_7cf53 cJ9_floorMod_7cf53 3 (some .int), Cond.methodLink RX2 176 yX2_spread, Cond.instanceMethod yX2_spread, Cond.selects RX2 yX2_spread yX2_spread, Cond.code yX2_spread cX2_spread 1 (some .int), Cond.methodLink RX2 111 yX0_span, Cond.instanceMethod yX0_span, Cond.selects RX0 yX0_span yX0_span, Cond.code yX0_span cX0_span 3 (some .int), Cond.methodLink RX0 46 Lib.Math.min.name, Cond.static Lib.Math.min.name, Cond.initialized "java/lang/Math", Cond.code Lib.Math.min.name Lib.Math.min.code 2 (some .int), Cond.methodLink RX0 49 yX0_firstGreatest, Cond.instanceMethod yX0_firstGreatest, Cond.selects RX0 yX0_firstGreatest yX0_firstGreatest, Cond.code yX0_firstGreatest cX0_firstGreatest 3 (some .int), Cond.methodLink RX2 179 yX2_highest, Cond.instanceMethod yX2_highest, Cond.selects RX2 yX2_highest yX2_highest, Cond.code yX2_highest cX2_highest 1 (some .int)]
def wsX2_digest_r4 : List Cond := [Cond.methodLink RX2 114 yX0_firstGreatest, Cond.methodLink RX2 182 yX2_steepPlaces, Cond.instanceMethod yX2_steepPlaces, Cond.selects RX2 yX2_steepPlaces yX2_steepPlaces, Cond.code yX2_steepPlaces cX2_steepPlaces 3 (some .int), Cond.methodLink RX2 117 yX0_steepAt, Cond.instanceMethod yX0_steepAt, Cond.selects RX0 yX0_steepAt yX0_steepAt, Cond.code yX0_steepAt cX0_steepAt 2 (some .boolean), Cond.methodLink RX0 30 yX0_onRing, Cond.instanceMethod yX0_onRing, Cond.selects RX0 yX0_onRing yX0_onRing, Cond.code yX0_onRing cX0_onRing 2 (some .int), Cond.methodLink RX2 185 yX2_nextToTip, Cond.instanceMethod yX2_nextToTip, Cond.selects RX2 yX2_nextToTip yX2_nextToTip, Cond.code yX2_nextToTip cX2_nextToTip 1 (some .int), Cond.methodLink RX2 121 yX0_firstSteep, Cond.instanceMethod yX0_firstSteep, Cond.selects RX0 yX0_firstSteep yX0_firstSteep, Cond.code yX0_firstSteep cX0_firstSteep 2 (some .int), Cond.methodLink RX0 52 yX0_steepAt, Cond.methodLink RX2 188 yX2_levelAxes, Cond.instanceMethod yX2_levelAxes]
def wsX2_digest_r5 : List Cond := [Cond.selects RX2 yX2_levelAxes yX2_levelAxes, Cond.code yX2_levelAxes cX2_levelAxes 3 (some .int), Cond.methodLink RX2 124 yX0_tiltOn, Cond.instanceMethod yX0_tiltOn, Cond.selects RX0 yX0_tiltOn yX0_tiltOn, Cond.code yX0_tiltOn cX0_tiltOn 4 (some .int), Cond.methodLink RX2 191 yX2_bestAxis, Cond.instanceMethod yX2_bestAxis, Cond.selects RX2 yX2_bestAxis yX2_bestAxis, Cond.code yX2_bestAxis cX2_bestAxis 3 (some .int), Cond.methodLink RX2 72 Lib.Math.abs.name, Cond.static Lib.Math.abs.name, Cond.code Lib.Math.abs.name Lib.Math.abs.code 1 (some .int), Cond.methodLink RX2 194 yX2_reachable, Cond.instanceMethod yX2_reachable, Cond.selects RX2 yX2_reachable yX2_reachable, Cond.code yX2_reachable cX2_reachable 3 (some .int), Cond.methodLink RX2 85 yX2_keptRing, Cond.instanceMethod yX2_keptRing, Cond.selects RX2 yX2_keptRing yX2_keptRing, Cond.code yX2_keptRing cX2_keptRing 3 (some (.object "RingSeesaw$Ring")), Cond.classLink RX2 221 "java/lang/IndexOutOfBoundsException", Cond.initialized "java/lang/IndexOutOfBoundsException", Cond.fieldLink RX2 16 "RingSeesaw" "kept" "[LRingSeesaw$Ring;"]
def wsX2_digest_r6 : List Cond := [Cond.methodLink RX2 130 yX0_canBecome, Cond.instanceMethod yX0_canBecome, Cond.selects RX0 yX0_canBecome yX0_canBecome, Cond.code yX0_canBecome cX0_canBecome 2 (some .boolean), Cond.methodLink RX0 56 yX0_total, Cond.methodLink RX0 59 yX0_momentLeft, Cond.methodLink RX2 197 yX2_nearestTarget, Cond.instanceMethod yX2_nearestTarget, Cond.selects RX2 yX2_nearestTarget yX2_nearestTarget, Cond.code yX2_nearestTarget cX2_nearestTarget 5 (some .int), Cond.methodLink RX2 101 yX2_fewestTo, Cond.instanceMethod yX2_fewestTo, Cond.selects RX2 yX2_fewestTo yX2_fewestTo, Cond.code yX2_fewestTo cX2_fewestTo 2 (some .int), Cond.fieldLink RX2 33 "RingSeesaw" "way" "LRingSeesaw$Way;", Cond.methodLink RX2 134 yX1_find, Cond.instanceMethod yX1_find, Cond.selects RX1 yX1_find yX1_find, Cond.initialized RX1, Cond.code yX1_find cX1_find 6 none, Cond.fieldLink RX1 15 "RingSeesaw$Way" "size" "I", Cond.fieldLink RX1 9 "RingSeesaw$Way" "tips" "[I", Cond.methodLink RX1 19 yX0_size, Cond.methodLink RX1 24 yX1_firstClimb]
def wsX2_digest_r7 : List Cond := [Cond.instanceMethod yX1_firstClimb, Cond.selects RX1 yX1_firstClimb yX1_firstClimb, Cond.code yX1_firstClimb cX1_firstClimb 5 (some .int), Cond.methodLink RX1 28 yX0_at, Cond.methodLink RX2 234 yX1_fewest, Cond.instanceMethod yX1_fewest, Cond.selects RX1 yX1_fewest yX1_fewest, Cond.code yX1_fewest cX1_fewest 3 (some .int), Cond.methodLink RX1 38 Lib.Math.min.name, Cond.methodLink RX1 32 yX1_tipsAt, Cond.instanceMethod yX1_tipsAt, Cond.selects RX1 yX1_tipsAt yX1_tipsAt, Cond.code yX1_tipsAt cX1_tipsAt 2 (some .int), Cond.methodLink RX1 35 yX1_awayFrom, Cond.instanceMethod yX1_awayFrom, Cond.selects RX1 yX1_awayFrom yX1_awayFrom, Cond.code yX1_awayFrom cX1_awayFrom 4 (some .int), Cond.methodLink RX1 44 Lib.Math.abs.name, Cond.methodLink RX2 200 yX2_stepsToRest, Cond.instanceMethod yX2_stepsToRest, Cond.selects RX2 yX2_stepsToRest yX2_stepsToRest, Cond.code yX2_stepsToRest cX2_stepsToRest 1 (some .int), Cond.methodLink RX2 141 yX2_tryToRest, Cond.instanceMethod yX2_tryToRest]
def wsX2_digest_r8 : List Cond := [Cond.selects RX2 yX2_tryToRest yX2_tryToRest, Cond.code yX2_tryToRest cX2_tryToRest 2 (some .int), Cond.fieldLink RX2 27 "RingSeesaw" "trial" "LRingSeesaw$Ring;", Cond.methodLink RX2 89 yX0_copyFrom, Cond.instanceMethod yX0_copyFrom, Cond.selects RX0 yX0_copyFrom yX0_copyFrom, Cond.code yX0_copyFrom cX0_copyFrom 3 none, Cond.methodLink RX0 19 yX0_write, Cond.instanceMethod yX0_write, Cond.selects RX0 yX0_write yX0_write, Cond.code yX0_write cX0_write 3 none, Cond.methodLink RX2 95 yX0_settleBy, Cond.instanceMethod yX0_settleBy, Cond.selects RX0 yX0_settleBy yX0_settleBy, Cond.code yX0_settleBy cX0_settleBy 4 (some .int), Cond.methodLink RX0 33 yX0_firstSteep, Cond.methodLink RX0 37 yX0_tipBy, Cond.instanceMethod yX0_tipBy, Cond.selects RX0 yX0_tipBy yX0_tipBy, Cond.code yX0_tipBy cX0_tipBy 3 none, Cond.methodLink RX0 27 yX0_add, Cond.instanceMethod yX0_add, Cond.selects RX0 yX0_add yX0_add, Cond.code yX0_add cX0_add 3 none]
def wsX2_digest_r9 : List Cond := [Cond.methodLink RX2 203 yX2_spreadAtRest, Cond.instanceMethod yX2_spreadAtRest, Cond.selects RX2 yX2_spreadAtRest yX2_spreadAtRest, Cond.code yX2_spreadAtRest cX2_spreadAtRest 1 (some .int), Cond.methodLink RX2 206 yX2_bestPlace, Cond.instanceMethod yX2_bestPlace, Cond.selects RX2 yX2_bestPlace yX2_bestPlace, Cond.code yX2_bestPlace cX2_bestPlace 5 (some .int), Cond.methodLink RX2 148 Lib.Math.min.name, Cond.methodLink RX2 144 yX2_spanAfter, Cond.instanceMethod yX2_spanAfter, Cond.selects RX2 yX2_spanAfter yX2_spanAfter, Cond.code yX2_spanAfter cX2_spanAfter 3 (some .int), Cond.methodLink RX2 69 yX0_tipBy, Cond.methodLink RX2 209 yX2_placeFor, Cond.instanceMethod yX2_placeFor, Cond.selects RX2 yX2_placeFor yX2_placeFor, Cond.code yX2_placeFor cX2_placeFor 2 (some .int), Cond.methodLink RX2 55 yX2_requireNumber, Cond.instanceMethod yX2_requireNumber, Cond.selects RX2 yX2_requireNumber yX2_requireNumber, Cond.code yX2_requireNumber cX2_requireNumber 2 none, Cond.classLink RX2 37 "java/lang/IllegalArgumentException", Cond.initialized "java/lang/IllegalArgumentException"]
def wsX2_digest_r10 : List Cond := [Cond.methodLink RX2 151 yX2_firstPlaceFor, Cond.instanceMethod yX2_firstPlaceFor, Cond.selects RX2 yX2_firstPlaceFor yX2_firstPlaceFor, Cond.code yX2_firstPlaceFor cX2_firstPlaceFor 4 (some .int), Cond.methodLink RX2 62 yX0_write, Cond.methodLink RX2 212 yX2_mixedWithPlaces, Cond.instanceMethod yX2_mixedWithPlaces, Cond.selects RX2 yX2_mixedWithPlaces yX2_mixedWithPlaces, Cond.code yX2_mixedWithPlaces cX2_mixedWithPlaces 6 (some .long), Cond.methodLink RX2 58 yX0_at, Cond.methodLink RX2 216 yX2_mixedWithTargets, Cond.instanceMethod yX2_mixedWithTargets, Cond.selects RX2 yX2_mixedWithTargets yX2_mixedWithTargets, Cond.code yX2_mixedWithTargets cX2_mixedWithTargets 7 (some .long), Cond.methodLink RX2 127 yX0_differencesFrom, Cond.instanceMethod yX0_differencesFrom, Cond.selects RX0 yX0_differencesFrom yX0_differencesFrom, Cond.code yX0_differencesFrom cX0_differencesFrom 4 (some .int)]
def wsX2_digest : List Cond := .code yX2_digest cX2_digest 3 (some .long) :: ((wsX2_digest_r1 ++ (wsX2_digest_r2 ++ (wsX2_digest_r3 ++ (wsX2_digest_r4 ++ (wsX2_digest_r5 ++ (wsX2_digest_r6 ++ (wsX2_digest_r7 ++ (wsX2_digest_r8 ++ (wsX2_digest_r9 ++ wsX2_digest_r10))))))))) ++ wsX20 ++ wsX00 ++ wsX10 ++ (vx_atS RX2 225 "java/lang/IndexOutOfBoundsException" ["java/lang/RuntimeException", "java/lang/Exception"]).filter goodWord ++ (vx_atS RX2 41 "java/lang/IllegalArgumentException" ["java/lang/RuntimeException", "java/lang/Exception"]).filter goodWord)
def wsX3_init : List Cond := .code yX3_init cX3_init 1 none :: ([.methodLink RX3 1 objectInit, .instanceMethod objectInit, .code objectInit ⟨#[0xb1]⟩ 1 none, .fieldLink RX3 7 "RingSeesawModel" "n" "I", .arrayClass .int, .fieldLink RX3 13 "RingSeesawModel" "x" "[I", .fieldLink RX3 17 "RingSeesawModel" "then" "[I", .fieldLink RX3 20 "RingSeesawModel" "target" "[I", .fieldLink RX3 23 "RingSeesawModel" "tip" "[I"] ++ wsX30)
def wsX3_thrown : List Cond := .code yX3_thrown cX3_thrown 1 (some .int) :: ([.fieldLink RX3 26 "RingSeesawModel" "thrown" "I"] ++ wsX30)
def wsX3_no : List Cond := .code yX3_no cX3_no 2 (some .int) :: ([.fieldLink RX3 26 "RingSeesawModel" "thrown" "I"] ++ wsX30)
def wsX3_isNot : List Cond := .code yX3_isNot cX3_isNot 2 (some .boolean) :: ([.fieldLink RX3 26 "RingSeesawModel" "thrown" "I"] ++ wsX30)
def wsX3_ok : List Cond := .code yX3_ok cX3_ok 2 (some .int) :: ([.fieldLink RX3 26 "RingSeesawModel" "thrown" "I"] ++ wsX30)
def wsX3_isIn : List Cond := .code yX3_isIn cX3_isIn 3 (some .boolean) :: ([])
def wsX3_isPlace : List Cond := .code yX3_isPlace cX3_isPlace 2 (some .boolean) :: ([.fieldLink RX3 7 "RingSeesawModel" "n" "I", .methodLink RX3 29 yX3_isIn, .static yX3_isIn, .initialized RX3, .code yX3_isIn cX3_isIn 3 (some .boolean)] ++ wsX30)
def wsX3_isTarget : List Cond := .code yX3_isTarget cX3_isTarget 2 (some .boolean) :: ([.fieldLink RX3 33 "RingSeesawModel" "targets" "I", .methodLink RX3 29 yX3_isIn, .static yX3_isIn, .initialized RX3, .code yX3_isIn cX3_isIn 3 (some .boolean)] ++ wsX30)
def wsX3_on : List Cond := .code yX3_on cX3_on 3 (some .int) :: ([.fieldLink RX3 7 "RingSeesawModel" "n" "I"] ++ wsX30)
def wsX3_lean : List Cond := .code yX3_lean cX3_lean 4 none :: ([.methodLink RX3 36 yX3_on, .instanceMethod yX3_on, .selects RX3 yX3_on yX3_on, .initialized RX3, .code yX3_on cX3_on 3 (some .int), .fieldLink RX3 7 "RingSeesawModel" "n" "I"] ++ wsX30)
def wsX3_look : List Cond := .code yX3_look cX3_look 1 none :: ([.fieldLink RX3 13 "RingSeesawModel" "x" "[I", .fieldLink RX3 17 "RingSeesawModel" "then" "[I", .methodLink RX3 40 arraycopyName, .native arraycopyName, .static arraycopyName, .initialized "java/lang/System"] ++ wsX30)
def wsX3_wide : List Cond := .code yX3_wide cX3_wide 5 (some .int) :: ([.fieldLink RX3 7 "RingSeesawModel" "n" "I", .methodLink RX3 46 Lib.Math.min.name, .static Lib.Math.min.name, .initialized "java/lang/Math", .code Lib.Math.min.name Lib.Math.min.code 2 (some .int), .methodLink RX3 51 Lib.Math.max.name, .static Lib.Math.max.name, .code Lib.Math.max.name Lib.Math.max.code 2 (some .int)] ++ wsX30)
def wsX3_steep : List Cond := .code yX3_steep cX3_steep 3 (some .boolean) :: ([.methodLink RX3 36 yX3_on, .instanceMethod yX3_on, .selects RX3 yX3_on yX3_on, .initialized RX3, .code yX3_on cX3_on 3 (some .int), .fieldLink RX3 7 "RingSeesawModel" "n" "I"] ++ wsX30)
def wsX3_firstSteep : List Cond := .code yX3_firstSteep cX3_firstSteep 3 (some .int) :: ([.fieldLink RX3 7 "RingSeesawModel" "n" "I", .methodLink RX3 54 yX3_steep, .instanceMethod yX3_steep, .selects RX3 yX3_steep yX3_steep, .initialized RX3, .code yX3_steep cX3_steep 3 (some .boolean), .methodLink RX3 36 yX3_on, .instanceMethod yX3_on, .selects RX3 yX3_on yX3_on, .code yX3_on cX3_on 3 (some .int)] ++ wsX30)
def wsX3_settled : List Cond := .code yX3_settled cX3_settled 5 (some .int) :: ([.methodLink RX3 58 yX3_firstSteep, .instanceMethod yX3_firstSteep, .selects RX3 yX3_firstSteep yX3_firstSteep, .initialized RX3, .code yX3_firstSteep cX3_firstSteep 3 (some .int), .fieldLink RX3 7 "RingSeesawModel" "n" "I", .methodLink RX3 54 yX3_steep, .instanceMethod yX3_steep, .selects RX3 yX3_steep yX3_steep, .code yX3_steep cX3_steep 3 (some .boolean), .methodLink RX3 36 yX3_on, .instanceMethod yX3_on, .selects RX3 yX3_on yX3_on, .code yX3_on cX3_on 3 (some .int), .methodLink RX3 62 yX3_lean, .instanceMethod yX3_lean, .selects RX3 yX3_lean yX3_lean, .code yX3_lean cX3_lean 4 none] ++ wsX30)
def wsX3_lay : List Cond := .code yX3_lay cX3_lay 4 (some .int) :: ([.fieldLink RX3 26 "RingSeesawModel" "thrown" "I", .fieldLink RX3 7 "RingSeesawModel" "n" "I", .fieldLink RX3 33 "RingSeesawModel" "targets" "I", .fieldLink RX3 13 "RingSeesawModel" "x" "[I", .methodLink RX3 29 yX3_isIn, .static yX3_isIn, .initialized RX3, .code yX3_isIn cX3_isIn 3 (some .boolean), .methodLink RX3 66 yX3_no, .instanceMethod yX3_no, .selects RX3 yX3_no yX3_no, .code yX3_no cX3_no 2 (some .int)] ++ wsX30)
def wsX3_put : List Cond := .code yX3_put cX3_put 4 (some .int) :: ([.fieldLink RX3 26 "RingSeesawModel" "thrown" "I", .fieldLink RX3 13 "RingSeesawModel" "x" "[I", .methodLink RX3 70 yX3_isPlace, .instanceMethod yX3_isPlace, .selects RX3 yX3_isPlace yX3_isPlace, .initialized RX3, .code yX3_isPlace cX3_isPlace 2 (some .boolean), .fieldLink RX3 7 "RingSeesawModel" "n" "I", .methodLink RX3 29 yX3_isIn, .static yX3_isIn, .code yX3_isIn cX3_isIn 3 (some .boolean), .methodLink RX3 66 yX3_no, .instanceMethod yX3_no, .selects RX3 yX3_no yX3_no, .code yX3_no cX3_no 2 (some .int)] ++ wsX30)
def wsX3_tip_r1 : List Cond := [Cond.fieldLink RX3 26 "RingSeesawModel" "thrown" "I", Cond.fieldLink RX3 13 "RingSeesawModel" "x" "[I", Cond.fieldLink RX3 74 "RingSeesawModel" "tips" "I", Cond.methodLink RX3 77 Lib.Math.abs.name, Cond.static Lib.Math.abs.name, Cond.initialized "java/lang/Math", Cond.code Lib.Math.abs.name Lib.Math.abs.code 1 (some .int), Cond.methodLink RX3 70 yX3_isPlace, Cond.instanceMethod yX3_isPlace, Cond.selects RX3 yX3_isPlace yX3_isPlace, Cond.initialized RX3, Cond.code yX3_isPlace cX3_isPlace 2 (some .boolean), Cond.fieldLink RX3 7 "RingSeesawModel" "n" "I", Cond.methodLink RX3 29 yX3_isIn, Cond.static yX3_isIn, Cond.code yX3_isIn cX3_isIn 3 (some .boolean), Cond.methodLink RX3 66 yX3_no, Cond.instanceMethod yX3_no, Cond.selects RX3 yX3_no yX3_no, Cond.code yX3_no cX3_no 2 (some .int), Cond.methodLink RX3 62 yX3_lean, Cond.instanceMethod yX3_lean, Cond.selects RX3 yX3_lean yX3_lean, Cond.code yX3_lean cX3_lean 4 none]
def wsX3_tip_r2 : List Cond := [Cond.methodLink RX3 36 yX3_on, Cond.instanceMethod yX3_on, Cond.selects RX3 yX3_on yX3_on, Cond.code yX3_on cX3_on 3 (some .int)]
def wsX3_tip : List Cond := .code yX3_tip cX3_tip 3 (some .int) :: ((wsX3_tip_r1 ++ wsX3_tip_r2) ++ wsX30)
def wsX3_turn : List Cond := .code yX3_turn cX3_turn 3 (some .int) :: ([.fieldLink RX3 13 "RingSeesawModel" "x" "[I", .fieldLink RX3 7 "RingSeesawModel" "n" "I", .methodLink RX3 80 yX3_ok, .instanceMethod yX3_ok, .selects RX3 yX3_ok yX3_ok, .initialized RX3, .code yX3_ok cX3_ok 2 (some .int), .fieldLink RX3 26 "RingSeesawModel" "thrown" "I"] ++ wsX30)
def wsX3_keep : List Cond := .code yX3_keep cX3_keep 1 (some .int) :: ([.fieldLink RX3 26 "RingSeesawModel" "thrown" "I", .fieldLink RX3 33 "RingSeesawModel" "targets" "I", .fieldLink RX3 13 "RingSeesawModel" "x" "[I", .fieldLink RX3 20 "RingSeesawModel" "target" "[I", .methodLink RX3 40 arraycopyName, .native arraycopyName, .static arraycopyName, .initialized "java/lang/System", .methodLink RX3 66 yX3_no, .instanceMethod yX3_no, .selects RX3 yX3_no yX3_no, .initialized RX3, .code yX3_no cX3_no 2 (some .int)] ++ wsX30)
def wsX3_settle_r1 : List Cond := [Cond.fieldLink RX3 26 "RingSeesawModel" "thrown" "I", Cond.fieldLink RX3 13 "RingSeesawModel" "x" "[I", Cond.fieldLink RX3 74 "RingSeesawModel" "tips" "I", Cond.methodLink RX3 29 yX3_isIn, Cond.static yX3_isIn, Cond.initialized RX3, Cond.code yX3_isIn cX3_isIn 3 (some .boolean), Cond.methodLink RX3 66 yX3_no, Cond.instanceMethod yX3_no, Cond.selects RX3 yX3_no yX3_no, Cond.code yX3_no cX3_no 2 (some .int), Cond.methodLink RX3 83 yX3_settled, Cond.instanceMethod yX3_settled, Cond.selects RX3 yX3_settled yX3_settled, Cond.code yX3_settled cX3_settled 5 (some .int), Cond.methodLink RX3 58 yX3_firstSteep, Cond.instanceMethod yX3_firstSteep, Cond.selects RX3 yX3_firstSteep yX3_firstSteep, Cond.code yX3_firstSteep cX3_firstSteep 3 (some .int), Cond.fieldLink RX3 7 "RingSeesawModel" "n" "I", Cond.methodLink RX3 54 yX3_steep, Cond.instanceMethod yX3_steep, Cond.selects RX3 yX3_steep yX3_steep, Cond.code yX3_steep cX3_steep 3 (some .boolean)]
def wsX3_settle_r2 : List Cond := [Cond.methodLink RX3 36 yX3_on, Cond.instanceMethod yX3_on, Cond.selects RX3 yX3_on yX3_on, Cond.code yX3_on cX3_on 3 (some .int), Cond.methodLink RX3 62 yX3_lean, Cond.instanceMethod yX3_lean, Cond.selects RX3 yX3_lean yX3_lean, Cond.code yX3_lean cX3_lean 4 none]
def wsX3_settle : List Cond := .code yX3_settle cX3_settle 3 (some .int) :: ((wsX3_settle_r1 ++ wsX3_settle_r2) ++ wsX30)
def wsX3_places : List Cond := .code yX3_places cX3_places 1 (some .int) :: ([.fieldLink RX3 7 "RingSeesawModel" "n" "I", .methodLink RX3 80 yX3_ok, .instanceMethod yX3_ok, .selects RX3 yX3_ok yX3_ok, .initialized RX3, .code yX3_ok cX3_ok 2 (some .int), .fieldLink RX3 26 "RingSeesawModel" "thrown" "I"] ++ wsX30)
def wsX3_numberAt : List Cond := .code yX3_numberAt cX3_numberAt 2 (some .int) :: ([.fieldLink RX3 26 "RingSeesawModel" "thrown" "I", .fieldLink RX3 13 "RingSeesawModel" "x" "[I", .methodLink RX3 70 yX3_isPlace, .instanceMethod yX3_isPlace, .selects RX3 yX3_isPlace yX3_isPlace, .initialized RX3, .code yX3_isPlace cX3_isPlace 2 (some .boolean), .fieldLink RX3 7 "RingSeesawModel" "n" "I", .methodLink RX3 29 yX3_isIn, .static yX3_isIn, .code yX3_isIn cX3_isIn 3 (some .boolean), .methodLink RX3 66 yX3_no, .instanceMethod yX3_no, .selects RX3 yX3_no yX3_no, .code yX3_no cX3_no 2 (some .int)] ++ wsX30)
def wsX3_targets : List Cond := .code yX3_targets cX3_targets 1 (some .int) :: ([.fieldLink RX3 33 "RingSeesawModel" "targets" "I", .methodLink RX3 80 yX3_ok, .instanceMethod yX3_ok, .selects RX3 yX3_ok yX3_ok, .initialized RX3, .code yX3_ok cX3_ok 2 (some .int), .fieldLink RX3 26 "RingSeesawModel" "thrown" "I"] ++ wsX30)
def wsX3_tips : List Cond := .code yX3_tips cX3_tips 1 (some .int) :: ([.fieldLink RX3 74 "RingSeesawModel" "tips" "I", .methodLink RX3 80 yX3_ok, .instanceMethod yX3_ok, .selects RX3 yX3_ok yX3_ok, .initialized RX3, .code yX3_ok cX3_ok 2 (some .int), .fieldLink RX3 26 "RingSeesawModel" "thrown" "I"] ++ wsX30)
def wsX3_sumOf : List Cond := .code yX3_sumOf cX3_sumOf 3 (some .int) :: ([.fieldLink RX3 7 "RingSeesawModel" "n" "I", .fieldLink RX3 13 "RingSeesawModel" "x" "[I"] ++ wsX30)
def wsX3_sum : List Cond := .code yX3_sum cX3_sum 1 (some .int) :: ([.methodLink RX3 87 yX3_sumOf, .instanceMethod yX3_sumOf, .selects RX3 yX3_sumOf yX3_sumOf, .initialized RX3, .code yX3_sumOf cX3_sumOf 3 (some .int), .fieldLink RX3 7 "RingSeesawModel" "n" "I", .fieldLink RX3 13 "RingSeesawModel" "x" "[I", .methodLink RX3 80 yX3_ok, .instanceMethod yX3_ok, .selects RX3 yX3_ok yX3_ok, .code yX3_ok cX3_ok 2 (some .int), .fieldLink RX3 26 "RingSeesawModel" "thrown" "I"] ++ wsX30)
def wsX3_turning : List Cond := .code yX3_turning cX3_turning 3 (some .int) :: ([.fieldLink RX3 7 "RingSeesawModel" "n" "I", .fieldLink RX3 13 "RingSeesawModel" "x" "[I", .methodLink RX3 91 yJ9_floorMod_7cf53, .static yJ9_floorMod_7cf53, .initialized RJ9, .code yJ9_floorMod_7cf53 cJ9_floorMod_7cf53 3 (some .int)] ++ wsX30)
def wsX3_moment : List Cond := .code yX3_moment cX3_moment 1 (some .int) :: ([.methodLink RX3 94 yX3_turning, .instanceMethod yX3_turning, .selects RX3 yX3_turning yX3_turning, .initialized RX3, .code yX3_turning cX3_turning 3 (some .int), .fieldLink RX3 7 "RingSeesawModel" "n" "I", .fieldLink RX3 13 "RingSeesawModel" "x" "[I", .methodLink RX3 91 yJ9_floorMod_7cf53, .static yJ9_floorMod_7cf53, .initialized RJ9, .code yJ9_floorMod_7cf53 cJ9_floorMod_7cf53 3 (some .int), .methodLink RX3 80 yX3_ok, .instanceMethod yX3_ok, .selects RX3 yX3_ok yX3_ok, .code yX3_ok cX3_ok 2 (some .int), .fieldLink RX3 26 "RingSeesawModel" "thrown" "I"] ++ wsX30)
def wsX3_spread : List Cond := .code yX3_spread cX3_spread 1 (some .int) :: ([.fieldLink RX3 13 "RingSeesawModel" "x" "[I", .methodLink RX3 97 yX3_wide, .instanceMethod yX3_wide, .selects RX3 yX3_wide yX3_wide, .initialized RX3, .code yX3_wide cX3_wide 5 (some .int), .fieldLink RX3 7 "RingSeesawModel" "n" "I", .methodLink RX3 46 Lib.Math.min.name, .static Lib.Math.min.name, .initialized "java/lang/Math", .code Lib.Math.min.name Lib.Math.min.code 2 (some .int), .methodLink RX3 51 Lib.Math.max.name, .static Lib.Math.max.name, .code Lib.Math.max.name Lib.Math.max.code 2 (some .int), .methodLink RX3 80 yX3_ok, .instanceMethod yX3_ok, .selects RX3 yX3_ok yX3_ok, .code yX3_ok cX3_ok 2 (some .int), .fieldLink RX3 26 "RingSeesawModel" "thrown" "I"] ++ wsX30)
def wsX3_top : List Cond := .code yX3_top cX3_top 3 (some .int) :: ([.fieldLink RX3 7 "RingSeesawModel" "n" "I", .fieldLink RX3 13 "RingSeesawModel" "x" "[I"] ++ wsX30)
def wsX3_highest : List Cond := .code yX3_highest cX3_highest 1 (some .int) :: ([.methodLink RX3 100 yX3_top, .instanceMethod yX3_top, .selects RX3 yX3_top yX3_top, .initialized RX3, .code yX3_top cX3_top 3 (some .int), .fieldLink RX3 7 "RingSeesawModel" "n" "I", .fieldLink RX3 13 "RingSeesawModel" "x" "[I", .methodLink RX3 80 yX3_ok, .instanceMethod yX3_ok, .selects RX3 yX3_ok yX3_ok, .code yX3_ok cX3_ok 2 (some .int), .fieldLink RX3 26 "RingSeesawModel" "thrown" "I"] ++ wsX30)
def wsX3_isSteep : List Cond := .code yX3_isSteep cX3_isSteep 2 (some .boolean) :: ([.fieldLink RX3 26 "RingSeesawModel" "thrown" "I", .fieldLink RX3 13 "RingSeesawModel" "x" "[I", .methodLink RX3 70 yX3_isPlace, .instanceMethod yX3_isPlace, .selects RX3 yX3_isPlace yX3_isPlace, .initialized RX3, .code yX3_isPlace cX3_isPlace 2 (some .boolean), .fieldLink RX3 7 "RingSeesawModel" "n" "I", .methodLink RX3 29 yX3_isIn, .static yX3_isIn, .code yX3_isIn cX3_isIn 3 (some .boolean), .methodLink RX3 103 yX3_isNot, .instanceMethod yX3_isNot, .selects RX3 yX3_isNot yX3_isNot, .code yX3_isNot cX3_isNot 2 (some .boolean), .methodLink RX3 54 yX3_steep, .instanceMethod yX3_steep, .selects RX3 yX3_steep yX3_steep, .code yX3_steep cX3_steep 3 (some .boolean), .methodLink RX3 36 yX3_on, .instanceMethod yX3_on, .selects RX3 yX3_on yX3_on, .code yX3_on cX3_on 3 (some .int)] ++ wsX30)
def wsX3_manySteep : List Cond := .code yX3_manySteep cX3_manySteep 3 (some .int) :: ([.fieldLink RX3 7 "RingSeesawModel" "n" "I", .fieldLink RX3 13 "RingSeesawModel" "x" "[I", .methodLink RX3 54 yX3_steep, .instanceMethod yX3_steep, .selects RX3 yX3_steep yX3_steep, .initialized RX3, .code yX3_steep cX3_steep 3 (some .boolean), .methodLink RX3 36 yX3_on, .instanceMethod yX3_on, .selects RX3 yX3_on yX3_on, .code yX3_on cX3_on 3 (some .int)] ++ wsX30)
def wsX3_steepPlaces : List Cond := .code yX3_steepPlaces cX3_steepPlaces 1 (some .int) :: ([.methodLink RX3 106 yX3_manySteep, .instanceMethod yX3_manySteep, .selects RX3 yX3_manySteep yX3_manySteep, .initialized RX3, .code yX3_manySteep cX3_manySteep 3 (some .int), .fieldLink RX3 7 "RingSeesawModel" "n" "I", .fieldLink RX3 13 "RingSeesawModel" "x" "[I", .methodLink RX3 54 yX3_steep, .instanceMethod yX3_steep, .selects RX3 yX3_steep yX3_steep, .code yX3_steep cX3_steep 3 (some .boolean), .methodLink RX3 36 yX3_on, .instanceMethod yX3_on, .selects RX3 yX3_on yX3_on, .code yX3_on cX3_on 3 (some .int), .methodLink RX3 80 yX3_ok, .instanceMethod yX3_ok, .selects RX3 yX3_ok yX3_ok, .code yX3_ok cX3_ok 2 (some .int), .fieldLink RX3 26 "RingSeesawModel" "thrown" "I"] ++ wsX30)
def wsX3_nextToTip : List Cond := .code yX3_nextToTip cX3_nextToTip 1 (some .int) :: ([.fieldLink RX3 13 "RingSeesawModel" "x" "[I", .methodLink RX3 58 yX3_firstSteep, .instanceMethod yX3_firstSteep, .selects RX3 yX3_firstSteep yX3_firstSteep, .initialized RX3, .code yX3_firstSteep cX3_firstSteep 3 (some .int), .fieldLink RX3 7 "RingSeesawModel" "n" "I", .methodLink RX3 54 yX3_steep, .instanceMethod yX3_steep, .selects RX3 yX3_steep yX3_steep, .code yX3_steep cX3_steep 3 (some .boolean), .methodLink RX3 36 yX3_on, .instanceMethod yX3_on, .selects RX3 yX3_on yX3_on, .code yX3_on cX3_on 3 (some .int), .methodLink RX3 80 yX3_ok, .instanceMethod yX3_ok, .selects RX3 yX3_ok yX3_ok, .code yX3_ok cX3_ok 2 (some .int), .fieldLink RX3 26 "RingSeesawModel" "thrown" "I"] ++ wsX30)
def wsX3_tiltOn : List Cond := .code yX3_tiltOn cX3_tiltOn 4 (some .int) :: ([.fieldLink RX3 7 "RingSeesawModel" "n" "I", .fieldLink RX3 13 "RingSeesawModel" "x" "[I", .methodLink RX3 36 yX3_on, .instanceMethod yX3_on, .selects RX3 yX3_on yX3_on, .initialized RX3, .code yX3_on cX3_on 3 (some .int)] ++ wsX30)
def wsX3_tilt : List Cond := .code yX3_tilt cX3_tilt 2 (some .int) :: ([.fieldLink RX3 26 "RingSeesawModel" "thrown" "I", .methodLink RX3 70 yX3_isPlace, .instanceMethod yX3_isPlace, .selects RX3 yX3_isPlace yX3_isPlace, .initialized RX3, .code yX3_isPlace cX3_isPlace 2 (some .boolean), .fieldLink RX3 7 "RingSeesawModel" "n" "I", .methodLink RX3 29 yX3_isIn, .static yX3_isIn, .code yX3_isIn cX3_isIn 3 (some .boolean), .methodLink RX3 109 yX3_tiltOn, .instanceMethod yX3_tiltOn, .selects RX3 yX3_tiltOn yX3_tiltOn, .code yX3_tiltOn cX3_tiltOn 4 (some .int), .fieldLink RX3 13 "RingSeesawModel" "x" "[I", .methodLink RX3 36 yX3_on, .instanceMethod yX3_on, .selects RX3 yX3_on yX3_on, .code yX3_on cX3_on 3 (some .int), .methodLink RX3 66 yX3_no, .instanceMethod yX3_no, .selects RX3 yX3_no yX3_no, .code yX3_no cX3_no 2 (some .int)] ++ wsX30)
def wsX3_level : List Cond := .code yX3_level cX3_level 3 (some .int) :: ([.fieldLink RX3 7 "RingSeesawModel" "n" "I", .methodLink RX3 109 yX3_tiltOn, .instanceMethod yX3_tiltOn, .selects RX3 yX3_tiltOn yX3_tiltOn, .initialized RX3, .code yX3_tiltOn cX3_tiltOn 4 (some .int), .fieldLink RX3 13 "RingSeesawModel" "x" "[I", .methodLink RX3 36 yX3_on, .instanceMethod yX3_on, .selects RX3 yX3_on yX3_on, .code yX3_on cX3_on 3 (some .int)] ++ wsX30)
def wsX3_levelAxes : List Cond := .code yX3_levelAxes cX3_levelAxes 1 (some .int) :: ([.methodLink RX3 112 yX3_level, .instanceMethod yX3_level, .selects RX3 yX3_level yX3_level, .initialized RX3, .code yX3_level cX3_level 3 (some .int), .fieldLink RX3 7 "RingSeesawModel" "n" "I", .methodLink RX3 109 yX3_tiltOn, .instanceMethod yX3_tiltOn, .selects RX3 yX3_tiltOn yX3_tiltOn, .code yX3_tiltOn cX3_tiltOn 4 (some .int), .fieldLink RX3 13 "RingSeesawModel" "x" "[I", .methodLink RX3 36 yX3_on, .instanceMethod yX3_on, .selects RX3 yX3_on yX3_on, .code yX3_on cX3_on 3 (some .int), .methodLink RX3 80 yX3_ok, .instanceMethod yX3_ok, .selects RX3 yX3_ok yX3_ok, .code yX3_ok cX3_ok 2 (some .int), .fieldLink RX3 26 "RingSeesawModel" "thrown" "I"] ++ wsX30)
def wsX3_flattest : List Cond := .code yX3_flattest cX3_flattest 3 (some .int) :: ([.fieldLink RX3 7 "RingSeesawModel" "n" "I", .methodLink RX3 77 Lib.Math.abs.name, .static Lib.Math.abs.name, .initialized "java/lang/Math", .code Lib.Math.abs.name Lib.Math.abs.code 1 (some .int), .methodLink RX3 109 yX3_tiltOn, .instanceMethod yX3_tiltOn, .selects RX3 yX3_tiltOn yX3_tiltOn, .initialized RX3, .code yX3_tiltOn cX3_tiltOn 4 (some .int), .fieldLink RX3 13 "RingSeesawModel" "x" "[I", .methodLink RX3 36 yX3_on, .instanceMethod yX3_on, .selects RX3 yX3_on yX3_on, .code yX3_on cX3_on 3 (some .int)] ++ wsX30)
def wsX3_bestAxis : List Cond := .code yX3_bestAxis cX3_bestAxis 1 (some .int) :: ([.methodLink RX3 115 yX3_flattest, .instanceMethod yX3_flattest, .selects RX3 yX3_flattest yX3_flattest, .initialized RX3, .code yX3_flattest cX3_flattest 3 (some .int), .fieldLink RX3 7 "RingSeesawModel" "n" "I", .methodLink RX3 77 Lib.Math.abs.name, .static Lib.Math.abs.name, .initialized "java/lang/Math", .code Lib.Math.abs.name Lib.Math.abs.code 1 (some .int), .methodLink RX3 109 yX3_tiltOn, .instanceMethod yX3_tiltOn, .selects RX3 yX3_tiltOn yX3_tiltOn, .code yX3_tiltOn cX3_tiltOn 4 (some .int), .fieldLink RX3 13 "RingSeesawModel" "x" "[I", .methodLink RX3 36 yX3_on, .instanceMethod yX3_on, .selects RX3 yX3_on yX3_on, .code yX3_on cX3_on 3 (some .int), .methodLink RX3 80 yX3_ok, .instanceMethod yX3_ok, .selects RX3 yX3_ok yX3_ok, .code yX3_ok cX3_ok 2 (some .int), .fieldLink RX3 26 "RingSeesawModel" "thrown" "I"] ++ wsX30)
def wsX3_goal : List Cond := .code yX3_goal cX3_goal 3 (some .int) :: ([.fieldLink RX3 20 "RingSeesawModel" "target" "[I"] ++ wsX30)
def wsX3_numberIn : List Cond := .code yX3_numberIn cX3_numberIn 3 (some .int) :: ([.fieldLink RX3 26 "RingSeesawModel" "thrown" "I", .methodLink RX3 118 yX3_isTarget, .instanceMethod yX3_isTarget, .selects RX3 yX3_isTarget yX3_isTarget, .initialized RX3, .code yX3_isTarget cX3_isTarget 2 (some .boolean), .fieldLink RX3 33 "RingSeesawModel" "targets" "I", .methodLink RX3 29 yX3_isIn, .static yX3_isIn, .code yX3_isIn cX3_isIn 3 (some .boolean), .methodLink RX3 70 yX3_isPlace, .instanceMethod yX3_isPlace, .selects RX3 yX3_isPlace yX3_isPlace, .code yX3_isPlace cX3_isPlace 2 (some .boolean), .fieldLink RX3 7 "RingSeesawModel" "n" "I", .methodLink RX3 121 yX3_goal, .instanceMethod yX3_goal, .selects RX3 yX3_goal yX3_goal, .code yX3_goal cX3_goal 3 (some .int), .fieldLink RX3 20 "RingSeesawModel" "target" "[I", .methodLink RX3 66 yX3_no, .instanceMethod yX3_no, .selects RX3 yX3_no yX3_no, .code yX3_no cX3_no 2 (some .int)] ++ wsX30)
def wsX3_others : List Cond := .code yX3_others cX3_others 4 (some .int) :: ([.fieldLink RX3 7 "RingSeesawModel" "n" "I", .fieldLink RX3 13 "RingSeesawModel" "x" "[I", .methodLink RX3 121 yX3_goal, .instanceMethod yX3_goal, .selects RX3 yX3_goal yX3_goal, .initialized RX3, .code yX3_goal cX3_goal 3 (some .int), .fieldLink RX3 20 "RingSeesawModel" "target" "[I"] ++ wsX30)
def wsX3_differences_r1 : List Cond := [Cond.fieldLink RX3 26 "RingSeesawModel" "thrown" "I", Cond.methodLink RX3 118 yX3_isTarget, Cond.instanceMethod yX3_isTarget, Cond.selects RX3 yX3_isTarget yX3_isTarget, Cond.initialized RX3, Cond.code yX3_isTarget cX3_isTarget 2 (some .boolean), Cond.fieldLink RX3 33 "RingSeesawModel" "targets" "I", Cond.methodLink RX3 29 yX3_isIn, Cond.static yX3_isIn, Cond.code yX3_isIn cX3_isIn 3 (some .boolean), Cond.methodLink RX3 124 yX3_others, Cond.instanceMethod yX3_others, Cond.selects RX3 yX3_others yX3_others, Cond.code yX3_others cX3_others 4 (some .int), Cond.fieldLink RX3 7 "RingSeesawModel" "n" "I", Cond.fieldLink RX3 13 "RingSeesawModel" "x" "[I", Cond.methodLink RX3 121 yX3_goal, Cond.instanceMethod yX3_goal, Cond.selects RX3 yX3_goal yX3_goal, Cond.code yX3_goal cX3_goal 3 (some .int), Cond.fieldLink RX3 20 "RingSeesawModel" "target" "[I", Cond.methodLink RX3 66 yX3_no, Cond.instanceMethod yX3_no, Cond.selects RX3 yX3_no yX3_no]
def wsX3_differences_r2 : List Cond := [Cond.code yX3_no cX3_no 2 (some .int)]
def wsX3_differences : List Cond := .code yX3_differences cX3_differences 2 (some .int) :: ((wsX3_differences_r1 ++ wsX3_differences_r2) ++ wsX30)
def wsX3_around : List Cond := .code yX3_around cX3_around 4 (some .int) :: ([.fieldLink RX3 23 "RingSeesawModel" "tip" "[I", .fieldLink RX3 7 "RingSeesawModel" "n" "I", .fieldLink RX3 13 "RingSeesawModel" "x" "[I", .methodLink RX3 121 yX3_goal, .instanceMethod yX3_goal, .selects RX3 yX3_goal yX3_goal, .initialized RX3, .code yX3_goal cX3_goal 3 (some .int), .fieldLink RX3 20 "RingSeesawModel" "target" "[I"] ++ wsX30)
def wsX3_solves : List Cond := .code yX3_solves cX3_solves 4 (some .boolean) :: ([.fieldLink RX3 7 "RingSeesawModel" "n" "I", .fieldLink RX3 23 "RingSeesawModel" "tip" "[I", .methodLink RX3 127 yX3_around, .instanceMethod yX3_around, .selects RX3 yX3_around yX3_around, .initialized RX3, .code yX3_around cX3_around 4 (some .int), .fieldLink RX3 13 "RingSeesawModel" "x" "[I", .methodLink RX3 121 yX3_goal, .instanceMethod yX3_goal, .selects RX3 yX3_goal yX3_goal, .code yX3_goal cX3_goal 3 (some .int), .fieldLink RX3 20 "RingSeesawModel" "target" "[I"] ++ wsX30)
def wsX3_canReach_r1 : List Cond := [Cond.fieldLink RX3 26 "RingSeesawModel" "thrown" "I", Cond.methodLink RX3 118 yX3_isTarget, Cond.instanceMethod yX3_isTarget, Cond.selects RX3 yX3_isTarget yX3_isTarget, Cond.initialized RX3, Cond.code yX3_isTarget cX3_isTarget 2 (some .boolean), Cond.fieldLink RX3 33 "RingSeesawModel" "targets" "I", Cond.methodLink RX3 29 yX3_isIn, Cond.static yX3_isIn, Cond.code yX3_isIn cX3_isIn 3 (some .boolean), Cond.methodLink RX3 103 yX3_isNot, Cond.instanceMethod yX3_isNot, Cond.selects RX3 yX3_isNot yX3_isNot, Cond.code yX3_isNot cX3_isNot 2 (some .boolean), Cond.methodLink RX3 130 yX3_solves, Cond.instanceMethod yX3_solves, Cond.selects RX3 yX3_solves yX3_solves, Cond.code yX3_solves cX3_solves 4 (some .boolean), Cond.fieldLink RX3 7 "RingSeesawModel" "n" "I", Cond.fieldLink RX3 23 "RingSeesawModel" "tip" "[I", Cond.methodLink RX3 127 yX3_around, Cond.instanceMethod yX3_around, Cond.selects RX3 yX3_around yX3_around, Cond.code yX3_around cX3_around 4 (some .int)]
def wsX3_canReach_r2 : List Cond := [Cond.fieldLink RX3 13 "RingSeesawModel" "x" "[I", Cond.methodLink RX3 121 yX3_goal, Cond.instanceMethod yX3_goal, Cond.selects RX3 yX3_goal yX3_goal, Cond.code yX3_goal cX3_goal 3 (some .int), Cond.fieldLink RX3 20 "RingSeesawModel" "target" "[I"]
def wsX3_canReach : List Cond := .code yX3_canReach cX3_canReach 2 (some .boolean) :: ((wsX3_canReach_r1 ++ wsX3_canReach_r2) ++ wsX30)
def wsX3_manySolved : List Cond := .code yX3_manySolved cX3_manySolved 3 (some .int) :: ([.fieldLink RX3 33 "RingSeesawModel" "targets" "I", .methodLink RX3 130 yX3_solves, .instanceMethod yX3_solves, .selects RX3 yX3_solves yX3_solves, .initialized RX3, .code yX3_solves cX3_solves 4 (some .boolean), .fieldLink RX3 7 "RingSeesawModel" "n" "I", .fieldLink RX3 23 "RingSeesawModel" "tip" "[I", .methodLink RX3 127 yX3_around, .instanceMethod yX3_around, .selects RX3 yX3_around yX3_around, .code yX3_around cX3_around 4 (some .int), .fieldLink RX3 13 "RingSeesawModel" "x" "[I", .methodLink RX3 121 yX3_goal, .instanceMethod yX3_goal, .selects RX3 yX3_goal yX3_goal, .code yX3_goal cX3_goal 3 (some .int), .fieldLink RX3 20 "RingSeesawModel" "target" "[I"] ++ wsX30)
def wsX3_reachable_r1 : List Cond := [Cond.methodLink RX3 133 yX3_manySolved, Cond.instanceMethod yX3_manySolved, Cond.selects RX3 yX3_manySolved yX3_manySolved, Cond.initialized RX3, Cond.code yX3_manySolved cX3_manySolved 3 (some .int), Cond.fieldLink RX3 33 "RingSeesawModel" "targets" "I", Cond.methodLink RX3 130 yX3_solves, Cond.instanceMethod yX3_solves, Cond.selects RX3 yX3_solves yX3_solves, Cond.code yX3_solves cX3_solves 4 (some .boolean), Cond.fieldLink RX3 7 "RingSeesawModel" "n" "I", Cond.fieldLink RX3 23 "RingSeesawModel" "tip" "[I", Cond.methodLink RX3 127 yX3_around, Cond.instanceMethod yX3_around, Cond.selects RX3 yX3_around yX3_around, Cond.code yX3_around cX3_around 4 (some .int), Cond.fieldLink RX3 13 "RingSeesawModel" "x" "[I", Cond.methodLink RX3 121 yX3_goal, Cond.instanceMethod yX3_goal, Cond.selects RX3 yX3_goal yX3_goal, Cond.code yX3_goal cX3_goal 3 (some .int), Cond.fieldLink RX3 20 "RingSeesawModel" "target" "[I", Cond.methodLink RX3 80 yX3_ok, Cond.instanceMethod yX3_ok]
def wsX3_reachable_r2 : List Cond := [Cond.selects RX3 yX3_ok yX3_ok, Cond.code yX3_ok cX3_ok 2 (some .int), Cond.fieldLink RX3 26 "RingSeesawModel" "thrown" "I"]
def wsX3_reachable : List Cond := .code yX3_reachable cX3_reachable 1 (some .int) :: ((wsX3_reachable_r1 ++ wsX3_reachable_r2) ++ wsX30)
def wsX3_tipsTo_r1 : List Cond := [Cond.fieldLink RX3 26 "RingSeesawModel" "thrown" "I", Cond.fieldLink RX3 23 "RingSeesawModel" "tip" "[I", Cond.methodLink RX3 118 yX3_isTarget, Cond.instanceMethod yX3_isTarget, Cond.selects RX3 yX3_isTarget yX3_isTarget, Cond.initialized RX3, Cond.code yX3_isTarget cX3_isTarget 2 (some .boolean), Cond.fieldLink RX3 33 "RingSeesawModel" "targets" "I", Cond.methodLink RX3 29 yX3_isIn, Cond.static yX3_isIn, Cond.code yX3_isIn cX3_isIn 3 (some .boolean), Cond.methodLink RX3 70 yX3_isPlace, Cond.instanceMethod yX3_isPlace, Cond.selects RX3 yX3_isPlace yX3_isPlace, Cond.code yX3_isPlace cX3_isPlace 2 (some .boolean), Cond.fieldLink RX3 7 "RingSeesawModel" "n" "I", Cond.methodLink RX3 66 yX3_no, Cond.instanceMethod yX3_no, Cond.selects RX3 yX3_no yX3_no, Cond.code yX3_no cX3_no 2 (some .int), Cond.methodLink RX3 130 yX3_solves, Cond.instanceMethod yX3_solves, Cond.selects RX3 yX3_solves yX3_solves, Cond.code yX3_solves cX3_solves 4 (some .boolean)]
def wsX3_tipsTo_r2 : List Cond := [Cond.methodLink RX3 127 yX3_around, Cond.instanceMethod yX3_around, Cond.selects RX3 yX3_around yX3_around, Cond.code yX3_around cX3_around 4 (some .int), Cond.fieldLink RX3 13 "RingSeesawModel" "x" "[I", Cond.methodLink RX3 121 yX3_goal, Cond.instanceMethod yX3_goal, Cond.selects RX3 yX3_goal yX3_goal, Cond.code yX3_goal cX3_goal 3 (some .int), Cond.fieldLink RX3 20 "RingSeesawModel" "target" "[I"]
def wsX3_tipsTo : List Cond := .code yX3_tipsTo cX3_tipsTo 3 (some .int) :: ((wsX3_tipsTo_r1 ++ wsX3_tipsTo_r2) ++ wsX30)
def wsX3_fewest_r1 : List Cond := [Cond.constant RX3 138 (2147483647), Cond.fieldLink RX3 7 "RingSeesawModel" "n" "I", Cond.fieldLink RX3 23 "RingSeesawModel" "tip" "[I", Cond.methodLink RX3 77 Lib.Math.abs.name, Cond.static Lib.Math.abs.name, Cond.initialized "java/lang/Math", Cond.code Lib.Math.abs.name Lib.Math.abs.code 1 (some .int), Cond.methodLink RX3 46 Lib.Math.min.name, Cond.static Lib.Math.min.name, Cond.code Lib.Math.min.name Lib.Math.min.code 2 (some .int), Cond.methodLink RX3 130 yX3_solves, Cond.instanceMethod yX3_solves, Cond.selects RX3 yX3_solves yX3_solves, Cond.initialized RX3, Cond.code yX3_solves cX3_solves 4 (some .boolean), Cond.methodLink RX3 127 yX3_around, Cond.instanceMethod yX3_around, Cond.selects RX3 yX3_around yX3_around, Cond.code yX3_around cX3_around 4 (some .int), Cond.fieldLink RX3 13 "RingSeesawModel" "x" "[I", Cond.methodLink RX3 121 yX3_goal, Cond.instanceMethod yX3_goal, Cond.selects RX3 yX3_goal yX3_goal, Cond.code yX3_goal cX3_goal 3 (some .int)]
def wsX3_fewest_r2 : List Cond := [Cond.fieldLink RX3 20 "RingSeesawModel" "target" "[I"]
def wsX3_fewest : List Cond := .code yX3_fewest cX3_fewest 6 (some .int) :: ((wsX3_fewest_r1 ++ wsX3_fewest_r2) ++ wsX30)
def wsX3_fewestTips_r1 : List Cond := [Cond.fieldLink RX3 26 "RingSeesawModel" "thrown" "I", Cond.methodLink RX3 118 yX3_isTarget, Cond.instanceMethod yX3_isTarget, Cond.selects RX3 yX3_isTarget yX3_isTarget, Cond.initialized RX3, Cond.code yX3_isTarget cX3_isTarget 2 (some .boolean), Cond.fieldLink RX3 33 "RingSeesawModel" "targets" "I", Cond.methodLink RX3 29 yX3_isIn, Cond.static yX3_isIn, Cond.code yX3_isIn cX3_isIn 3 (some .boolean), Cond.methodLink RX3 139 yX3_fewest, Cond.instanceMethod yX3_fewest, Cond.selects RX3 yX3_fewest yX3_fewest, Cond.code yX3_fewest cX3_fewest 6 (some .int), Cond.constant RX3 138 (2147483647), Cond.fieldLink RX3 7 "RingSeesawModel" "n" "I", Cond.fieldLink RX3 23 "RingSeesawModel" "tip" "[I", Cond.methodLink RX3 77 Lib.Math.abs.name, Cond.static Lib.Math.abs.name, Cond.initialized "java/lang/Math", Cond.code Lib.Math.abs.name Lib.Math.abs.code 1 (some .int), Cond.methodLink RX3 46 Lib.Math.min.name, Cond.static Lib.Math.min.name, Cond.code Lib.Math.min.name Lib.Math.min.code 2 (some .int)]
def wsX3_fewestTips_r2 : List Cond := [Cond.methodLink RX3 130 yX3_solves, Cond.instanceMethod yX3_solves, Cond.selects RX3 yX3_solves yX3_solves, Cond.code yX3_solves cX3_solves 4 (some .boolean), Cond.methodLink RX3 127 yX3_around, Cond.instanceMethod yX3_around, Cond.selects RX3 yX3_around yX3_around, Cond.code yX3_around cX3_around 4 (some .int), Cond.fieldLink RX3 13 "RingSeesawModel" "x" "[I", Cond.methodLink RX3 121 yX3_goal, Cond.instanceMethod yX3_goal, Cond.selects RX3 yX3_goal yX3_goal, Cond.code yX3_goal cX3_goal 3 (some .int), Cond.fieldLink RX3 20 "RingSeesawModel" "target" "[I", Cond.methodLink RX3 66 yX3_no, Cond.instanceMethod yX3_no, Cond.selects RX3 yX3_no yX3_no, Cond.code yX3_no cX3_no 2 (some .int)]
def wsX3_fewestTips : List Cond := .code yX3_fewestTips cX3_fewestTips 2 (some .int) :: ((wsX3_fewestTips_r1 ++ wsX3_fewestTips_r2) ++ wsX30)
def wsX3_reach_r1 : List Cond := [Cond.fieldLink RX3 26 "RingSeesawModel" "thrown" "I", Cond.fieldLink RX3 7 "RingSeesawModel" "n" "I", Cond.fieldLink RX3 13 "RingSeesawModel" "x" "[I", Cond.fieldLink RX3 74 "RingSeesawModel" "tips" "I", Cond.methodLink RX3 118 yX3_isTarget, Cond.instanceMethod yX3_isTarget, Cond.selects RX3 yX3_isTarget yX3_isTarget, Cond.initialized RX3, Cond.code yX3_isTarget cX3_isTarget 2 (some .boolean), Cond.fieldLink RX3 33 "RingSeesawModel" "targets" "I", Cond.methodLink RX3 29 yX3_isIn, Cond.static yX3_isIn, Cond.code yX3_isIn cX3_isIn 3 (some .boolean), Cond.methodLink RX3 66 yX3_no, Cond.instanceMethod yX3_no, Cond.selects RX3 yX3_no yX3_no, Cond.code yX3_no cX3_no 2 (some .int), Cond.methodLink RX3 139 yX3_fewest, Cond.instanceMethod yX3_fewest, Cond.selects RX3 yX3_fewest yX3_fewest, Cond.code yX3_fewest cX3_fewest 6 (some .int), Cond.constant RX3 138 (2147483647), Cond.fieldLink RX3 23 "RingSeesawModel" "tip" "[I", Cond.methodLink RX3 77 Lib.Math.abs.name]
def wsX3_reach_r2 : List Cond := [Cond.static Lib.Math.abs.name, Cond.initialized "java/lang/Math", Cond.code Lib.Math.abs.name Lib.Math.abs.code 1 (some .int), Cond.methodLink RX3 46 Lib.Math.min.name, Cond.static Lib.Math.min.name, Cond.code Lib.Math.min.name Lib.Math.min.code 2 (some .int), Cond.methodLink RX3 130 yX3_solves, Cond.instanceMethod yX3_solves, Cond.selects RX3 yX3_solves yX3_solves, Cond.code yX3_solves cX3_solves 4 (some .boolean), Cond.methodLink RX3 127 yX3_around, Cond.instanceMethod yX3_around, Cond.selects RX3 yX3_around yX3_around, Cond.code yX3_around cX3_around 4 (some .int), Cond.methodLink RX3 121 yX3_goal, Cond.instanceMethod yX3_goal, Cond.selects RX3 yX3_goal yX3_goal, Cond.code yX3_goal cX3_goal 3 (some .int), Cond.fieldLink RX3 20 "RingSeesawModel" "target" "[I"]
def wsX3_reach : List Cond := .code yX3_reach cX3_reach 4 (some .int) :: ((wsX3_reach_r1 ++ wsX3_reach_r2) ++ wsX30)
def wsX3_near_r1 : List Cond := [Cond.constant RX3 138 (2147483647), Cond.fieldLink RX3 33 "RingSeesawModel" "targets" "I", Cond.methodLink RX3 139 yX3_fewest, Cond.instanceMethod yX3_fewest, Cond.selects RX3 yX3_fewest yX3_fewest, Cond.initialized RX3, Cond.code yX3_fewest cX3_fewest 6 (some .int), Cond.fieldLink RX3 7 "RingSeesawModel" "n" "I", Cond.fieldLink RX3 23 "RingSeesawModel" "tip" "[I", Cond.methodLink RX3 77 Lib.Math.abs.name, Cond.static Lib.Math.abs.name, Cond.initialized "java/lang/Math", Cond.code Lib.Math.abs.name Lib.Math.abs.code 1 (some .int), Cond.methodLink RX3 46 Lib.Math.min.name, Cond.static Lib.Math.min.name, Cond.code Lib.Math.min.name Lib.Math.min.code 2 (some .int), Cond.methodLink RX3 130 yX3_solves, Cond.instanceMethod yX3_solves, Cond.selects RX3 yX3_solves yX3_solves, Cond.code yX3_solves cX3_solves 4 (some .boolean), Cond.methodLink RX3 127 yX3_around, Cond.instanceMethod yX3_around, Cond.selects RX3 yX3_around yX3_around, Cond.code yX3_around cX3_around 4 (some .int)]
def wsX3_near_r2 : List Cond := [Cond.fieldLink RX3 13 "RingSeesawModel" "x" "[I", Cond.methodLink RX3 121 yX3_goal, Cond.instanceMethod yX3_goal, Cond.selects RX3 yX3_goal yX3_goal, Cond.code yX3_goal cX3_goal 3 (some .int), Cond.fieldLink RX3 20 "RingSeesawModel" "target" "[I"]
def wsX3_near : List Cond := .code yX3_near cX3_near 5 (some .int) :: ((wsX3_near_r1 ++ wsX3_near_r2) ++ wsX30)
def wsX3_nearestTarget_r1 : List Cond := [Cond.methodLink RX3 142 yX3_near, Cond.instanceMethod yX3_near, Cond.selects RX3 yX3_near yX3_near, Cond.initialized RX3, Cond.code yX3_near cX3_near 5 (some .int), Cond.constant RX3 138 (2147483647), Cond.fieldLink RX3 33 "RingSeesawModel" "targets" "I", Cond.methodLink RX3 139 yX3_fewest, Cond.instanceMethod yX3_fewest, Cond.selects RX3 yX3_fewest yX3_fewest, Cond.code yX3_fewest cX3_fewest 6 (some .int), Cond.fieldLink RX3 7 "RingSeesawModel" "n" "I", Cond.fieldLink RX3 23 "RingSeesawModel" "tip" "[I", Cond.methodLink RX3 77 Lib.Math.abs.name, Cond.static Lib.Math.abs.name, Cond.initialized "java/lang/Math", Cond.code Lib.Math.abs.name Lib.Math.abs.code 1 (some .int), Cond.methodLink RX3 46 Lib.Math.min.name, Cond.static Lib.Math.min.name, Cond.code Lib.Math.min.name Lib.Math.min.code 2 (some .int), Cond.methodLink RX3 130 yX3_solves, Cond.instanceMethod yX3_solves, Cond.selects RX3 yX3_solves yX3_solves, Cond.code yX3_solves cX3_solves 4 (some .boolean)]
def wsX3_nearestTarget_r2 : List Cond := [Cond.methodLink RX3 127 yX3_around, Cond.instanceMethod yX3_around, Cond.selects RX3 yX3_around yX3_around, Cond.code yX3_around cX3_around 4 (some .int), Cond.fieldLink RX3 13 "RingSeesawModel" "x" "[I", Cond.methodLink RX3 121 yX3_goal, Cond.instanceMethod yX3_goal, Cond.selects RX3 yX3_goal yX3_goal, Cond.code yX3_goal cX3_goal 3 (some .int), Cond.fieldLink RX3 20 "RingSeesawModel" "target" "[I", Cond.methodLink RX3 80 yX3_ok, Cond.instanceMethod yX3_ok, Cond.selects RX3 yX3_ok yX3_ok, Cond.code yX3_ok cX3_ok 2 (some .int), Cond.fieldLink RX3 26 "RingSeesawModel" "thrown" "I"]
def wsX3_nearestTarget : List Cond := .code yX3_nearestTarget cX3_nearestTarget 1 (some .int) :: ((wsX3_nearestTarget_r1 ++ wsX3_nearestTarget_r2) ++ wsX30)
def wsX3_rest_r1 : List Cond := [Cond.fieldLink RX3 17 "RingSeesawModel" "then" "[I", Cond.methodLink RX3 145 yX3_look, Cond.instanceMethod yX3_look, Cond.selects RX3 yX3_look yX3_look, Cond.initialized RX3, Cond.code yX3_look cX3_look 1 none, Cond.fieldLink RX3 13 "RingSeesawModel" "x" "[I", Cond.methodLink RX3 40 arraycopyName, Cond.native arraycopyName, Cond.static arraycopyName, Cond.initialized "java/lang/System", Cond.methodLink RX3 83 yX3_settled, Cond.instanceMethod yX3_settled, Cond.selects RX3 yX3_settled yX3_settled, Cond.code yX3_settled cX3_settled 5 (some .int), Cond.methodLink RX3 58 yX3_firstSteep, Cond.instanceMethod yX3_firstSteep, Cond.selects RX3 yX3_firstSteep yX3_firstSteep, Cond.code yX3_firstSteep cX3_firstSteep 3 (some .int), Cond.fieldLink RX3 7 "RingSeesawModel" "n" "I", Cond.methodLink RX3 54 yX3_steep, Cond.instanceMethod yX3_steep, Cond.selects RX3 yX3_steep yX3_steep, Cond.code yX3_steep cX3_steep 3 (some .boolean)]
def wsX3_rest_r2 : List Cond := [Cond.methodLink RX3 36 yX3_on, Cond.instanceMethod yX3_on, Cond.selects RX3 yX3_on yX3_on, Cond.code yX3_on cX3_on 3 (some .int), Cond.methodLink RX3 62 yX3_lean, Cond.instanceMethod yX3_lean, Cond.selects RX3 yX3_lean yX3_lean, Cond.code yX3_lean cX3_lean 4 none]
def wsX3_rest : List Cond := .code yX3_rest cX3_rest 2 (some .int) :: ((wsX3_rest_r1 ++ wsX3_rest_r2) ++ wsX30)
def wsX3_stepsToRest_r1 : List Cond := [Cond.methodLink RX3 148 yX3_rest, Cond.instanceMethod yX3_rest, Cond.selects RX3 yX3_rest yX3_rest, Cond.initialized RX3, Cond.code yX3_rest cX3_rest 2 (some .int), Cond.fieldLink RX3 17 "RingSeesawModel" "then" "[I", Cond.methodLink RX3 145 yX3_look, Cond.instanceMethod yX3_look, Cond.selects RX3 yX3_look yX3_look, Cond.code yX3_look cX3_look 1 none, Cond.fieldLink RX3 13 "RingSeesawModel" "x" "[I", Cond.methodLink RX3 40 arraycopyName, Cond.native arraycopyName, Cond.static arraycopyName, Cond.initialized "java/lang/System", Cond.methodLink RX3 83 yX3_settled, Cond.instanceMethod yX3_settled, Cond.selects RX3 yX3_settled yX3_settled, Cond.code yX3_settled cX3_settled 5 (some .int), Cond.methodLink RX3 58 yX3_firstSteep, Cond.instanceMethod yX3_firstSteep, Cond.selects RX3 yX3_firstSteep yX3_firstSteep, Cond.code yX3_firstSteep cX3_firstSteep 3 (some .int), Cond.fieldLink RX3 7 "RingSeesawModel" "n" "I"]
def wsX3_stepsToRest_r2 : List Cond := [Cond.methodLink RX3 54 yX3_steep, Cond.instanceMethod yX3_steep, Cond.selects RX3 yX3_steep yX3_steep, Cond.code yX3_steep cX3_steep 3 (some .boolean), Cond.methodLink RX3 36 yX3_on, Cond.instanceMethod yX3_on, Cond.selects RX3 yX3_on yX3_on, Cond.code yX3_on cX3_on 3 (some .int), Cond.methodLink RX3 62 yX3_lean, Cond.instanceMethod yX3_lean, Cond.selects RX3 yX3_lean yX3_lean, Cond.code yX3_lean cX3_lean 4 none, Cond.methodLink RX3 80 yX3_ok, Cond.instanceMethod yX3_ok, Cond.selects RX3 yX3_ok yX3_ok, Cond.code yX3_ok cX3_ok 2 (some .int), Cond.fieldLink RX3 26 "RingSeesawModel" "thrown" "I"]
def wsX3_stepsToRest : List Cond := .code yX3_stepsToRest cX3_stepsToRest 1 (some .int) :: ((wsX3_stepsToRest_r1 ++ wsX3_stepsToRest_r2) ++ wsX30)
def wsX3_wideAtRest_r1 : List Cond := [Cond.fieldLink RX3 17 "RingSeesawModel" "then" "[I", Cond.methodLink RX3 148 yX3_rest, Cond.instanceMethod yX3_rest, Cond.selects RX3 yX3_rest yX3_rest, Cond.initialized RX3, Cond.code yX3_rest cX3_rest 2 (some .int), Cond.methodLink RX3 145 yX3_look, Cond.instanceMethod yX3_look, Cond.selects RX3 yX3_look yX3_look, Cond.code yX3_look cX3_look 1 none, Cond.fieldLink RX3 13 "RingSeesawModel" "x" "[I", Cond.methodLink RX3 40 arraycopyName, Cond.native arraycopyName, Cond.static arraycopyName, Cond.initialized "java/lang/System", Cond.methodLink RX3 83 yX3_settled, Cond.instanceMethod yX3_settled, Cond.selects RX3 yX3_settled yX3_settled, Cond.code yX3_settled cX3_settled 5 (some .int), Cond.methodLink RX3 58 yX3_firstSteep, Cond.instanceMethod yX3_firstSteep, Cond.selects RX3 yX3_firstSteep yX3_firstSteep, Cond.code yX3_firstSteep cX3_firstSteep 3 (some .int), Cond.fieldLink RX3 7 "RingSeesawModel" "n" "I"]
def wsX3_wideAtRest_r2 : List Cond := [Cond.methodLink RX3 54 yX3_steep, Cond.instanceMethod yX3_steep, Cond.selects RX3 yX3_steep yX3_steep, Cond.code yX3_steep cX3_steep 3 (some .boolean), Cond.methodLink RX3 36 yX3_on, Cond.instanceMethod yX3_on, Cond.selects RX3 yX3_on yX3_on, Cond.code yX3_on cX3_on 3 (some .int), Cond.methodLink RX3 62 yX3_lean, Cond.instanceMethod yX3_lean, Cond.selects RX3 yX3_lean yX3_lean, Cond.code yX3_lean cX3_lean 4 none, Cond.methodLink RX3 97 yX3_wide, Cond.instanceMethod yX3_wide, Cond.selects RX3 yX3_wide yX3_wide, Cond.code yX3_wide cX3_wide 5 (some .int), Cond.methodLink RX3 46 Lib.Math.min.name, Cond.static Lib.Math.min.name, Cond.initialized "java/lang/Math", Cond.code Lib.Math.min.name Lib.Math.min.code 2 (some .int), Cond.methodLink RX3 51 Lib.Math.max.name, Cond.static Lib.Math.max.name, Cond.code Lib.Math.max.name Lib.Math.max.code 2 (some .int)]
def wsX3_wideAtRest : List Cond := .code yX3_wideAtRest cX3_wideAtRest 1 (some .int) :: ((wsX3_wideAtRest_r1 ++ wsX3_wideAtRest_r2) ++ wsX30)
def wsX3_spreadAtRest_r1 : List Cond := [Cond.methodLink RX3 151 yX3_wideAtRest, Cond.instanceMethod yX3_wideAtRest, Cond.selects RX3 yX3_wideAtRest yX3_wideAtRest, Cond.initialized RX3, Cond.code yX3_wideAtRest cX3_wideAtRest 1 (some .int), Cond.fieldLink RX3 17 "RingSeesawModel" "then" "[I", Cond.methodLink RX3 148 yX3_rest, Cond.instanceMethod yX3_rest, Cond.selects RX3 yX3_rest yX3_rest, Cond.code yX3_rest cX3_rest 2 (some .int), Cond.methodLink RX3 145 yX3_look, Cond.instanceMethod yX3_look, Cond.selects RX3 yX3_look yX3_look, Cond.code yX3_look cX3_look 1 none, Cond.fieldLink RX3 13 "RingSeesawModel" "x" "[I", Cond.methodLink RX3 40 arraycopyName, Cond.native arraycopyName, Cond.static arraycopyName, Cond.initialized "java/lang/System", Cond.methodLink RX3 83 yX3_settled, Cond.instanceMethod yX3_settled, Cond.selects RX3 yX3_settled yX3_settled, Cond.code yX3_settled cX3_settled 5 (some .int), Cond.methodLink RX3 58 yX3_firstSteep]
def wsX3_spreadAtRest_r2 : List Cond := [Cond.instanceMethod yX3_firstSteep, Cond.selects RX3 yX3_firstSteep yX3_firstSteep, Cond.code yX3_firstSteep cX3_firstSteep 3 (some .int), Cond.fieldLink RX3 7 "RingSeesawModel" "n" "I", Cond.methodLink RX3 54 yX3_steep, Cond.instanceMethod yX3_steep, Cond.selects RX3 yX3_steep yX3_steep, Cond.code yX3_steep cX3_steep 3 (some .boolean), Cond.methodLink RX3 36 yX3_on, Cond.instanceMethod yX3_on, Cond.selects RX3 yX3_on yX3_on, Cond.code yX3_on cX3_on 3 (some .int), Cond.methodLink RX3 62 yX3_lean, Cond.instanceMethod yX3_lean, Cond.selects RX3 yX3_lean yX3_lean, Cond.code yX3_lean cX3_lean 4 none, Cond.methodLink RX3 97 yX3_wide, Cond.instanceMethod yX3_wide, Cond.selects RX3 yX3_wide yX3_wide, Cond.code yX3_wide cX3_wide 5 (some .int), Cond.methodLink RX3 46 Lib.Math.min.name, Cond.static Lib.Math.min.name, Cond.initialized "java/lang/Math", Cond.code Lib.Math.min.name Lib.Math.min.code 2 (some .int)]
def wsX3_spreadAtRest_r3 : List Cond := [Cond.methodLink RX3 51 Lib.Math.max.name, Cond.static Lib.Math.max.name, Cond.code Lib.Math.max.name Lib.Math.max.code 2 (some .int), Cond.methodLink RX3 80 yX3_ok, Cond.instanceMethod yX3_ok, Cond.selects RX3 yX3_ok yX3_ok, Cond.code yX3_ok cX3_ok 2 (some .int), Cond.fieldLink RX3 26 "RingSeesawModel" "thrown" "I"]
def wsX3_spreadAtRest : List Cond := .code yX3_spreadAtRest cX3_spreadAtRest 1 (some .int) :: ((wsX3_spreadAtRest_r1 ++ (wsX3_spreadAtRest_r2 ++ wsX3_spreadAtRest_r3)) ++ wsX30)
def wsX3_wideWith_r1 : List Cond := [Cond.fieldLink RX3 17 "RingSeesawModel" "then" "[I", Cond.methodLink RX3 145 yX3_look, Cond.instanceMethod yX3_look, Cond.selects RX3 yX3_look yX3_look, Cond.initialized RX3, Cond.code yX3_look cX3_look 1 none, Cond.fieldLink RX3 13 "RingSeesawModel" "x" "[I", Cond.methodLink RX3 40 arraycopyName, Cond.native arraycopyName, Cond.static arraycopyName, Cond.initialized "java/lang/System", Cond.methodLink RX3 62 yX3_lean, Cond.instanceMethod yX3_lean, Cond.selects RX3 yX3_lean yX3_lean, Cond.code yX3_lean cX3_lean 4 none, Cond.methodLink RX3 36 yX3_on, Cond.instanceMethod yX3_on, Cond.selects RX3 yX3_on yX3_on, Cond.code yX3_on cX3_on 3 (some .int), Cond.fieldLink RX3 7 "RingSeesawModel" "n" "I", Cond.methodLink RX3 97 yX3_wide, Cond.instanceMethod yX3_wide, Cond.selects RX3 yX3_wide yX3_wide, Cond.code yX3_wide cX3_wide 5 (some .int)]
def wsX3_wideWith_r2 : List Cond := [Cond.methodLink RX3 46 Lib.Math.min.name, Cond.static Lib.Math.min.name, Cond.initialized "java/lang/Math", Cond.code Lib.Math.min.name Lib.Math.min.code 2 (some .int), Cond.methodLink RX3 51 Lib.Math.max.name, Cond.static Lib.Math.max.name, Cond.code Lib.Math.max.name Lib.Math.max.code 2 (some .int)]
def wsX3_wideWith : List Cond := .code yX3_wideWith cX3_wideWith 3 (some .int) :: ((wsX3_wideWith_r1 ++ wsX3_wideWith_r2) ++ wsX30)
def wsX3_spreadWith_r1 : List Cond := [Cond.fieldLink RX3 26 "RingSeesawModel" "thrown" "I", Cond.methodLink RX3 70 yX3_isPlace, Cond.instanceMethod yX3_isPlace, Cond.selects RX3 yX3_isPlace yX3_isPlace, Cond.initialized RX3, Cond.code yX3_isPlace cX3_isPlace 2 (some .boolean), Cond.fieldLink RX3 7 "RingSeesawModel" "n" "I", Cond.methodLink RX3 29 yX3_isIn, Cond.static yX3_isIn, Cond.code yX3_isIn cX3_isIn 3 (some .boolean), Cond.methodLink RX3 66 yX3_no, Cond.instanceMethod yX3_no, Cond.selects RX3 yX3_no yX3_no, Cond.code yX3_no cX3_no 2 (some .int), Cond.methodLink RX3 154 yX3_wideWith, Cond.instanceMethod yX3_wideWith, Cond.selects RX3 yX3_wideWith yX3_wideWith, Cond.code yX3_wideWith cX3_wideWith 3 (some .int), Cond.fieldLink RX3 17 "RingSeesawModel" "then" "[I", Cond.methodLink RX3 145 yX3_look, Cond.instanceMethod yX3_look, Cond.selects RX3 yX3_look yX3_look, Cond.code yX3_look cX3_look 1 none, Cond.fieldLink RX3 13 "RingSeesawModel" "x" "[I"]
def wsX3_spreadWith_r2 : List Cond := [Cond.methodLink RX3 40 arraycopyName, Cond.native arraycopyName, Cond.static arraycopyName, Cond.initialized "java/lang/System", Cond.methodLink RX3 62 yX3_lean, Cond.instanceMethod yX3_lean, Cond.selects RX3 yX3_lean yX3_lean, Cond.code yX3_lean cX3_lean 4 none, Cond.methodLink RX3 36 yX3_on, Cond.instanceMethod yX3_on, Cond.selects RX3 yX3_on yX3_on, Cond.code yX3_on cX3_on 3 (some .int), Cond.methodLink RX3 97 yX3_wide, Cond.instanceMethod yX3_wide, Cond.selects RX3 yX3_wide yX3_wide, Cond.code yX3_wide cX3_wide 5 (some .int), Cond.methodLink RX3 46 Lib.Math.min.name, Cond.static Lib.Math.min.name, Cond.initialized "java/lang/Math", Cond.code Lib.Math.min.name Lib.Math.min.code 2 (some .int), Cond.methodLink RX3 51 Lib.Math.max.name, Cond.static Lib.Math.max.name, Cond.code Lib.Math.max.name Lib.Math.max.code 2 (some .int)]
def wsX3_spreadWith : List Cond := .code yX3_spreadWith cX3_spreadWith 3 (some .int) :: ((wsX3_spreadWith_r1 ++ wsX3_spreadWith_r2) ++ wsX30)
def wsX3_best_r1 : List Cond := [Cond.fieldLink RX3 13 "RingSeesawModel" "x" "[I", Cond.fieldLink RX3 7 "RingSeesawModel" "n" "I", Cond.methodLink RX3 46 Lib.Math.min.name, Cond.static Lib.Math.min.name, Cond.initialized "java/lang/Math", Cond.code Lib.Math.min.name Lib.Math.min.code 2 (some .int), Cond.methodLink RX3 97 yX3_wide, Cond.instanceMethod yX3_wide, Cond.selects RX3 yX3_wide yX3_wide, Cond.initialized RX3, Cond.code yX3_wide cX3_wide 5 (some .int), Cond.methodLink RX3 51 Lib.Math.max.name, Cond.static Lib.Math.max.name, Cond.code Lib.Math.max.name Lib.Math.max.code 2 (some .int), Cond.methodLink RX3 154 yX3_wideWith, Cond.instanceMethod yX3_wideWith, Cond.selects RX3 yX3_wideWith yX3_wideWith, Cond.code yX3_wideWith cX3_wideWith 3 (some .int), Cond.fieldLink RX3 17 "RingSeesawModel" "then" "[I", Cond.methodLink RX3 145 yX3_look, Cond.instanceMethod yX3_look, Cond.selects RX3 yX3_look yX3_look, Cond.code yX3_look cX3_look 1 none, Cond.methodLink RX3 40 arraycopyName]
def wsX3_best_r2 : List Cond := [Cond.native arraycopyName, Cond.static arraycopyName, Cond.initialized "java/lang/System", Cond.methodLink RX3 62 yX3_lean, Cond.instanceMethod yX3_lean, Cond.selects RX3 yX3_lean yX3_lean, Cond.code yX3_lean cX3_lean 4 none, Cond.methodLink RX3 36 yX3_on, Cond.instanceMethod yX3_on, Cond.selects RX3 yX3_on yX3_on, Cond.code yX3_on cX3_on 3 (some .int)]
def wsX3_best : List Cond := .code yX3_best cX3_best 5 (some .int) :: ((wsX3_best_r1 ++ wsX3_best_r2) ++ wsX30)
def wsX3_bestPlace_r1 : List Cond := [Cond.methodLink RX3 157 yX3_best, Cond.instanceMethod yX3_best, Cond.selects RX3 yX3_best yX3_best, Cond.initialized RX3, Cond.code yX3_best cX3_best 5 (some .int), Cond.fieldLink RX3 13 "RingSeesawModel" "x" "[I", Cond.fieldLink RX3 7 "RingSeesawModel" "n" "I", Cond.methodLink RX3 46 Lib.Math.min.name, Cond.static Lib.Math.min.name, Cond.initialized "java/lang/Math", Cond.code Lib.Math.min.name Lib.Math.min.code 2 (some .int), Cond.methodLink RX3 97 yX3_wide, Cond.instanceMethod yX3_wide, Cond.selects RX3 yX3_wide yX3_wide, Cond.code yX3_wide cX3_wide 5 (some .int), Cond.methodLink RX3 51 Lib.Math.max.name, Cond.static Lib.Math.max.name, Cond.code Lib.Math.max.name Lib.Math.max.code 2 (some .int), Cond.methodLink RX3 154 yX3_wideWith, Cond.instanceMethod yX3_wideWith, Cond.selects RX3 yX3_wideWith yX3_wideWith, Cond.code yX3_wideWith cX3_wideWith 3 (some .int), Cond.fieldLink RX3 17 "RingSeesawModel" "then" "[I", Cond.methodLink RX3 145 yX3_look]
def wsX3_bestPlace_r2 : List Cond := [Cond.instanceMethod yX3_look, Cond.selects RX3 yX3_look yX3_look, Cond.code yX3_look cX3_look 1 none, Cond.methodLink RX3 40 arraycopyName, Cond.native arraycopyName, Cond.static arraycopyName, Cond.initialized "java/lang/System", Cond.methodLink RX3 62 yX3_lean, Cond.instanceMethod yX3_lean, Cond.selects RX3 yX3_lean yX3_lean, Cond.code yX3_lean cX3_lean 4 none, Cond.methodLink RX3 36 yX3_on, Cond.instanceMethod yX3_on, Cond.selects RX3 yX3_on yX3_on, Cond.code yX3_on cX3_on 3 (some .int), Cond.methodLink RX3 80 yX3_ok, Cond.instanceMethod yX3_ok, Cond.selects RX3 yX3_ok yX3_ok, Cond.code yX3_ok cX3_ok 2 (some .int), Cond.fieldLink RX3 26 "RingSeesawModel" "thrown" "I"]
def wsX3_bestPlace : List Cond := .code yX3_bestPlace cX3_bestPlace 1 (some .int) :: ((wsX3_bestPlace_r1 ++ wsX3_bestPlace_r2) ++ wsX30)
def wsX3_fits : List Cond := .code yX3_fits cX3_fits 5 (some .int) :: ([.fieldLink RX3 7 "RingSeesawModel" "n" "I", .fieldLink RX3 33 "RingSeesawModel" "targets" "I", .fieldLink RX3 13 "RingSeesawModel" "x" "[I", .methodLink RX3 130 yX3_solves, .instanceMethod yX3_solves, .selects RX3 yX3_solves yX3_solves, .initialized RX3, .code yX3_solves cX3_solves 4 (some .boolean), .fieldLink RX3 23 "RingSeesawModel" "tip" "[I", .methodLink RX3 127 yX3_around, .instanceMethod yX3_around, .selects RX3 yX3_around yX3_around, .code yX3_around cX3_around 4 (some .int), .methodLink RX3 121 yX3_goal, .instanceMethod yX3_goal, .selects RX3 yX3_goal yX3_goal, .code yX3_goal cX3_goal 3 (some .int), .fieldLink RX3 20 "RingSeesawModel" "target" "[I"] ++ wsX30)
def wsX3_placeFor_r1 : List Cond := [Cond.fieldLink RX3 26 "RingSeesawModel" "thrown" "I", Cond.methodLink RX3 29 yX3_isIn, Cond.static yX3_isIn, Cond.initialized RX3, Cond.code yX3_isIn cX3_isIn 3 (some .boolean), Cond.methodLink RX3 160 yX3_fits, Cond.instanceMethod yX3_fits, Cond.selects RX3 yX3_fits yX3_fits, Cond.code yX3_fits cX3_fits 5 (some .int), Cond.fieldLink RX3 7 "RingSeesawModel" "n" "I", Cond.fieldLink RX3 33 "RingSeesawModel" "targets" "I", Cond.fieldLink RX3 13 "RingSeesawModel" "x" "[I", Cond.methodLink RX3 130 yX3_solves, Cond.instanceMethod yX3_solves, Cond.selects RX3 yX3_solves yX3_solves, Cond.code yX3_solves cX3_solves 4 (some .boolean), Cond.fieldLink RX3 23 "RingSeesawModel" "tip" "[I", Cond.methodLink RX3 127 yX3_around, Cond.instanceMethod yX3_around, Cond.selects RX3 yX3_around yX3_around, Cond.code yX3_around cX3_around 4 (some .int), Cond.methodLink RX3 121 yX3_goal, Cond.instanceMethod yX3_goal, Cond.selects RX3 yX3_goal yX3_goal]
def wsX3_placeFor_r2 : List Cond := [Cond.code yX3_goal cX3_goal 3 (some .int), Cond.fieldLink RX3 20 "RingSeesawModel" "target" "[I", Cond.methodLink RX3 66 yX3_no, Cond.instanceMethod yX3_no, Cond.selects RX3 yX3_no yX3_no, Cond.code yX3_no cX3_no 2 (some .int)]
def wsX3_placeFor : List Cond := .code yX3_placeFor cX3_placeFor 2 (some .int) :: ((wsX3_placeFor_r1 ++ wsX3_placeFor_r2) ++ wsX30)
def wsX3_meanNumber : List Cond := .code yX3_meanNumber cX3_meanNumber 1 (some .double) :: ([.fieldLink RX3 26 "RingSeesawModel" "thrown" "I", .fieldLink RX3 7 "RingSeesawModel" "n" "I", .methodLink RX3 87 yX3_sumOf, .instanceMethod yX3_sumOf, .selects RX3 yX3_sumOf yX3_sumOf, .initialized RX3, .code yX3_sumOf cX3_sumOf 3 (some .int), .fieldLink RX3 13 "RingSeesawModel" "x" "[I"] ++ wsX30)
def wsX3_digest_r1 : List Cond := [Cond.fieldLink RX3 26 "RingSeesawModel" "thrown" "I", Cond.arrayClass .int, Cond.fieldLink RX3 7 "RingSeesawModel" "n" "I", Cond.fieldLink RX3 33 "RingSeesawModel" "targets" "I", Cond.fieldLink RX3 74 "RingSeesawModel" "tips" "I", Cond.fieldLink RX3 13 "RingSeesawModel" "x" "[I", Cond.constantLong RX3 163 (2333), Cond.constantLong RX3 165 (31), Cond.methodLink RX3 87 yX3_sumOf, Cond.instanceMethod yX3_sumOf, Cond.selects RX3 yX3_sumOf yX3_sumOf, Cond.initialized RX3, Cond.code yX3_sumOf cX3_sumOf 3 (some .int), Cond.methodLink RX3 94 yX3_turning, Cond.instanceMethod yX3_turning, Cond.selects RX3 yX3_turning yX3_turning, Cond.code yX3_turning cX3_turning 3 (some .int), Cond.methodLink RX3 91 yJ9_floorMod_7cf53, Cond.static yJ9_floorMod_7cf53, Cond.initialized RJ9, Cond.code yJ9_floorMod_7cf53 cJ9_floorMod_7cf53 3 (some .int), Cond.methodLink RX3 97 yX3_wide, Cond.instanceMethod yX3_wide, Cond.selects RX3 yX3_wide yX3_wide]
def wsX3_digest_r2 : List Cond := [Cond.code yX3_wide cX3_wide 5 (some .int), Cond.methodLink RX3 46 Lib.Math.min.name, Cond.static Lib.Math.min.name, Cond.initialized "java/lang/Math", Cond.code Lib.Math.min.name Lib.Math.min.code 2 (some .int), Cond.methodLink RX3 51 Lib.Math.max.name, Cond.static Lib.Math.max.name, Cond.code Lib.Math.max.name Lib.Math.max.code 2 (some .int), Cond.methodLink RX3 100 yX3_top, Cond.instanceMethod yX3_top, Cond.selects RX3 yX3_top yX3_top, Cond.code yX3_top cX3_top 3 (some .int), Cond.methodLink RX3 106 yX3_manySteep, Cond.instanceMethod yX3_manySteep, Cond.selects RX3 yX3_manySteep yX3_manySteep, Cond.code yX3_manySteep cX3_manySteep 3 (some .int), Cond.methodLink RX3 54 yX3_steep, Cond.instanceMethod yX3_steep, Cond.selects RX3 yX3_steep yX3_steep, Cond.code yX3_steep cX3_steep 3 (some .boolean), Cond.methodLink RX3 36 yX3_on, Cond.instanceMethod yX3_on, Cond.selects RX3 yX3_on yX3_on, Cond.code yX3_on cX3_on 3 (some .int)]
def wsX3_digest_r3 : List Cond := [Cond.methodLink RX3 58 yX3_firstSteep, Cond.instanceMethod yX3_firstSteep, Cond.selects RX3 yX3_firstSteep yX3_firstSteep, Cond.code yX3_firstSteep cX3_firstSteep 3 (some .int), Cond.methodLink RX3 112 yX3_level, Cond.instanceMethod yX3_level, Cond.selects RX3 yX3_level yX3_level, Cond.code yX3_level cX3_level 3 (some .int), Cond.methodLink RX3 109 yX3_tiltOn, Cond.instanceMethod yX3_tiltOn, Cond.selects RX3 yX3_tiltOn yX3_tiltOn, Cond.code yX3_tiltOn cX3_tiltOn 4 (some .int), Cond.methodLink RX3 115 yX3_flattest, Cond.instanceMethod yX3_flattest, Cond.selects RX3 yX3_flattest yX3_flattest, Cond.code yX3_flattest cX3_flattest 3 (some .int), Cond.methodLink RX3 77 Lib.Math.abs.name, Cond.static Lib.Math.abs.name, Cond.code Lib.Math.abs.name Lib.Math.abs.code 1 (some .int), Cond.methodLink RX3 133 yX3_manySolved, Cond.instanceMethod yX3_manySolved, Cond.selects RX3 yX3_manySolved yX3_manySolved, Cond.code yX3_manySolved cX3_manySolved 3 (some .int), Cond.methodLink RX3 130 yX3_solves]
def wsX3_digest_r4 : List Cond := [Cond.instanceMethod yX3_solves, Cond.selects RX3 yX3_solves yX3_solves, Cond.code yX3_solves cX3_solves 4 (some .boolean), Cond.fieldLink RX3 23 "RingSeesawModel" "tip" "[I", Cond.methodLink RX3 127 yX3_around, Cond.instanceMethod yX3_around, Cond.selects RX3 yX3_around yX3_around, Cond.code yX3_around cX3_around 4 (some .int), Cond.methodLink RX3 121 yX3_goal, Cond.instanceMethod yX3_goal, Cond.selects RX3 yX3_goal yX3_goal, Cond.code yX3_goal cX3_goal 3 (some .int), Cond.fieldLink RX3 20 "RingSeesawModel" "target" "[I", Cond.methodLink RX3 142 yX3_near, Cond.instanceMethod yX3_near, Cond.selects RX3 yX3_near yX3_near, Cond.code yX3_near cX3_near 5 (some .int), Cond.constant RX3 138 (2147483647), Cond.methodLink RX3 139 yX3_fewest, Cond.instanceMethod yX3_fewest, Cond.selects RX3 yX3_fewest yX3_fewest, Cond.code yX3_fewest cX3_fewest 6 (some .int), Cond.methodLink RX3 148 yX3_rest, Cond.instanceMethod yX3_rest]
def wsX3_digest_r5 : List Cond := [Cond.selects RX3 yX3_rest yX3_rest, Cond.code yX3_rest cX3_rest 2 (some .int), Cond.fieldLink RX3 17 "RingSeesawModel" "then" "[I", Cond.methodLink RX3 145 yX3_look, Cond.instanceMethod yX3_look, Cond.selects RX3 yX3_look yX3_look, Cond.code yX3_look cX3_look 1 none, Cond.methodLink RX3 40 arraycopyName, Cond.native arraycopyName, Cond.static arraycopyName, Cond.initialized "java/lang/System", Cond.methodLink RX3 83 yX3_settled, Cond.instanceMethod yX3_settled, Cond.selects RX3 yX3_settled yX3_settled, Cond.code yX3_settled cX3_settled 5 (some .int), Cond.methodLink RX3 62 yX3_lean, Cond.instanceMethod yX3_lean, Cond.selects RX3 yX3_lean yX3_lean, Cond.code yX3_lean cX3_lean 4 none, Cond.methodLink RX3 151 yX3_wideAtRest, Cond.instanceMethod yX3_wideAtRest, Cond.selects RX3 yX3_wideAtRest yX3_wideAtRest, Cond.code yX3_wideAtRest cX3_wideAtRest 1 (some .int), Cond.methodLink RX3 157 yX3_best]
def wsX3_digest_r6 : List Cond := [Cond.instanceMethod yX3_best, Cond.selects RX3 yX3_best yX3_best, Cond.code yX3_best cX3_best 5 (some .int), Cond.methodLink RX3 154 yX3_wideWith, Cond.instanceMethod yX3_wideWith, Cond.selects RX3 yX3_wideWith yX3_wideWith, Cond.code yX3_wideWith cX3_wideWith 3 (some .int), Cond.methodLink RX3 160 yX3_fits, Cond.instanceMethod yX3_fits, Cond.selects RX3 yX3_fits yX3_fits, Cond.code yX3_fits cX3_fits 5 (some .int), Cond.methodLink RX3 124 yX3_others, Cond.instanceMethod yX3_others, Cond.selects RX3 yX3_others yX3_others, Cond.code yX3_others cX3_others 4 (some .int)]
def wsX3_digest : List Cond := .code yX3_digest cX3_digest 8 (some .long) :: ((wsX3_digest_r1 ++ (wsX3_digest_r2 ++ (wsX3_digest_r3 ++ (wsX3_digest_r4 ++ (wsX3_digest_r5 ++ wsX3_digest_r6))))) ++ wsX30)
def wsJ9_abs_0f7a4 : List Cond := .code yJ9_abs_0f7a4 cJ9_abs_0f7a4 1 (some .int) :: ([])
def wsJ9_max_7cf53 : List Cond := .code yJ9_max_7cf53 cJ9_max_7cf53 2 (some .int) :: ([])
def wsJ9_min_7cf53 : List Cond := .code yJ9_min_7cf53 cJ9_min_7cf53 2 (some .int) :: ([])
def wsL_lay_r1 : List Cond := [Cond.classLink RL 13 "java/lang/IllegalArgumentException", Cond.methodLink RL 7 yX2_lay, Cond.instanceMethod yX2_lay, Cond.selects RX2 yX2_lay yX2_lay, Cond.initialized RX2, Cond.code yX2_lay cX2_lay 3 (some .int), Cond.classLink RX2 37 "java/lang/IllegalArgumentException", Cond.initialized "java/lang/IllegalArgumentException", Cond.fieldLink RX2 10 "RingSeesaw" "ring" "LRingSeesaw$Ring;", Cond.fieldLink RX2 20 "RingSeesaw" "keptCount" "I", Cond.methodLink RX2 44 yX0_size, Cond.instanceMethod yX0_size, Cond.selects RX0 yX0_size yX0_size, Cond.initialized RX0, Cond.code yX0_size cX0_size 1 (some .int), Cond.fieldLink RX0 15 "RingSeesaw$Ring" "size" "I", Cond.methodLink RX2 48 yX0_clear, Cond.instanceMethod yX0_clear, Cond.selects RX0 yX0_clear yX0_clear, Cond.code yX0_clear cX0_clear 3 none, Cond.fieldLink RX0 9 "RingSeesaw$Ring" "numbers" "[I", Cond.methodLink RX0 19 yX0_write, Cond.instanceMethod yX0_write, Cond.selects RX0 yX0_write yX0_write]
def wsL_lay_r2 : List Cond := [Cond.code yX0_write cX0_write 3 none]
def wsL_lay : List Cond := .codeWith yL_lay cL_lay 4 (some .int) [(0, 9, 12, 13)] :: ((wsL_lay_r1 ++ wsL_lay_r2) ++ wsX20 ++ wsX00 ++ (vx_atS RX2 41 "java/lang/IllegalArgumentException" ["java/lang/RuntimeException", "java/lang/Exception"]).filter goodWord)
def wsL_put_r1 : List Cond := [Cond.classLink RL 19 "java/lang/IndexOutOfBoundsException", Cond.classLink RL 13 "java/lang/IllegalArgumentException", Cond.methodLink RL 15 yX2_put, Cond.instanceMethod yX2_put, Cond.selects RX2 yX2_put yX2_put, Cond.initialized RX2, Cond.code yX2_put cX2_put 4 (some .int), Cond.fieldLink RX2 10 "RingSeesaw" "ring" "LRingSeesaw$Ring;", Cond.methodLink RX2 52 yX2_requirePlace, Cond.instanceMethod yX2_requirePlace, Cond.selects RX2 yX2_requirePlace yX2_requirePlace, Cond.code yX2_requirePlace cX2_requirePlace 2 none, Cond.classLink RX2 221 "java/lang/IndexOutOfBoundsException", Cond.initialized "java/lang/IndexOutOfBoundsException", Cond.methodLink RX2 44 yX0_size, Cond.instanceMethod yX0_size, Cond.selects RX0 yX0_size yX0_size, Cond.initialized RX0, Cond.code yX0_size cX0_size 1 (some .int), Cond.fieldLink RX0 15 "RingSeesaw$Ring" "size" "I", Cond.methodLink RX2 55 yX2_requireNumber, Cond.instanceMethod yX2_requireNumber, Cond.selects RX2 yX2_requireNumber yX2_requireNumber, Cond.code yX2_requireNumber cX2_requireNumber 2 none]
def wsL_put_r2 : List Cond := [Cond.classLink RX2 37 "java/lang/IllegalArgumentException", Cond.initialized "java/lang/IllegalArgumentException", Cond.methodLink RX2 58 yX0_at, Cond.instanceMethod yX0_at, Cond.selects RX0 yX0_at yX0_at, Cond.code yX0_at cX0_at 2 (some .int), Cond.fieldLink RX0 9 "RingSeesaw$Ring" "numbers" "[I", Cond.methodLink RX2 62 yX0_write, Cond.instanceMethod yX0_write, Cond.selects RX0 yX0_write yX0_write, Cond.code yX0_write cX0_write 3 none]
def wsL_put : List Cond := .codeWith yL_put cL_put 5 (some .int) [(0, 10, 13, 19), (0, 10, 17, 13)] :: ((wsL_put_r1 ++ wsL_put_r2) ++ wsX20 ++ wsX00 ++ (vx_atS RX2 225 "java/lang/IndexOutOfBoundsException" ["java/lang/RuntimeException", "java/lang/Exception"]).filter goodWord ++ (vx_atS RX2 41 "java/lang/IllegalArgumentException" ["java/lang/RuntimeException", "java/lang/Exception"]).filter goodWord)
def wsL_tip_r1 : List Cond := [Cond.classLink RL 19 "java/lang/IndexOutOfBoundsException", Cond.classLink RL 13 "java/lang/IllegalArgumentException", Cond.methodLink RL 21 yX2_tip, Cond.instanceMethod yX2_tip, Cond.selects RX2 yX2_tip yX2_tip, Cond.initialized RX2, Cond.code yX2_tip cX2_tip 3 (some .int), Cond.fieldLink RX2 10 "RingSeesaw" "ring" "LRingSeesaw$Ring;", Cond.fieldLink RX2 24 "RingSeesaw" "tipsDone" "I", Cond.methodLink RX2 72 Lib.Math.abs.name, Cond.static Lib.Math.abs.name, Cond.initialized "java/lang/Math", Cond.code Lib.Math.abs.name Lib.Math.abs.code 1 (some .int), Cond.methodLink RX2 52 yX2_requirePlace, Cond.instanceMethod yX2_requirePlace, Cond.selects RX2 yX2_requirePlace yX2_requirePlace, Cond.code yX2_requirePlace cX2_requirePlace 2 none, Cond.classLink RX2 221 "java/lang/IndexOutOfBoundsException", Cond.initialized "java/lang/IndexOutOfBoundsException", Cond.methodLink RX2 44 yX0_size, Cond.instanceMethod yX0_size, Cond.selects RX0 yX0_size yX0_size, Cond.initialized RX0, Cond.code yX0_size cX0_size 1 (some .int)]
def wsL_tip_r2 : List Cond := [Cond.fieldLink RX0 15 "RingSeesaw$Ring" "size" "I", Cond.methodLink RX2 66 yX2_requireTimes, Cond.instanceMethod yX2_requireTimes, Cond.selects RX2 yX2_requireTimes yX2_requireTimes, Cond.code yX2_requireTimes cX2_requireTimes 2 none, Cond.classLink RX2 37 "java/lang/IllegalArgumentException", Cond.initialized "java/lang/IllegalArgumentException", Cond.methodLink RX2 69 yX0_tipBy, Cond.instanceMethod yX0_tipBy, Cond.selects RX0 yX0_tipBy yX0_tipBy, Cond.code yX0_tipBy cX0_tipBy 3 none, Cond.methodLink RX0 27 yX0_add, Cond.instanceMethod yX0_add, Cond.selects RX0 yX0_add yX0_add, Cond.code yX0_add cX0_add 3 none, Cond.methodLink RX0 23 yX0_at, Cond.instanceMethod yX0_at, Cond.selects RX0 yX0_at yX0_at, Cond.code yX0_at cX0_at 2 (some .int), Cond.fieldLink RX0 9 "RingSeesaw$Ring" "numbers" "[I", Cond.methodLink RX0 19 yX0_write, Cond.instanceMethod yX0_write, Cond.selects RX0 yX0_write yX0_write, Cond.code yX0_write cX0_write 3 none]
def wsL_tip_r3 : List Cond := [Cond.methodLink RX0 30 yX0_onRing, Cond.instanceMethod yX0_onRing, Cond.selects RX0 yX0_onRing yX0_onRing, Cond.code yX0_onRing cX0_onRing 2 (some .int), Cond.methodLink RX2 58 yX0_at]
def wsL_tip : List Cond := .codeWith yL_tip cL_tip 5 (some .int) [(0, 10, 13, 19), (0, 10, 17, 13)] :: ((wsL_tip_r1 ++ (wsL_tip_r2 ++ wsL_tip_r3)) ++ wsX20 ++ wsX00 ++ (vx_atS RX2 225 "java/lang/IndexOutOfBoundsException" ["java/lang/RuntimeException", "java/lang/Exception"]).filter goodWord ++ (vx_atS RX2 41 "java/lang/IllegalArgumentException" ["java/lang/RuntimeException", "java/lang/Exception"]).filter goodWord)
def wsL_keep_r1 : List Cond := [Cond.classLink RL 28 "java/lang/IllegalStateException", Cond.methodLink RL 24 yX2_keep, Cond.instanceMethod yX2_keep, Cond.selects RX2 yX2_keep yX2_keep, Cond.initialized RX2, Cond.code yX2_keep cX2_keep 2 (some .int), Cond.classLink RX2 80 "java/lang/IllegalStateException", Cond.initialized "java/lang/IllegalStateException", Cond.fieldLink RX2 20 "RingSeesaw" "keptCount" "I", Cond.fieldLink RX2 10 "RingSeesaw" "ring" "LRingSeesaw$Ring;", Cond.methodLink RX2 85 yX2_keptRing, Cond.instanceMethod yX2_keptRing, Cond.selects RX2 yX2_keptRing yX2_keptRing, Cond.code yX2_keptRing cX2_keptRing 3 (some (.object "RingSeesaw$Ring")), Cond.classLink RX2 221 "java/lang/IndexOutOfBoundsException", Cond.initialized "java/lang/IndexOutOfBoundsException", Cond.fieldLink RX2 16 "RingSeesaw" "kept" "[LRingSeesaw$Ring;", Cond.methodLink RX2 89 yX0_copyFrom, Cond.instanceMethod yX0_copyFrom, Cond.selects RX0 yX0_copyFrom yX0_copyFrom, Cond.initialized RX0, Cond.code yX0_copyFrom cX0_copyFrom 3 none, Cond.fieldLink RX0 15 "RingSeesaw$Ring" "size" "I", Cond.fieldLink RX0 9 "RingSeesaw$Ring" "numbers" "[I"]
def wsL_keep_r2 : List Cond := [Cond.methodLink RX0 23 yX0_at, Cond.instanceMethod yX0_at, Cond.selects RX0 yX0_at yX0_at, Cond.code yX0_at cX0_at 2 (some .int), Cond.methodLink RX0 19 yX0_write, Cond.instanceMethod yX0_write, Cond.selects RX0 yX0_write yX0_write, Cond.code yX0_write cX0_write 3 none]
def wsL_keep : List Cond := .codeWith yL_keep cL_keep 3 (some .int) [(0, 8, 11, 28)] :: ((wsL_keep_r1 ++ wsL_keep_r2) ++ wsX20 ++ wsX00 ++ (vx_atS RX2 84 "java/lang/IllegalStateException" ["java/lang/RuntimeException", "java/lang/Exception"]).filter goodWord ++ (vx_atS RX2 225 "java/lang/IndexOutOfBoundsException" ["java/lang/RuntimeException", "java/lang/Exception"]).filter goodWord)
def wsL_settle_r1 : List Cond := [Cond.classLink RL 13 "java/lang/IllegalArgumentException", Cond.methodLink RL 30 yX2_settle, Cond.instanceMethod yX2_settle, Cond.selects RX2 yX2_settle yX2_settle, Cond.initialized RX2, Cond.code yX2_settle cX2_settle 3 (some .int), Cond.classLink RX2 37 "java/lang/IllegalArgumentException", Cond.initialized "java/lang/IllegalArgumentException", Cond.fieldLink RX2 10 "RingSeesaw" "ring" "LRingSeesaw$Ring;", Cond.fieldLink RX2 24 "RingSeesaw" "tipsDone" "I", Cond.methodLink RX2 95 yX0_settleBy, Cond.instanceMethod yX0_settleBy, Cond.selects RX0 yX0_settleBy yX0_settleBy, Cond.initialized RX0, Cond.code yX0_settleBy cX0_settleBy 4 (some .int), Cond.methodLink RX0 33 yX0_firstSteep, Cond.instanceMethod yX0_firstSteep, Cond.selects RX0 yX0_firstSteep yX0_firstSteep, Cond.code yX0_firstSteep cX0_firstSteep 2 (some .int), Cond.fieldLink RX0 15 "RingSeesaw$Ring" "size" "I", Cond.methodLink RX0 52 yX0_steepAt, Cond.instanceMethod yX0_steepAt, Cond.selects RX0 yX0_steepAt yX0_steepAt, Cond.code yX0_steepAt cX0_steepAt 2 (some .boolean)]
def wsL_settle_r2 : List Cond := [Cond.methodLink RX0 23 yX0_at, Cond.instanceMethod yX0_at, Cond.selects RX0 yX0_at yX0_at, Cond.code yX0_at cX0_at 2 (some .int), Cond.fieldLink RX0 9 "RingSeesaw$Ring" "numbers" "[I", Cond.methodLink RX0 30 yX0_onRing, Cond.instanceMethod yX0_onRing, Cond.selects RX0 yX0_onRing yX0_onRing, Cond.code yX0_onRing cX0_onRing 2 (some .int), Cond.methodLink RX0 37 yX0_tipBy, Cond.instanceMethod yX0_tipBy, Cond.selects RX0 yX0_tipBy yX0_tipBy, Cond.code yX0_tipBy cX0_tipBy 3 none, Cond.methodLink RX0 27 yX0_add, Cond.instanceMethod yX0_add, Cond.selects RX0 yX0_add yX0_add, Cond.code yX0_add cX0_add 3 none, Cond.methodLink RX0 19 yX0_write, Cond.instanceMethod yX0_write, Cond.selects RX0 yX0_write yX0_write, Cond.code yX0_write cX0_write 3 none]
def wsL_settle : List Cond := .codeWith yL_settle cL_settle 4 (some .int) [(0, 9, 12, 13)] :: ((wsL_settle_r1 ++ wsL_settle_r2) ++ wsX20 ++ wsX00 ++ (vx_atS RX2 41 "java/lang/IllegalArgumentException" ["java/lang/RuntimeException", "java/lang/Exception"]).filter goodWord)
def wsL_reach_r1 : List Cond := [Cond.classLink RL 19 "java/lang/IndexOutOfBoundsException", Cond.classLink RL 28 "java/lang/IllegalStateException", Cond.methodLink RL 33 yX2_reach, Cond.instanceMethod yX2_reach, Cond.selects RX2 yX2_reach yX2_reach, Cond.initialized RX2, Cond.code yX2_reach cX2_reach 4 (some .int), Cond.fieldLink RX2 10 "RingSeesaw" "ring" "LRingSeesaw$Ring;", Cond.fieldLink RX2 24 "RingSeesaw" "tipsDone" "I", Cond.methodLink RX2 85 yX2_keptRing, Cond.instanceMethod yX2_keptRing, Cond.selects RX2 yX2_keptRing yX2_keptRing, Cond.code yX2_keptRing cX2_keptRing 3 (some (.object "RingSeesaw$Ring")), Cond.classLink RX2 221 "java/lang/IndexOutOfBoundsException", Cond.initialized "java/lang/IndexOutOfBoundsException", Cond.fieldLink RX2 20 "RingSeesaw" "keptCount" "I", Cond.fieldLink RX2 16 "RingSeesaw" "kept" "[LRingSeesaw$Ring;", Cond.methodLink RX2 98 yX2_requireWayTo, Cond.instanceMethod yX2_requireWayTo, Cond.selects RX2 yX2_requireWayTo yX2_requireWayTo, Cond.code yX2_requireWayTo cX2_requireWayTo 2 none, Cond.classLink RX2 80 "java/lang/IllegalStateException", Cond.initialized "java/lang/IllegalStateException", Cond.methodLink RX2 130 yX0_canBecome]
def wsL_reach_r2 : List Cond := [Cond.instanceMethod yX0_canBecome, Cond.selects RX0 yX0_canBecome yX0_canBecome, Cond.initialized RX0, Cond.code yX0_canBecome cX0_canBecome 2 (some .boolean), Cond.methodLink RX0 56 yX0_total, Cond.instanceMethod yX0_total, Cond.selects RX0 yX0_total yX0_total, Cond.code yX0_total cX0_total 3 (some .int), Cond.fieldLink RX0 15 "RingSeesaw$Ring" "size" "I", Cond.methodLink RX0 23 yX0_at, Cond.instanceMethod yX0_at, Cond.selects RX0 yX0_at yX0_at, Cond.code yX0_at cX0_at 2 (some .int), Cond.fieldLink RX0 9 "RingSeesaw$Ring" "numbers" "[I", Cond.methodLink RX0 59 yX0_momentLeft, Cond.instanceMethod yX0_momentLeft, Cond.selects RX0 yX0_momentLeft yX0_momentLeft, Cond.code yX0_momentLeft cX0_momentLeft 3 (some .int), Cond.methodLink RX0 40 yJ9_floorMod_7cf53, Cond.static yJ9_floorMod_7cf53, Cond.initialized RJ9, Cond.code yJ9_floorMod_7cf53 cJ9_floorMod_7cf53 3 (some .int), Cond.methodLink RX2 101 yX2_fewestTo, Cond.instanceMethod yX2_fewestTo]
def wsL_reach_r3 : List Cond := [Cond.selects RX2 yX2_fewestTo yX2_fewestTo, Cond.code yX2_fewestTo cX2_fewestTo 2 (some .int), Cond.fieldLink RX2 33 "RingSeesaw" "way" "LRingSeesaw$Way;", Cond.methodLink RX2 134 yX1_find, Cond.instanceMethod yX1_find, Cond.selects RX1 yX1_find yX1_find, Cond.initialized RX1, Cond.code yX1_find cX1_find 6 none, Cond.fieldLink RX1 15 "RingSeesaw$Way" "size" "I", Cond.fieldLink RX1 9 "RingSeesaw$Way" "tips" "[I", Cond.methodLink RX1 19 yX0_size, Cond.instanceMethod yX0_size, Cond.selects RX0 yX0_size yX0_size, Cond.code yX0_size cX0_size 1 (some .int), Cond.methodLink RX1 24 yX1_firstClimb, Cond.instanceMethod yX1_firstClimb, Cond.selects RX1 yX1_firstClimb yX1_firstClimb, Cond.code yX1_firstClimb cX1_firstClimb 5 (some .int), Cond.methodLink RX1 28 yX0_at, Cond.methodLink RX2 234 yX1_fewest, Cond.instanceMethod yX1_fewest, Cond.selects RX1 yX1_fewest yX1_fewest, Cond.code yX1_fewest cX1_fewest 3 (some .int), Cond.methodLink RX1 38 Lib.Math.min.name]
def wsL_reach_r4 : List Cond := [Cond.static Lib.Math.min.name, Cond.initialized "java/lang/Math", Cond.code Lib.Math.min.name Lib.Math.min.code 2 (some .int), Cond.methodLink RX1 32 yX1_tipsAt, Cond.instanceMethod yX1_tipsAt, Cond.selects RX1 yX1_tipsAt yX1_tipsAt, Cond.code yX1_tipsAt cX1_tipsAt 2 (some .int), Cond.methodLink RX1 35 yX1_awayFrom, Cond.instanceMethod yX1_awayFrom, Cond.selects RX1 yX1_awayFrom yX1_awayFrom, Cond.code yX1_awayFrom cX1_awayFrom 4 (some .int), Cond.methodLink RX1 44 Lib.Math.abs.name, Cond.static Lib.Math.abs.name, Cond.code Lib.Math.abs.name Lib.Math.abs.code 1 (some .int), Cond.methodLink RX2 89 yX0_copyFrom, Cond.instanceMethod yX0_copyFrom, Cond.selects RX0 yX0_copyFrom yX0_copyFrom, Cond.code yX0_copyFrom cX0_copyFrom 3 none, Cond.methodLink RX0 19 yX0_write, Cond.instanceMethod yX0_write, Cond.selects RX0 yX0_write yX0_write, Cond.code yX0_write cX0_write 3 none]
def wsL_reach : List Cond := .codeWith yL_reach cL_reach 4 (some .int) [(0, 9, 12, 19), (0, 9, 15, 28)] :: ((wsL_reach_r1 ++ (wsL_reach_r2 ++ (wsL_reach_r3 ++ wsL_reach_r4))) ++ wsX20 ++ wsX00 ++ wsX10 ++ (vx_atS RX2 225 "java/lang/IndexOutOfBoundsException" ["java/lang/RuntimeException", "java/lang/Exception"]).filter goodWord ++ (vx_atS RX2 84 "java/lang/IllegalStateException" ["java/lang/RuntimeException", "java/lang/Exception"]).filter goodWord)
def wsL_numberAt : List Cond := .codeWith yL_numberAt cL_numberAt 4 (some .int) [(0, 9, 12, 19)] :: ([.classLink RL 19 "java/lang/IndexOutOfBoundsException", .methodLink RL 36 yX2_numberAt, .instanceMethod yX2_numberAt, .selects RX2 yX2_numberAt yX2_numberAt, .initialized RX2, .code yX2_numberAt cX2_numberAt 2 (some .int), .fieldLink RX2 10 "RingSeesaw" "ring" "LRingSeesaw$Ring;", .methodLink RX2 52 yX2_requirePlace, .instanceMethod yX2_requirePlace, .selects RX2 yX2_requirePlace yX2_requirePlace, .code yX2_requirePlace cX2_requirePlace 2 none, .classLink RX2 221 "java/lang/IndexOutOfBoundsException", .initialized "java/lang/IndexOutOfBoundsException", .methodLink RX2 44 yX0_size, .instanceMethod yX0_size, .selects RX0 yX0_size yX0_size, .initialized RX0, .code yX0_size cX0_size 1 (some .int), .fieldLink RX0 15 "RingSeesaw$Ring" "size" "I", .methodLink RX2 58 yX0_at, .instanceMethod yX0_at, .selects RX0 yX0_at yX0_at, .code yX0_at cX0_at 2 (some .int), .fieldLink RX0 9 "RingSeesaw$Ring" "numbers" "[I"] ++ wsX20 ++ wsX00 ++ (vx_atS RX2 225 "java/lang/IndexOutOfBoundsException" ["java/lang/RuntimeException", "java/lang/Exception"]).filter goodWord)
def wsL_isSteep_r1 : List Cond := [Cond.classLink RL 19 "java/lang/IndexOutOfBoundsException", Cond.methodLink RL 39 yX2_isSteep, Cond.instanceMethod yX2_isSteep, Cond.selects RX2 yX2_isSteep yX2_isSteep, Cond.initialized RX2, Cond.code yX2_isSteep cX2_isSteep 2 (some .boolean), Cond.fieldLink RX2 10 "RingSeesaw" "ring" "LRingSeesaw$Ring;", Cond.methodLink RX2 52 yX2_requirePlace, Cond.instanceMethod yX2_requirePlace, Cond.selects RX2 yX2_requirePlace yX2_requirePlace, Cond.code yX2_requirePlace cX2_requirePlace 2 none, Cond.classLink RX2 221 "java/lang/IndexOutOfBoundsException", Cond.initialized "java/lang/IndexOutOfBoundsException", Cond.methodLink RX2 44 yX0_size, Cond.instanceMethod yX0_size, Cond.selects RX0 yX0_size yX0_size, Cond.initialized RX0, Cond.code yX0_size cX0_size 1 (some .int), Cond.fieldLink RX0 15 "RingSeesaw$Ring" "size" "I", Cond.methodLink RX2 117 yX0_steepAt, Cond.instanceMethod yX0_steepAt, Cond.selects RX0 yX0_steepAt yX0_steepAt, Cond.code yX0_steepAt cX0_steepAt 2 (some .boolean), Cond.methodLink RX0 23 yX0_at]
def wsL_isSteep_r2 : List Cond := [Cond.instanceMethod yX0_at, Cond.selects RX0 yX0_at yX0_at, Cond.code yX0_at cX0_at 2 (some .int), Cond.fieldLink RX0 9 "RingSeesaw$Ring" "numbers" "[I", Cond.methodLink RX0 30 yX0_onRing, Cond.instanceMethod yX0_onRing, Cond.selects RX0 yX0_onRing yX0_onRing, Cond.code yX0_onRing cX0_onRing 2 (some .int)]
def wsL_isSteep : List Cond := .codeWith yL_isSteep cL_isSteep 4 (some .int) [(0, 16, 19, 19)] :: ((wsL_isSteep_r1 ++ wsL_isSteep_r2) ++ wsX20 ++ wsX00 ++ (vx_atS RX2 225 "java/lang/IndexOutOfBoundsException" ["java/lang/RuntimeException", "java/lang/Exception"]).filter goodWord)
def wsL_tilt_r1 : List Cond := [Cond.classLink RL 19 "java/lang/IndexOutOfBoundsException", Cond.methodLink RL 43 yX2_tilt, Cond.instanceMethod yX2_tilt, Cond.selects RX2 yX2_tilt yX2_tilt, Cond.initialized RX2, Cond.code yX2_tilt cX2_tilt 2 (some .int), Cond.fieldLink RX2 10 "RingSeesaw" "ring" "LRingSeesaw$Ring;", Cond.methodLink RX2 52 yX2_requirePlace, Cond.instanceMethod yX2_requirePlace, Cond.selects RX2 yX2_requirePlace yX2_requirePlace, Cond.code yX2_requirePlace cX2_requirePlace 2 none, Cond.classLink RX2 221 "java/lang/IndexOutOfBoundsException", Cond.initialized "java/lang/IndexOutOfBoundsException", Cond.methodLink RX2 44 yX0_size, Cond.instanceMethod yX0_size, Cond.selects RX0 yX0_size yX0_size, Cond.initialized RX0, Cond.code yX0_size cX0_size 1 (some .int), Cond.fieldLink RX0 15 "RingSeesaw$Ring" "size" "I", Cond.methodLink RX2 124 yX0_tiltOn, Cond.instanceMethod yX0_tiltOn, Cond.selects RX0 yX0_tiltOn yX0_tiltOn, Cond.code yX0_tiltOn cX0_tiltOn 4 (some .int), Cond.methodLink RX0 30 yX0_onRing]
def wsL_tilt_r2 : List Cond := [Cond.instanceMethod yX0_onRing, Cond.selects RX0 yX0_onRing yX0_onRing, Cond.code yX0_onRing cX0_onRing 2 (some .int), Cond.methodLink RX0 23 yX0_at, Cond.instanceMethod yX0_at, Cond.selects RX0 yX0_at yX0_at, Cond.code yX0_at cX0_at 2 (some .int), Cond.fieldLink RX0 9 "RingSeesaw$Ring" "numbers" "[I"]
def wsL_tilt : List Cond := .codeWith yL_tilt cL_tilt 4 (some .int) [(0, 9, 12, 19)] :: ((wsL_tilt_r1 ++ wsL_tilt_r2) ++ wsX20 ++ wsX00 ++ (vx_atS RX2 225 "java/lang/IndexOutOfBoundsException" ["java/lang/RuntimeException", "java/lang/Exception"]).filter goodWord)
def wsL_numberIn_r1 : List Cond := [Cond.classLink RL 19 "java/lang/IndexOutOfBoundsException", Cond.methodLink RL 46 yX2_numberIn, Cond.instanceMethod yX2_numberIn, Cond.selects RX2 yX2_numberIn yX2_numberIn, Cond.initialized RX2, Cond.code yX2_numberIn cX2_numberIn 4 (some .int), Cond.methodLink RX2 85 yX2_keptRing, Cond.instanceMethod yX2_keptRing, Cond.selects RX2 yX2_keptRing yX2_keptRing, Cond.code yX2_keptRing cX2_keptRing 3 (some (.object "RingSeesaw$Ring")), Cond.classLink RX2 221 "java/lang/IndexOutOfBoundsException", Cond.initialized "java/lang/IndexOutOfBoundsException", Cond.fieldLink RX2 20 "RingSeesaw" "keptCount" "I", Cond.fieldLink RX2 16 "RingSeesaw" "kept" "[LRingSeesaw$Ring;", Cond.methodLink RX2 52 yX2_requirePlace, Cond.instanceMethod yX2_requirePlace, Cond.selects RX2 yX2_requirePlace yX2_requirePlace, Cond.code yX2_requirePlace cX2_requirePlace 2 none, Cond.fieldLink RX2 10 "RingSeesaw" "ring" "LRingSeesaw$Ring;", Cond.methodLink RX2 44 yX0_size, Cond.instanceMethod yX0_size, Cond.selects RX0 yX0_size yX0_size, Cond.initialized RX0, Cond.code yX0_size cX0_size 1 (some .int)]
def wsL_numberIn_r2 : List Cond := [Cond.fieldLink RX0 15 "RingSeesaw$Ring" "size" "I", Cond.methodLink RX2 58 yX0_at, Cond.instanceMethod yX0_at, Cond.selects RX0 yX0_at yX0_at, Cond.code yX0_at cX0_at 2 (some .int), Cond.fieldLink RX0 9 "RingSeesaw$Ring" "numbers" "[I"]
def wsL_numberIn : List Cond := .codeWith yL_numberIn cL_numberIn 5 (some .int) [(0, 10, 13, 19)] :: ((wsL_numberIn_r1 ++ wsL_numberIn_r2) ++ wsX20 ++ wsX00 ++ (vx_atS RX2 225 "java/lang/IndexOutOfBoundsException" ["java/lang/RuntimeException", "java/lang/Exception"]).filter goodWord)
def wsL_differences_r1 : List Cond := [Cond.classLink RL 19 "java/lang/IndexOutOfBoundsException", Cond.methodLink RL 49 yX2_differences, Cond.instanceMethod yX2_differences, Cond.selects RX2 yX2_differences yX2_differences, Cond.initialized RX2, Cond.code yX2_differences cX2_differences 2 (some .int), Cond.fieldLink RX2 10 "RingSeesaw" "ring" "LRingSeesaw$Ring;", Cond.methodLink RX2 85 yX2_keptRing, Cond.instanceMethod yX2_keptRing, Cond.selects RX2 yX2_keptRing yX2_keptRing, Cond.code yX2_keptRing cX2_keptRing 3 (some (.object "RingSeesaw$Ring")), Cond.classLink RX2 221 "java/lang/IndexOutOfBoundsException", Cond.initialized "java/lang/IndexOutOfBoundsException", Cond.fieldLink RX2 20 "RingSeesaw" "keptCount" "I", Cond.fieldLink RX2 16 "RingSeesaw" "kept" "[LRingSeesaw$Ring;", Cond.methodLink RX2 127 yX0_differencesFrom, Cond.instanceMethod yX0_differencesFrom, Cond.selects RX0 yX0_differencesFrom yX0_differencesFrom, Cond.initialized RX0, Cond.code yX0_differencesFrom cX0_differencesFrom 4 (some .int), Cond.fieldLink RX0 15 "RingSeesaw$Ring" "size" "I", Cond.methodLink RX0 23 yX0_at, Cond.instanceMethod yX0_at, Cond.selects RX0 yX0_at yX0_at]
def wsL_differences_r2 : List Cond := [Cond.code yX0_at cX0_at 2 (some .int), Cond.fieldLink RX0 9 "RingSeesaw$Ring" "numbers" "[I"]
def wsL_differences : List Cond := .codeWith yL_differences cL_differences 4 (some .int) [(0, 9, 12, 19)] :: ((wsL_differences_r1 ++ wsL_differences_r2) ++ wsX20 ++ wsX00 ++ (vx_atS RX2 225 "java/lang/IndexOutOfBoundsException" ["java/lang/RuntimeException", "java/lang/Exception"]).filter goodWord)
def wsL_canReach_r1 : List Cond := [Cond.classLink RL 19 "java/lang/IndexOutOfBoundsException", Cond.methodLink RL 52 yX2_canReach, Cond.instanceMethod yX2_canReach, Cond.selects RX2 yX2_canReach yX2_canReach, Cond.initialized RX2, Cond.code yX2_canReach cX2_canReach 2 (some .boolean), Cond.fieldLink RX2 10 "RingSeesaw" "ring" "LRingSeesaw$Ring;", Cond.methodLink RX2 85 yX2_keptRing, Cond.instanceMethod yX2_keptRing, Cond.selects RX2 yX2_keptRing yX2_keptRing, Cond.code yX2_keptRing cX2_keptRing 3 (some (.object "RingSeesaw$Ring")), Cond.classLink RX2 221 "java/lang/IndexOutOfBoundsException", Cond.initialized "java/lang/IndexOutOfBoundsException", Cond.fieldLink RX2 20 "RingSeesaw" "keptCount" "I", Cond.fieldLink RX2 16 "RingSeesaw" "kept" "[LRingSeesaw$Ring;", Cond.methodLink RX2 130 yX0_canBecome, Cond.instanceMethod yX0_canBecome, Cond.selects RX0 yX0_canBecome yX0_canBecome, Cond.initialized RX0, Cond.code yX0_canBecome cX0_canBecome 2 (some .boolean), Cond.methodLink RX0 56 yX0_total, Cond.instanceMethod yX0_total, Cond.selects RX0 yX0_total yX0_total, Cond.code yX0_total cX0_total 3 (some .int)]
def wsL_canReach_r2 : List Cond := [Cond.fieldLink RX0 15 "RingSeesaw$Ring" "size" "I", Cond.methodLink RX0 23 yX0_at, Cond.instanceMethod yX0_at, Cond.selects RX0 yX0_at yX0_at, Cond.code yX0_at cX0_at 2 (some .int), Cond.fieldLink RX0 9 "RingSeesaw$Ring" "numbers" "[I", Cond.methodLink RX0 59 yX0_momentLeft, Cond.instanceMethod yX0_momentLeft, Cond.selects RX0 yX0_momentLeft yX0_momentLeft, Cond.code yX0_momentLeft cX0_momentLeft 3 (some .int), Cond.methodLink RX0 40 yJ9_floorMod_7cf53, Cond.static yJ9_floorMod_7cf53, Cond.initialized RJ9, Cond.code yJ9_floorMod_7cf53 cJ9_floorMod_7cf53 3 (some .int)]
def wsL_canReach : List Cond := .codeWith yL_canReach cL_canReach 4 (some .int) [(0, 16, 19, 19)] :: ((wsL_canReach_r1 ++ wsL_canReach_r2) ++ wsX20 ++ wsX00 ++ (vx_atS RX2 225 "java/lang/IndexOutOfBoundsException" ["java/lang/RuntimeException", "java/lang/Exception"]).filter goodWord)
def wsL_tipsTo_r1 : List Cond := [Cond.classLink RL 19 "java/lang/IndexOutOfBoundsException", Cond.classLink RL 28 "java/lang/IllegalStateException", Cond.methodLink RL 55 yX2_tipsTo, Cond.instanceMethod yX2_tipsTo, Cond.selects RX2 yX2_tipsTo yX2_tipsTo, Cond.initialized RX2, Cond.code yX2_tipsTo cX2_tipsTo 4 (some .int), Cond.fieldLink RX2 33 "RingSeesaw" "way" "LRingSeesaw$Way;", Cond.fieldLink RX2 10 "RingSeesaw" "ring" "LRingSeesaw$Ring;", Cond.methodLink RX2 85 yX2_keptRing, Cond.instanceMethod yX2_keptRing, Cond.selects RX2 yX2_keptRing yX2_keptRing, Cond.code yX2_keptRing cX2_keptRing 3 (some (.object "RingSeesaw$Ring")), Cond.classLink RX2 221 "java/lang/IndexOutOfBoundsException", Cond.initialized "java/lang/IndexOutOfBoundsException", Cond.fieldLink RX2 20 "RingSeesaw" "keptCount" "I", Cond.fieldLink RX2 16 "RingSeesaw" "kept" "[LRingSeesaw$Ring;", Cond.methodLink RX2 52 yX2_requirePlace, Cond.instanceMethod yX2_requirePlace, Cond.selects RX2 yX2_requirePlace yX2_requirePlace, Cond.code yX2_requirePlace cX2_requirePlace 2 none, Cond.methodLink RX2 44 yX0_size, Cond.instanceMethod yX0_size, Cond.selects RX0 yX0_size yX0_size]
def wsL_tipsTo_r2 : List Cond := [Cond.initialized RX0, Cond.code yX0_size cX0_size 1 (some .int), Cond.fieldLink RX0 15 "RingSeesaw$Ring" "size" "I", Cond.methodLink RX2 98 yX2_requireWayTo, Cond.instanceMethod yX2_requireWayTo, Cond.selects RX2 yX2_requireWayTo yX2_requireWayTo, Cond.code yX2_requireWayTo cX2_requireWayTo 2 none, Cond.classLink RX2 80 "java/lang/IllegalStateException", Cond.initialized "java/lang/IllegalStateException", Cond.methodLink RX2 130 yX0_canBecome, Cond.instanceMethod yX0_canBecome, Cond.selects RX0 yX0_canBecome yX0_canBecome, Cond.code yX0_canBecome cX0_canBecome 2 (some .boolean), Cond.methodLink RX0 56 yX0_total, Cond.instanceMethod yX0_total, Cond.selects RX0 yX0_total yX0_total, Cond.code yX0_total cX0_total 3 (some .int), Cond.methodLink RX0 23 yX0_at, Cond.instanceMethod yX0_at, Cond.selects RX0 yX0_at yX0_at, Cond.code yX0_at cX0_at 2 (some .int), Cond.fieldLink RX0 9 "RingSeesaw$Ring" "numbers" "[I", Cond.methodLink RX0 59 yX0_momentLeft, Cond.instanceMethod yX0_momentLeft]
def wsL_tipsTo_r3 : List Cond := [Cond.selects RX0 yX0_momentLeft yX0_momentLeft, Cond.code yX0_momentLeft cX0_momentLeft 3 (some .int), Cond.methodLink RX0 40 yJ9_floorMod_7cf53, Cond.static yJ9_floorMod_7cf53, Cond.initialized RJ9, Cond.code yJ9_floorMod_7cf53 cJ9_floorMod_7cf53 3 (some .int), Cond.methodLink RX2 134 yX1_find, Cond.instanceMethod yX1_find, Cond.selects RX1 yX1_find yX1_find, Cond.initialized RX1, Cond.code yX1_find cX1_find 6 none, Cond.fieldLink RX1 15 "RingSeesaw$Way" "size" "I", Cond.fieldLink RX1 9 "RingSeesaw$Way" "tips" "[I", Cond.methodLink RX1 19 yX0_size, Cond.methodLink RX1 24 yX1_firstClimb, Cond.instanceMethod yX1_firstClimb, Cond.selects RX1 yX1_firstClimb yX1_firstClimb, Cond.code yX1_firstClimb cX1_firstClimb 5 (some .int), Cond.methodLink RX1 28 yX0_at, Cond.methodLink RX2 138 yX1_tipsAt, Cond.instanceMethod yX1_tipsAt, Cond.selects RX1 yX1_tipsAt yX1_tipsAt, Cond.code yX1_tipsAt cX1_tipsAt 2 (some .int)]
def wsL_tipsTo : List Cond := .codeWith yL_tipsTo cL_tipsTo 5 (some .int) [(0, 10, 13, 19), (0, 10, 17, 28)] :: ((wsL_tipsTo_r1 ++ (wsL_tipsTo_r2 ++ wsL_tipsTo_r3)) ++ wsX20 ++ wsX00 ++ wsX10 ++ (vx_atS RX2 225 "java/lang/IndexOutOfBoundsException" ["java/lang/RuntimeException", "java/lang/Exception"]).filter goodWord ++ (vx_atS RX2 84 "java/lang/IllegalStateException" ["java/lang/RuntimeException", "java/lang/Exception"]).filter goodWord)
def wsL_fewestTips_r1 : List Cond := [Cond.classLink RL 19 "java/lang/IndexOutOfBoundsException", Cond.methodLink RL 58 yX2_fewestTips, Cond.instanceMethod yX2_fewestTips, Cond.selects RX2 yX2_fewestTips yX2_fewestTips, Cond.initialized RX2, Cond.code yX2_fewestTips cX2_fewestTips 2 (some .int), Cond.methodLink RX2 85 yX2_keptRing, Cond.instanceMethod yX2_keptRing, Cond.selects RX2 yX2_keptRing yX2_keptRing, Cond.code yX2_keptRing cX2_keptRing 3 (some (.object "RingSeesaw$Ring")), Cond.classLink RX2 221 "java/lang/IndexOutOfBoundsException", Cond.initialized "java/lang/IndexOutOfBoundsException", Cond.fieldLink RX2 20 "RingSeesaw" "keptCount" "I", Cond.fieldLink RX2 16 "RingSeesaw" "kept" "[LRingSeesaw$Ring;", Cond.methodLink RX2 101 yX2_fewestTo, Cond.instanceMethod yX2_fewestTo, Cond.selects RX2 yX2_fewestTo yX2_fewestTo, Cond.code yX2_fewestTo cX2_fewestTo 2 (some .int), Cond.fieldLink RX2 10 "RingSeesaw" "ring" "LRingSeesaw$Ring;", Cond.fieldLink RX2 33 "RingSeesaw" "way" "LRingSeesaw$Way;", Cond.methodLink RX2 130 yX0_canBecome, Cond.instanceMethod yX0_canBecome, Cond.selects RX0 yX0_canBecome yX0_canBecome, Cond.initialized RX0]
def wsL_fewestTips_r2 : List Cond := [Cond.code yX0_canBecome cX0_canBecome 2 (some .boolean), Cond.methodLink RX0 56 yX0_total, Cond.instanceMethod yX0_total, Cond.selects RX0 yX0_total yX0_total, Cond.code yX0_total cX0_total 3 (some .int), Cond.fieldLink RX0 15 "RingSeesaw$Ring" "size" "I", Cond.methodLink RX0 23 yX0_at, Cond.instanceMethod yX0_at, Cond.selects RX0 yX0_at yX0_at, Cond.code yX0_at cX0_at 2 (some .int), Cond.fieldLink RX0 9 "RingSeesaw$Ring" "numbers" "[I", Cond.methodLink RX0 59 yX0_momentLeft, Cond.instanceMethod yX0_momentLeft, Cond.selects RX0 yX0_momentLeft yX0_momentLeft, Cond.code yX0_momentLeft cX0_momentLeft 3 (some .int), Cond.methodLink RX0 40 yJ9_floorMod_7cf53, Cond.static yJ9_floorMod_7cf53, Cond.initialized RJ9, Cond.code yJ9_floorMod_7cf53 cJ9_floorMod_7cf53 3 (some .int), Cond.methodLink RX2 134 yX1_find, Cond.instanceMethod yX1_find, Cond.selects RX1 yX1_find yX1_find, Cond.initialized RX1, Cond.code yX1_find cX1_find 6 none]
def wsL_fewestTips_r3 : List Cond := [Cond.fieldLink RX1 15 "RingSeesaw$Way" "size" "I", Cond.fieldLink RX1 9 "RingSeesaw$Way" "tips" "[I", Cond.methodLink RX1 19 yX0_size, Cond.instanceMethod yX0_size, Cond.selects RX0 yX0_size yX0_size, Cond.code yX0_size cX0_size 1 (some .int), Cond.methodLink RX1 24 yX1_firstClimb, Cond.instanceMethod yX1_firstClimb, Cond.selects RX1 yX1_firstClimb yX1_firstClimb, Cond.code yX1_firstClimb cX1_firstClimb 5 (some .int), Cond.methodLink RX1 28 yX0_at, Cond.methodLink RX2 234 yX1_fewest, Cond.instanceMethod yX1_fewest, Cond.selects RX1 yX1_fewest yX1_fewest, Cond.code yX1_fewest cX1_fewest 3 (some .int), Cond.methodLink RX1 38 Lib.Math.min.name, Cond.static Lib.Math.min.name, Cond.initialized "java/lang/Math", Cond.code Lib.Math.min.name Lib.Math.min.code 2 (some .int), Cond.methodLink RX1 32 yX1_tipsAt, Cond.instanceMethod yX1_tipsAt, Cond.selects RX1 yX1_tipsAt yX1_tipsAt, Cond.code yX1_tipsAt cX1_tipsAt 2 (some .int), Cond.methodLink RX1 35 yX1_awayFrom]
def wsL_fewestTips_r4 : List Cond := [Cond.instanceMethod yX1_awayFrom, Cond.selects RX1 yX1_awayFrom yX1_awayFrom, Cond.code yX1_awayFrom cX1_awayFrom 4 (some .int), Cond.methodLink RX1 44 Lib.Math.abs.name, Cond.static Lib.Math.abs.name, Cond.code Lib.Math.abs.name Lib.Math.abs.code 1 (some .int)]
def wsL_fewestTips : List Cond := .codeWith yL_fewestTips cL_fewestTips 4 (some .int) [(0, 9, 12, 19)] :: ((wsL_fewestTips_r1 ++ (wsL_fewestTips_r2 ++ (wsL_fewestTips_r3 ++ wsL_fewestTips_r4))) ++ wsX20 ++ wsX00 ++ wsX10 ++ (vx_atS RX2 225 "java/lang/IndexOutOfBoundsException" ["java/lang/RuntimeException", "java/lang/Exception"]).filter goodWord)
def wsL_spreadWith_r1 : List Cond := [Cond.classLink RL 19 "java/lang/IndexOutOfBoundsException", Cond.classLink RL 13 "java/lang/IllegalArgumentException", Cond.methodLink RL 61 yX2_spreadWith, Cond.instanceMethod yX2_spreadWith, Cond.selects RX2 yX2_spreadWith yX2_spreadWith, Cond.initialized RX2, Cond.code yX2_spreadWith cX2_spreadWith 3 (some .int), Cond.methodLink RX2 52 yX2_requirePlace, Cond.instanceMethod yX2_requirePlace, Cond.selects RX2 yX2_requirePlace yX2_requirePlace, Cond.code yX2_requirePlace cX2_requirePlace 2 none, Cond.classLink RX2 221 "java/lang/IndexOutOfBoundsException", Cond.initialized "java/lang/IndexOutOfBoundsException", Cond.fieldLink RX2 10 "RingSeesaw" "ring" "LRingSeesaw$Ring;", Cond.methodLink RX2 44 yX0_size, Cond.instanceMethod yX0_size, Cond.selects RX0 yX0_size yX0_size, Cond.initialized RX0, Cond.code yX0_size cX0_size 1 (some .int), Cond.fieldLink RX0 15 "RingSeesaw$Ring" "size" "I", Cond.methodLink RX2 66 yX2_requireTimes, Cond.instanceMethod yX2_requireTimes, Cond.selects RX2 yX2_requireTimes yX2_requireTimes, Cond.code yX2_requireTimes cX2_requireTimes 2 none]
def wsL_spreadWith_r2 : List Cond := [Cond.classLink RX2 37 "java/lang/IllegalArgumentException", Cond.initialized "java/lang/IllegalArgumentException", Cond.methodLink RX2 144 yX2_spanAfter, Cond.instanceMethod yX2_spanAfter, Cond.selects RX2 yX2_spanAfter yX2_spanAfter, Cond.code yX2_spanAfter cX2_spanAfter 3 (some .int), Cond.fieldLink RX2 27 "RingSeesaw" "trial" "LRingSeesaw$Ring;", Cond.methodLink RX2 89 yX0_copyFrom, Cond.instanceMethod yX0_copyFrom, Cond.selects RX0 yX0_copyFrom yX0_copyFrom, Cond.code yX0_copyFrom cX0_copyFrom 3 none, Cond.fieldLink RX0 9 "RingSeesaw$Ring" "numbers" "[I", Cond.methodLink RX0 23 yX0_at, Cond.instanceMethod yX0_at, Cond.selects RX0 yX0_at yX0_at, Cond.code yX0_at cX0_at 2 (some .int), Cond.methodLink RX0 19 yX0_write, Cond.instanceMethod yX0_write, Cond.selects RX0 yX0_write yX0_write, Cond.code yX0_write cX0_write 3 none, Cond.methodLink RX2 69 yX0_tipBy, Cond.instanceMethod yX0_tipBy, Cond.selects RX0 yX0_tipBy yX0_tipBy, Cond.code yX0_tipBy cX0_tipBy 3 none]
def wsL_spreadWith_r3 : List Cond := [Cond.methodLink RX0 27 yX0_add, Cond.instanceMethod yX0_add, Cond.selects RX0 yX0_add yX0_add, Cond.code yX0_add cX0_add 3 none, Cond.methodLink RX0 30 yX0_onRing, Cond.instanceMethod yX0_onRing, Cond.selects RX0 yX0_onRing yX0_onRing, Cond.code yX0_onRing cX0_onRing 2 (some .int), Cond.methodLink RX2 111 yX0_span, Cond.instanceMethod yX0_span, Cond.selects RX0 yX0_span yX0_span, Cond.code yX0_span cX0_span 3 (some .int), Cond.methodLink RX0 46 Lib.Math.min.name, Cond.static Lib.Math.min.name, Cond.initialized "java/lang/Math", Cond.code Lib.Math.min.name Lib.Math.min.code 2 (some .int), Cond.methodLink RX0 49 yX0_firstGreatest, Cond.instanceMethod yX0_firstGreatest, Cond.selects RX0 yX0_firstGreatest yX0_firstGreatest, Cond.code yX0_firstGreatest cX0_firstGreatest 3 (some .int)]
def wsL_spreadWith : List Cond := .codeWith yL_spreadWith cL_spreadWith 5 (some .int) [(0, 10, 13, 19), (0, 10, 17, 13)] :: ((wsL_spreadWith_r1 ++ (wsL_spreadWith_r2 ++ wsL_spreadWith_r3)) ++ wsX20 ++ wsX00 ++ (vx_atS RX2 225 "java/lang/IndexOutOfBoundsException" ["java/lang/RuntimeException", "java/lang/Exception"]).filter goodWord ++ (vx_atS RX2 41 "java/lang/IllegalArgumentException" ["java/lang/RuntimeException", "java/lang/Exception"]).filter goodWord)
def wsL_placeFor_r1 : List Cond := [Cond.classLink RL 13 "java/lang/IllegalArgumentException", Cond.methodLink RL 64 yX2_placeFor, Cond.instanceMethod yX2_placeFor, Cond.selects RX2 yX2_placeFor yX2_placeFor, Cond.initialized RX2, Cond.code yX2_placeFor cX2_placeFor 2 (some .int), Cond.fieldLink RX2 20 "RingSeesaw" "keptCount" "I", Cond.methodLink RX2 55 yX2_requireNumber, Cond.instanceMethod yX2_requireNumber, Cond.selects RX2 yX2_requireNumber yX2_requireNumber, Cond.code yX2_requireNumber cX2_requireNumber 2 none, Cond.classLink RX2 37 "java/lang/IllegalArgumentException", Cond.initialized "java/lang/IllegalArgumentException", Cond.methodLink RX2 85 yX2_keptRing, Cond.instanceMethod yX2_keptRing, Cond.selects RX2 yX2_keptRing yX2_keptRing, Cond.code yX2_keptRing cX2_keptRing 3 (some (.object "RingSeesaw$Ring")), Cond.classLink RX2 221 "java/lang/IndexOutOfBoundsException", Cond.initialized "java/lang/IndexOutOfBoundsException", Cond.fieldLink RX2 16 "RingSeesaw" "kept" "[LRingSeesaw$Ring;", Cond.methodLink RX2 151 yX2_firstPlaceFor, Cond.instanceMethod yX2_firstPlaceFor, Cond.selects RX2 yX2_firstPlaceFor yX2_firstPlaceFor, Cond.code yX2_firstPlaceFor cX2_firstPlaceFor 4 (some .int)]
def wsL_placeFor_r2 : List Cond := [Cond.fieldLink RX2 10 "RingSeesaw" "ring" "LRingSeesaw$Ring;", Cond.fieldLink RX2 27 "RingSeesaw" "trial" "LRingSeesaw$Ring;", Cond.methodLink RX2 44 yX0_size, Cond.instanceMethod yX0_size, Cond.selects RX0 yX0_size yX0_size, Cond.initialized RX0, Cond.code yX0_size cX0_size 1 (some .int), Cond.fieldLink RX0 15 "RingSeesaw$Ring" "size" "I", Cond.methodLink RX2 89 yX0_copyFrom, Cond.instanceMethod yX0_copyFrom, Cond.selects RX0 yX0_copyFrom yX0_copyFrom, Cond.code yX0_copyFrom cX0_copyFrom 3 none, Cond.fieldLink RX0 9 "RingSeesaw$Ring" "numbers" "[I", Cond.methodLink RX0 23 yX0_at, Cond.instanceMethod yX0_at, Cond.selects RX0 yX0_at yX0_at, Cond.code yX0_at cX0_at 2 (some .int), Cond.methodLink RX0 19 yX0_write, Cond.instanceMethod yX0_write, Cond.selects RX0 yX0_write yX0_write, Cond.code yX0_write cX0_write 3 none, Cond.methodLink RX2 62 yX0_write, Cond.methodLink RX2 130 yX0_canBecome, Cond.instanceMethod yX0_canBecome]
def wsL_placeFor_r3 : List Cond := [Cond.selects RX0 yX0_canBecome yX0_canBecome, Cond.code yX0_canBecome cX0_canBecome 2 (some .boolean), Cond.methodLink RX0 56 yX0_total, Cond.instanceMethod yX0_total, Cond.selects RX0 yX0_total yX0_total, Cond.code yX0_total cX0_total 3 (some .int), Cond.methodLink RX0 59 yX0_momentLeft, Cond.instanceMethod yX0_momentLeft, Cond.selects RX0 yX0_momentLeft yX0_momentLeft, Cond.code yX0_momentLeft cX0_momentLeft 3 (some .int), Cond.methodLink RX0 40 yJ9_floorMod_7cf53, Cond.static yJ9_floorMod_7cf53, Cond.initialized RJ9, Cond.code yJ9_floorMod_7cf53 cJ9_floorMod_7cf53 3 (some .int)]
def wsL_placeFor : List Cond := .codeWith yL_placeFor cL_placeFor 4 (some .int) [(0, 9, 12, 13)] :: ((wsL_placeFor_r1 ++ (wsL_placeFor_r2 ++ wsL_placeFor_r3)) ++ wsX20 ++ wsX00 ++ (vx_atS RX2 41 "java/lang/IllegalArgumentException" ["java/lang/RuntimeException", "java/lang/Exception"]).filter goodWord ++ (vx_atS RX2 225 "java/lang/IndexOutOfBoundsException" ["java/lang/RuntimeException", "java/lang/Exception"]).filter goodWord)
def wsL_law0_r1 : List Cond := [Cond.classLink RL 8 RX2, Cond.instantiable RX2 6, Cond.initialized RX2, Cond.classLink RL 68 RX3, Cond.instantiable RX3 8, Cond.initialized RX3, Cond.arrayClass .long, Cond.methodLink RL 67 yX2_init, Cond.instanceMethod yX2_init, Cond.code yX2_init cX2_init 2 none, Cond.methodLink RX2 1 objectInit, Cond.instanceMethod objectInit, Cond.code objectInit ⟨#[0xb1]⟩ 1 none, Cond.classLink RX2 7 RX0, Cond.instantiable RX0 2, Cond.initialized RX0, Cond.fieldLink RX2 10 "RingSeesaw" "ring" "LRingSeesaw$Ring;", Cond.fieldLink RX2 16 "RingSeesaw" "kept" "[LRingSeesaw$Ring;", Cond.fieldLink RX2 20 "RingSeesaw" "keptCount" "I", Cond.fieldLink RX2 24 "RingSeesaw" "tipsDone" "I", Cond.fieldLink RX2 27 "RingSeesaw" "trial" "LRingSeesaw$Ring;", Cond.classLink RX2 30 RX1, Cond.instantiable RX1 2, Cond.initialized RX1]
def wsL_law0_r2 : List Cond := [Cond.fieldLink RX2 33 "RingSeesaw" "way" "LRingSeesaw$Way;", Cond.instanceMethod yX0_init, Cond.code yX0_init cX0_init 1 none, Cond.methodLink RX0 3 objectInit, Cond.arrayClass .int, Cond.fieldLink RX0 9 "RingSeesaw$Ring" "numbers" "[I", Cond.fieldLink RX0 15 "RingSeesaw$Ring" "size" "I", Cond.instanceMethod yX1_init, Cond.code yX1_init cX1_init 1 none, Cond.methodLink RX1 3 objectInit, Cond.fieldLink RX1 9 "RingSeesaw$Way" "tips" "[I", Cond.fieldLink RX1 15 "RingSeesaw$Way" "size" "I", Cond.methodLink RL 70 yX3_init, Cond.instanceMethod yX3_init, Cond.code yX3_init cX3_init 1 none, Cond.methodLink RX3 1 objectInit, Cond.fieldLink RX3 7 "RingSeesawModel" "n" "I", Cond.fieldLink RX3 13 "RingSeesawModel" "x" "[I", Cond.fieldLink RX3 17 "RingSeesawModel" "then" "[I", Cond.fieldLink RX3 20 "RingSeesawModel" "target" "[I", Cond.fieldLink RX3 23 "RingSeesawModel" "tip" "[I", Cond.methodLink RL 71 yL_lay, Cond.static yL_lay, Cond.initialized RL]
def wsL_law0_r3 : List Cond := [Cond.codeWith yL_lay cL_lay 4 (some .int) [(0, 9, 12, 13)], Cond.classLink RL 13 "java/lang/IllegalArgumentException", Cond.methodLink RL 7 yX2_lay, Cond.instanceMethod yX2_lay, Cond.selects RX2 yX2_lay yX2_lay, Cond.code yX2_lay cX2_lay 3 (some .int), Cond.classLink RX2 37 "java/lang/IllegalArgumentException", Cond.initialized "java/lang/IllegalArgumentException", Cond.methodLink RX2 44 yX0_size, Cond.instanceMethod yX0_size, Cond.selects RX0 yX0_size yX0_size, Cond.code yX0_size cX0_size 1 (some .int), Cond.methodLink RX2 48 yX0_clear, Cond.instanceMethod yX0_clear, Cond.selects RX0 yX0_clear yX0_clear, Cond.code yX0_clear cX0_clear 3 none, Cond.methodLink RX0 19 yX0_write, Cond.instanceMethod yX0_write, Cond.selects RX0 yX0_write yX0_write, Cond.code yX0_write cX0_write 3 none, Cond.methodLink RL 76 yX3_lay, Cond.instanceMethod yX3_lay, Cond.selects RX3 yX3_lay yX3_lay, Cond.code yX3_lay cX3_lay 4 (some .int)]
def wsL_law0_r4 : List Cond := [Cond.fieldLink RX3 26 "RingSeesawModel" "thrown" "I", Cond.fieldLink RX3 33 "RingSeesawModel" "targets" "I", Cond.methodLink RX3 29 yX3_isIn, Cond.static yX3_isIn, Cond.code yX3_isIn cX3_isIn 3 (some .boolean), Cond.methodLink RX3 66 yX3_no, Cond.instanceMethod yX3_no, Cond.selects RX3 yX3_no yX3_no, Cond.code yX3_no cX3_no 2 (some .int), Cond.methodLink RL 77 yX3_thrown, Cond.instanceMethod yX3_thrown, Cond.selects RX3 yX3_thrown yX3_thrown, Cond.code yX3_thrown cX3_thrown 1 (some .int), Cond.methodLink RL 80 yL_put, Cond.static yL_put, Cond.codeWith yL_put cL_put 5 (some .int) [(0, 10, 13, 19), (0, 10, 17, 13)], Cond.classLink RL 19 "java/lang/IndexOutOfBoundsException", Cond.methodLink RL 15 yX2_put, Cond.instanceMethod yX2_put, Cond.selects RX2 yX2_put yX2_put, Cond.code yX2_put cX2_put 4 (some .int), Cond.methodLink RX2 52 yX2_requirePlace, Cond.instanceMethod yX2_requirePlace, Cond.selects RX2 yX2_requirePlace yX2_requirePlace]
def wsL_law0_r5 : List Cond := [Cond.code yX2_requirePlace cX2_requirePlace 2 none, Cond.classLink RX2 221 "java/lang/IndexOutOfBoundsException", Cond.initialized "java/lang/IndexOutOfBoundsException", Cond.methodLink RX2 55 yX2_requireNumber, Cond.instanceMethod yX2_requireNumber, Cond.selects RX2 yX2_requireNumber yX2_requireNumber, Cond.code yX2_requireNumber cX2_requireNumber 2 none, Cond.methodLink RX2 58 yX0_at, Cond.instanceMethod yX0_at, Cond.selects RX0 yX0_at yX0_at, Cond.code yX0_at cX0_at 2 (some .int), Cond.methodLink RX2 62 yX0_write, Cond.methodLink RL 83 yX3_put, Cond.instanceMethod yX3_put, Cond.selects RX3 yX3_put yX3_put, Cond.code yX3_put cX3_put 4 (some .int), Cond.methodLink RX3 70 yX3_isPlace, Cond.instanceMethod yX3_isPlace, Cond.selects RX3 yX3_isPlace yX3_isPlace, Cond.code yX3_isPlace cX3_isPlace 2 (some .boolean), Cond.methodLink RL 84 yL_tip, Cond.static yL_tip, Cond.codeWith yL_tip cL_tip 5 (some .int) [(0, 10, 13, 19), (0, 10, 17, 13)], Cond.methodLink RL 21 yX2_tip]
def wsL_law0_r6 : List Cond := [Cond.instanceMethod yX2_tip, Cond.selects RX2 yX2_tip yX2_tip, Cond.code yX2_tip cX2_tip 3 (some .int), Cond.methodLink RX2 72 Lib.Math.abs.name, Cond.static Lib.Math.abs.name, Cond.initialized "java/lang/Math", Cond.code Lib.Math.abs.name Lib.Math.abs.code 1 (some .int), Cond.methodLink RX2 66 yX2_requireTimes, Cond.instanceMethod yX2_requireTimes, Cond.selects RX2 yX2_requireTimes yX2_requireTimes, Cond.code yX2_requireTimes cX2_requireTimes 2 none, Cond.methodLink RX2 69 yX0_tipBy, Cond.instanceMethod yX0_tipBy, Cond.selects RX0 yX0_tipBy yX0_tipBy, Cond.code yX0_tipBy cX0_tipBy 3 none, Cond.methodLink RX0 27 yX0_add, Cond.instanceMethod yX0_add, Cond.selects RX0 yX0_add yX0_add, Cond.code yX0_add cX0_add 3 none, Cond.methodLink RX0 23 yX0_at, Cond.methodLink RX0 30 yX0_onRing, Cond.instanceMethod yX0_onRing, Cond.selects RX0 yX0_onRing yX0_onRing, Cond.code yX0_onRing cX0_onRing 2 (some .int)]
def wsL_law0_r7 : List Cond := [Cond.methodLink RL 86 yX3_tip, Cond.instanceMethod yX3_tip, Cond.selects RX3 yX3_tip yX3_tip, Cond.code yX3_tip cX3_tip 3 (some .int), Cond.fieldLink RX3 74 "RingSeesawModel" "tips" "I", Cond.methodLink RX3 77 Lib.Math.abs.name, Cond.methodLink RX3 62 yX3_lean, Cond.instanceMethod yX3_lean, Cond.selects RX3 yX3_lean yX3_lean, Cond.code yX3_lean cX3_lean 4 none, Cond.methodLink RX3 36 yX3_on, Cond.instanceMethod yX3_on, Cond.selects RX3 yX3_on yX3_on, Cond.code yX3_on cX3_on 3 (some .int), Cond.methodLink RL 87 yX2_turn, Cond.instanceMethod yX2_turn, Cond.selects RX2 yX2_turn yX2_turn, Cond.code yX2_turn cX2_turn 1 (some .int), Cond.methodLink RX2 77 yX0_rotate, Cond.instanceMethod yX0_rotate, Cond.selects RX0 yX0_rotate yX0_rotate, Cond.code yX0_rotate cX0_rotate 3 none, Cond.methodLink RL 90 yX3_turn, Cond.instanceMethod yX3_turn]
def wsL_law0_r8 : List Cond := [Cond.selects RX3 yX3_turn yX3_turn, Cond.code yX3_turn cX3_turn 3 (some .int), Cond.methodLink RX3 80 yX3_ok, Cond.instanceMethod yX3_ok, Cond.selects RX3 yX3_ok yX3_ok, Cond.code yX3_ok cX3_ok 2 (some .int), Cond.methodLink RL 91 yL_keep, Cond.static yL_keep, Cond.codeWith yL_keep cL_keep 3 (some .int) [(0, 8, 11, 28)], Cond.classLink RL 28 "java/lang/IllegalStateException", Cond.methodLink RL 24 yX2_keep, Cond.instanceMethod yX2_keep, Cond.selects RX2 yX2_keep yX2_keep, Cond.code yX2_keep cX2_keep 2 (some .int), Cond.classLink RX2 80 "java/lang/IllegalStateException", Cond.initialized "java/lang/IllegalStateException", Cond.methodLink RX2 85 yX2_keptRing, Cond.instanceMethod yX2_keptRing, Cond.selects RX2 yX2_keptRing yX2_keptRing, Cond.code yX2_keptRing cX2_keptRing 3 (some (.object "RingSeesaw$Ring")), Cond.methodLink RX2 89 yX0_copyFrom, Cond.instanceMethod yX0_copyFrom, Cond.selects RX0 yX0_copyFrom yX0_copyFrom, Cond.code yX0_copyFrom cX0_copyFrom 3 none]
def wsL_law0_r9 : List Cond := [Cond.methodLink RL 94 yX3_keep, Cond.instanceMethod yX3_keep, Cond.selects RX3 yX3_keep yX3_keep, Cond.code yX3_keep cX3_keep 1 (some .int), Cond.methodLink RX3 40 arraycopyName, Cond.native arraycopyName, Cond.static arraycopyName, Cond.initialized "java/lang/System", Cond.methodLink RL 95 yL_settle, Cond.static yL_settle, Cond.codeWith yL_settle cL_settle 4 (some .int) [(0, 9, 12, 13)], Cond.methodLink RL 30 yX2_settle, Cond.instanceMethod yX2_settle, Cond.selects RX2 yX2_settle yX2_settle, Cond.code yX2_settle cX2_settle 3 (some .int), Cond.methodLink RX2 95 yX0_settleBy, Cond.instanceMethod yX0_settleBy, Cond.selects RX0 yX0_settleBy yX0_settleBy, Cond.code yX0_settleBy cX0_settleBy 4 (some .int), Cond.methodLink RX0 33 yX0_firstSteep, Cond.instanceMethod yX0_firstSteep, Cond.selects RX0 yX0_firstSteep yX0_firstSteep, Cond.code yX0_firstSteep cX0_firstSteep 2 (some .int), Cond.methodLink RX0 52 yX0_steepAt]
def wsL_law0_r10 : List Cond := [Cond.instanceMethod yX0_steepAt, Cond.selects RX0 yX0_steepAt yX0_steepAt, Cond.code yX0_steepAt cX0_steepAt 2 (some .boolean), Cond.methodLink RX0 37 yX0_tipBy, Cond.methodLink RL 97 yX3_settle, Cond.instanceMethod yX3_settle, Cond.selects RX3 yX3_settle yX3_settle, Cond.code yX3_settle cX3_settle 3 (some .int), Cond.methodLink RX3 83 yX3_settled, Cond.instanceMethod yX3_settled, Cond.selects RX3 yX3_settled yX3_settled, Cond.code yX3_settled cX3_settled 5 (some .int), Cond.methodLink RX3 58 yX3_firstSteep, Cond.instanceMethod yX3_firstSteep, Cond.selects RX3 yX3_firstSteep yX3_firstSteep, Cond.code yX3_firstSteep cX3_firstSteep 3 (some .int), Cond.methodLink RX3 54 yX3_steep, Cond.instanceMethod yX3_steep, Cond.selects RX3 yX3_steep yX3_steep, Cond.code yX3_steep cX3_steep 3 (some .boolean), Cond.methodLink RL 98 yL_reach, Cond.static yL_reach, Cond.codeWith yL_reach cL_reach 4 (some .int) [(0, 9, 12, 19), (0, 9, 15, 28)], Cond.methodLink RL 33 yX2_reach]
def wsL_law0_r11 : List Cond := [Cond.instanceMethod yX2_reach, Cond.selects RX2 yX2_reach yX2_reach, Cond.code yX2_reach cX2_reach 4 (some .int), Cond.methodLink RX2 98 yX2_requireWayTo, Cond.instanceMethod yX2_requireWayTo, Cond.selects RX2 yX2_requireWayTo yX2_requireWayTo, Cond.code yX2_requireWayTo cX2_requireWayTo 2 none, Cond.methodLink RX2 130 yX0_canBecome, Cond.instanceMethod yX0_canBecome, Cond.selects RX0 yX0_canBecome yX0_canBecome, Cond.code yX0_canBecome cX0_canBecome 2 (some .boolean), Cond.methodLink RX0 56 yX0_total, Cond.instanceMethod yX0_total, Cond.selects RX0 yX0_total yX0_total, Cond.code yX0_total cX0_total 3 (some .int), Cond.methodLink RX0 59 yX0_momentLeft, Cond.instanceMethod yX0_momentLeft, Cond.selects RX0 yX0_momentLeft yX0_momentLeft, Cond.code yX0_momentLeft cX0_momentLeft 3 (some .int), Cond.methodLink RX0 40 yJ9_floorMod_7cf53, Cond.static yJ9_floorMod_7cf53, Cond.initialized RJ9, Cond.code yJ9_floorMod_7cf53 cJ9_floorMod_7cf53 3 (some .int), Cond.methodLink RX2 101 yX2_fewestTo]
def wsL_law0_r12 : List Cond := [Cond.instanceMethod yX2_fewestTo, Cond.selects RX2 yX2_fewestTo yX2_fewestTo, Cond.code yX2_fewestTo cX2_fewestTo 2 (some .int), Cond.methodLink RX2 134 yX1_find, Cond.instanceMethod yX1_find, Cond.selects RX1 yX1_find yX1_find, Cond.code yX1_find cX1_find 6 none, Cond.methodLink RX1 19 yX0_size, Cond.methodLink RX1 24 yX1_firstClimb, Cond.instanceMethod yX1_firstClimb, Cond.selects RX1 yX1_firstClimb yX1_firstClimb, Cond.code yX1_firstClimb cX1_firstClimb 5 (some .int), Cond.methodLink RX1 28 yX0_at, Cond.methodLink RX2 234 yX1_fewest, Cond.instanceMethod yX1_fewest, Cond.selects RX1 yX1_fewest yX1_fewest, Cond.code yX1_fewest cX1_fewest 3 (some .int), Cond.methodLink RX1 38 Lib.Math.min.name, Cond.static Lib.Math.min.name, Cond.code Lib.Math.min.name Lib.Math.min.code 2 (some .int), Cond.methodLink RX1 32 yX1_tipsAt, Cond.instanceMethod yX1_tipsAt, Cond.selects RX1 yX1_tipsAt yX1_tipsAt, Cond.code yX1_tipsAt cX1_tipsAt 2 (some .int)]
def wsL_law0_r13 : List Cond := [Cond.methodLink RX1 35 yX1_awayFrom, Cond.instanceMethod yX1_awayFrom, Cond.selects RX1 yX1_awayFrom yX1_awayFrom, Cond.code yX1_awayFrom cX1_awayFrom 4 (some .int), Cond.methodLink RX1 44 Lib.Math.abs.name, Cond.methodLink RL 100 yX3_reach, Cond.instanceMethod yX3_reach, Cond.selects RX3 yX3_reach yX3_reach, Cond.code yX3_reach cX3_reach 4 (some .int), Cond.methodLink RX3 118 yX3_isTarget, Cond.instanceMethod yX3_isTarget, Cond.selects RX3 yX3_isTarget yX3_isTarget, Cond.code yX3_isTarget cX3_isTarget 2 (some .boolean), Cond.methodLink RX3 139 yX3_fewest, Cond.instanceMethod yX3_fewest, Cond.selects RX3 yX3_fewest yX3_fewest, Cond.code yX3_fewest cX3_fewest 6 (some .int), Cond.constant RX3 138 (2147483647), Cond.methodLink RX3 46 Lib.Math.min.name, Cond.methodLink RX3 130 yX3_solves, Cond.instanceMethod yX3_solves, Cond.selects RX3 yX3_solves yX3_solves, Cond.code yX3_solves cX3_solves 4 (some .boolean), Cond.methodLink RX3 127 yX3_around]
def wsL_law0_r14 : List Cond := [Cond.instanceMethod yX3_around, Cond.selects RX3 yX3_around yX3_around, Cond.code yX3_around cX3_around 4 (some .int), Cond.methodLink RX3 121 yX3_goal, Cond.instanceMethod yX3_goal, Cond.selects RX3 yX3_goal yX3_goal, Cond.code yX3_goal cX3_goal 3 (some .int), Cond.methodLink RL 101 yX2_places, Cond.instanceMethod yX2_places, Cond.selects RX2 yX2_places yX2_places, Cond.code yX2_places cX2_places 1 (some .int), Cond.methodLink RL 104 yX3_places, Cond.instanceMethod yX3_places, Cond.selects RX3 yX3_places yX3_places, Cond.code yX3_places cX3_places 1 (some .int), Cond.methodLink RL 105 yL_numberAt, Cond.static yL_numberAt, Cond.codeWith yL_numberAt cL_numberAt 4 (some .int) [(0, 9, 12, 19)], Cond.methodLink RL 36 yX2_numberAt, Cond.instanceMethod yX2_numberAt, Cond.selects RX2 yX2_numberAt yX2_numberAt, Cond.code yX2_numberAt cX2_numberAt 2 (some .int), Cond.methodLink RL 107 yX3_numberAt, Cond.instanceMethod yX3_numberAt]
def wsL_law0_r15 : List Cond := [Cond.selects RX3 yX3_numberAt yX3_numberAt, Cond.code yX3_numberAt cX3_numberAt 2 (some .int), Cond.methodLink RL 108 yX2_targets, Cond.instanceMethod yX2_targets, Cond.selects RX2 yX2_targets yX2_targets, Cond.code yX2_targets cX2_targets 1 (some .int), Cond.methodLink RL 111 yX3_targets, Cond.instanceMethod yX3_targets, Cond.selects RX3 yX3_targets yX3_targets, Cond.code yX3_targets cX3_targets 1 (some .int), Cond.methodLink RL 112 yX2_tips, Cond.instanceMethod yX2_tips, Cond.selects RX2 yX2_tips yX2_tips, Cond.code yX2_tips cX2_tips 1 (some .int), Cond.methodLink RL 115 yX3_tips, Cond.instanceMethod yX3_tips, Cond.selects RX3 yX3_tips yX3_tips, Cond.code yX3_tips cX3_tips 1 (some .int), Cond.methodLink RL 116 yX2_sum, Cond.instanceMethod yX2_sum, Cond.selects RX2 yX2_sum yX2_sum, Cond.code yX2_sum cX2_sum 1 (some .int), Cond.methodLink RX2 105 yX0_total, Cond.methodLink RL 119 yX3_sum]
def wsL_law0_r16 : List Cond := [Cond.instanceMethod yX3_sum, Cond.selects RX3 yX3_sum yX3_sum, Cond.code yX3_sum cX3_sum 1 (some .int), Cond.methodLink RX3 87 yX3_sumOf, Cond.instanceMethod yX3_sumOf, Cond.selects RX3 yX3_sumOf yX3_sumOf, Cond.code yX3_sumOf cX3_sumOf 3 (some .int), Cond.methodLink RL 120 yX2_moment, Cond.instanceMethod yX2_moment, Cond.selects RX2 yX2_moment yX2_moment, Cond.code yX2_moment cX2_moment 1 (some .int), Cond.methodLink RX2 108 yX0_momentLeft, Cond.methodLink RL 123 yX3_moment, Cond.instanceMethod yX3_moment, Cond.selects RX3 yX3_moment yX3_moment, Cond.code yX3_moment cX3_moment 1 (some .int), Cond.methodLink RX3 94 yX3_turning, Cond.instanceMethod yX3_turning, Cond.selects RX3 yX3_turning yX3_turning, Cond.code yX3_turning cX3_turning 3 (some .int), Cond.methodLink RX3 91 yJ9_floorMod_7cf53, Cond.methodLink RL 124 yX2_spread, Cond.instanceMethod yX2_spread, Cond.selects RX2 yX2_spread yX2_spread]
def wsL_law0_r17 : List Cond := [Cond.code yX2_spread cX2_spread 1 (some .int), Cond.methodLink RX2 111 yX0_span, Cond.instanceMethod yX0_span, Cond.selects RX0 yX0_span yX0_span, Cond.code yX0_span cX0_span 3 (some .int), Cond.methodLink RX0 46 Lib.Math.min.name, Cond.methodLink RX0 49 yX0_firstGreatest, Cond.instanceMethod yX0_firstGreatest, Cond.selects RX0 yX0_firstGreatest yX0_firstGreatest, Cond.code yX0_firstGreatest cX0_firstGreatest 3 (some .int), Cond.methodLink RL 127 yX3_spread, Cond.instanceMethod yX3_spread, Cond.selects RX3 yX3_spread yX3_spread, Cond.code yX3_spread cX3_spread 1 (some .int), Cond.methodLink RX3 97 yX3_wide, Cond.instanceMethod yX3_wide, Cond.selects RX3 yX3_wide yX3_wide, Cond.code yX3_wide cX3_wide 5 (some .int), Cond.methodLink RX3 51 Lib.Math.max.name, Cond.static Lib.Math.max.name, Cond.code Lib.Math.max.name Lib.Math.max.code 2 (some .int), Cond.methodLink RL 128 yX2_highest, Cond.instanceMethod yX2_highest, Cond.selects RX2 yX2_highest yX2_highest]
def wsL_law0_r18 : List Cond := [Cond.code yX2_highest cX2_highest 1 (some .int), Cond.methodLink RX2 114 yX0_firstGreatest, Cond.methodLink RL 131 yX3_highest, Cond.instanceMethod yX3_highest, Cond.selects RX3 yX3_highest yX3_highest, Cond.code yX3_highest cX3_highest 1 (some .int), Cond.methodLink RX3 100 yX3_top, Cond.instanceMethod yX3_top, Cond.selects RX3 yX3_top yX3_top, Cond.code yX3_top cX3_top 3 (some .int), Cond.methodLink RL 132 yL_isSteep, Cond.static yL_isSteep, Cond.codeWith yL_isSteep cL_isSteep 4 (some .int) [(0, 16, 19, 19)], Cond.methodLink RL 39 yX2_isSteep, Cond.instanceMethod yX2_isSteep, Cond.selects RX2 yX2_isSteep yX2_isSteep, Cond.code yX2_isSteep cX2_isSteep 2 (some .boolean), Cond.methodLink RX2 117 yX0_steepAt, Cond.methodLink RL 134 yX3_isSteep, Cond.instanceMethod yX3_isSteep, Cond.selects RX3 yX3_isSteep yX3_isSteep, Cond.code yX3_isSteep cX3_isSteep 2 (some .boolean), Cond.methodLink RX3 103 yX3_isNot, Cond.instanceMethod yX3_isNot]
def wsL_law0_r19 : List Cond := [Cond.selects RX3 yX3_isNot yX3_isNot, Cond.code yX3_isNot cX3_isNot 2 (some .boolean), Cond.methodLink RL 135 yX2_steepPlaces, Cond.instanceMethod yX2_steepPlaces, Cond.selects RX2 yX2_steepPlaces yX2_steepPlaces, Cond.code yX2_steepPlaces cX2_steepPlaces 3 (some .int), Cond.methodLink RL 138 yX3_steepPlaces, Cond.instanceMethod yX3_steepPlaces, Cond.selects RX3 yX3_steepPlaces yX3_steepPlaces, Cond.code yX3_steepPlaces cX3_steepPlaces 1 (some .int), Cond.methodLink RX3 106 yX3_manySteep, Cond.instanceMethod yX3_manySteep, Cond.selects RX3 yX3_manySteep yX3_manySteep, Cond.code yX3_manySteep cX3_manySteep 3 (some .int), Cond.methodLink RL 139 yX2_nextToTip, Cond.instanceMethod yX2_nextToTip, Cond.selects RX2 yX2_nextToTip yX2_nextToTip, Cond.code yX2_nextToTip cX2_nextToTip 1 (some .int), Cond.methodLink RX2 121 yX0_firstSteep, Cond.methodLink RL 142 yX3_nextToTip, Cond.instanceMethod yX3_nextToTip, Cond.selects RX3 yX3_nextToTip yX3_nextToTip, Cond.code yX3_nextToTip cX3_nextToTip 1 (some .int), Cond.methodLink RL 143 yL_tilt]
def wsL_law0_r20 : List Cond := [Cond.static yL_tilt, Cond.codeWith yL_tilt cL_tilt 4 (some .int) [(0, 9, 12, 19)], Cond.methodLink RL 43 yX2_tilt, Cond.instanceMethod yX2_tilt, Cond.selects RX2 yX2_tilt yX2_tilt, Cond.code yX2_tilt cX2_tilt 2 (some .int), Cond.methodLink RX2 124 yX0_tiltOn, Cond.instanceMethod yX0_tiltOn, Cond.selects RX0 yX0_tiltOn yX0_tiltOn, Cond.code yX0_tiltOn cX0_tiltOn 4 (some .int), Cond.methodLink RL 145 yX3_tilt, Cond.instanceMethod yX3_tilt, Cond.selects RX3 yX3_tilt yX3_tilt, Cond.code yX3_tilt cX3_tilt 2 (some .int), Cond.methodLink RX3 109 yX3_tiltOn, Cond.instanceMethod yX3_tiltOn, Cond.selects RX3 yX3_tiltOn yX3_tiltOn, Cond.code yX3_tiltOn cX3_tiltOn 4 (some .int), Cond.methodLink RL 146 yX2_levelAxes, Cond.instanceMethod yX2_levelAxes, Cond.selects RX2 yX2_levelAxes yX2_levelAxes, Cond.code yX2_levelAxes cX2_levelAxes 3 (some .int), Cond.methodLink RL 149 yX3_levelAxes, Cond.instanceMethod yX3_levelAxes]
def wsL_law0_r21 : List Cond := [Cond.selects RX3 yX3_levelAxes yX3_levelAxes, Cond.code yX3_levelAxes cX3_levelAxes 1 (some .int), Cond.methodLink RX3 112 yX3_level, Cond.instanceMethod yX3_level, Cond.selects RX3 yX3_level yX3_level, Cond.code yX3_level cX3_level 3 (some .int), Cond.methodLink RL 150 yX2_bestAxis, Cond.instanceMethod yX2_bestAxis, Cond.selects RX2 yX2_bestAxis yX2_bestAxis, Cond.code yX2_bestAxis cX2_bestAxis 3 (some .int), Cond.methodLink RL 153 yX3_bestAxis, Cond.instanceMethod yX3_bestAxis, Cond.selects RX3 yX3_bestAxis yX3_bestAxis, Cond.code yX3_bestAxis cX3_bestAxis 1 (some .int), Cond.methodLink RX3 115 yX3_flattest, Cond.instanceMethod yX3_flattest, Cond.selects RX3 yX3_flattest yX3_flattest, Cond.code yX3_flattest cX3_flattest 3 (some .int), Cond.methodLink RL 154 yL_numberIn, Cond.static yL_numberIn, Cond.codeWith yL_numberIn cL_numberIn 5 (some .int) [(0, 10, 13, 19)], Cond.methodLink RL 46 yX2_numberIn, Cond.instanceMethod yX2_numberIn, Cond.selects RX2 yX2_numberIn yX2_numberIn]
def wsL_law0_r22 : List Cond := [Cond.code yX2_numberIn cX2_numberIn 4 (some .int), Cond.methodLink RL 156 yX3_numberIn, Cond.instanceMethod yX3_numberIn, Cond.selects RX3 yX3_numberIn yX3_numberIn, Cond.code yX3_numberIn cX3_numberIn 3 (some .int), Cond.methodLink RL 157 yL_differences, Cond.static yL_differences, Cond.codeWith yL_differences cL_differences 4 (some .int) [(0, 9, 12, 19)], Cond.methodLink RL 49 yX2_differences, Cond.instanceMethod yX2_differences, Cond.selects RX2 yX2_differences yX2_differences, Cond.code yX2_differences cX2_differences 2 (some .int), Cond.methodLink RX2 127 yX0_differencesFrom, Cond.instanceMethod yX0_differencesFrom, Cond.selects RX0 yX0_differencesFrom yX0_differencesFrom, Cond.code yX0_differencesFrom cX0_differencesFrom 4 (some .int), Cond.methodLink RL 159 yX3_differences, Cond.instanceMethod yX3_differences, Cond.selects RX3 yX3_differences yX3_differences, Cond.code yX3_differences cX3_differences 2 (some .int), Cond.methodLink RX3 124 yX3_others, Cond.instanceMethod yX3_others, Cond.selects RX3 yX3_others yX3_others, Cond.code yX3_others cX3_others 4 (some .int)]
def wsL_law0_r23 : List Cond := [Cond.methodLink RL 160 yL_canReach, Cond.static yL_canReach, Cond.codeWith yL_canReach cL_canReach 4 (some .int) [(0, 16, 19, 19)], Cond.methodLink RL 52 yX2_canReach, Cond.instanceMethod yX2_canReach, Cond.selects RX2 yX2_canReach yX2_canReach, Cond.code yX2_canReach cX2_canReach 2 (some .boolean), Cond.methodLink RL 162 yX3_canReach, Cond.instanceMethod yX3_canReach, Cond.selects RX3 yX3_canReach yX3_canReach, Cond.code yX3_canReach cX3_canReach 2 (some .boolean), Cond.methodLink RL 163 yX2_reachable, Cond.instanceMethod yX2_reachable, Cond.selects RX2 yX2_reachable yX2_reachable, Cond.code yX2_reachable cX2_reachable 3 (some .int), Cond.methodLink RL 166 yX3_reachable, Cond.instanceMethod yX3_reachable, Cond.selects RX3 yX3_reachable yX3_reachable, Cond.code yX3_reachable cX3_reachable 1 (some .int), Cond.methodLink RX3 133 yX3_manySolved, Cond.instanceMethod yX3_manySolved, Cond.selects RX3 yX3_manySolved yX3_manySolved, Cond.code yX3_manySolved cX3_manySolved 3 (some .int), Cond.methodLink RL 167 yL_tipsTo]
def wsL_law0_r24 : List Cond := [Cond.static yL_tipsTo, Cond.codeWith yL_tipsTo cL_tipsTo 5 (some .int) [(0, 10, 13, 19), (0, 10, 17, 28)], Cond.methodLink RL 55 yX2_tipsTo, Cond.instanceMethod yX2_tipsTo, Cond.selects RX2 yX2_tipsTo yX2_tipsTo, Cond.code yX2_tipsTo cX2_tipsTo 4 (some .int), Cond.methodLink RX2 138 yX1_tipsAt, Cond.methodLink RL 169 yX3_tipsTo, Cond.instanceMethod yX3_tipsTo, Cond.selects RX3 yX3_tipsTo yX3_tipsTo, Cond.code yX3_tipsTo cX3_tipsTo 3 (some .int), Cond.methodLink RL 170 yL_fewestTips, Cond.static yL_fewestTips, Cond.codeWith yL_fewestTips cL_fewestTips 4 (some .int) [(0, 9, 12, 19)], Cond.methodLink RL 58 yX2_fewestTips, Cond.instanceMethod yX2_fewestTips, Cond.selects RX2 yX2_fewestTips yX2_fewestTips, Cond.code yX2_fewestTips cX2_fewestTips 2 (some .int), Cond.methodLink RL 172 yX3_fewestTips, Cond.instanceMethod yX3_fewestTips, Cond.selects RX3 yX3_fewestTips yX3_fewestTips, Cond.code yX3_fewestTips cX3_fewestTips 2 (some .int), Cond.methodLink RL 173 yX2_nearestTarget, Cond.instanceMethod yX2_nearestTarget]
def wsL_law0_r25 : List Cond := [Cond.selects RX2 yX2_nearestTarget yX2_nearestTarget, Cond.code yX2_nearestTarget cX2_nearestTarget 5 (some .int), Cond.methodLink RL 176 yX3_nearestTarget, Cond.instanceMethod yX3_nearestTarget, Cond.selects RX3 yX3_nearestTarget yX3_nearestTarget, Cond.code yX3_nearestTarget cX3_nearestTarget 1 (some .int), Cond.methodLink RX3 142 yX3_near, Cond.instanceMethod yX3_near, Cond.selects RX3 yX3_near yX3_near, Cond.code yX3_near cX3_near 5 (some .int), Cond.methodLink RL 177 yX2_stepsToRest, Cond.instanceMethod yX2_stepsToRest, Cond.selects RX2 yX2_stepsToRest yX2_stepsToRest, Cond.code yX2_stepsToRest cX2_stepsToRest 1 (some .int), Cond.methodLink RX2 141 yX2_tryToRest, Cond.instanceMethod yX2_tryToRest, Cond.selects RX2 yX2_tryToRest yX2_tryToRest, Cond.code yX2_tryToRest cX2_tryToRest 2 (some .int), Cond.methodLink RL 180 yX3_stepsToRest, Cond.instanceMethod yX3_stepsToRest, Cond.selects RX3 yX3_stepsToRest yX3_stepsToRest, Cond.code yX3_stepsToRest cX3_stepsToRest 1 (some .int), Cond.methodLink RX3 148 yX3_rest, Cond.instanceMethod yX3_rest]
def wsL_law0_r26 : List Cond := [Cond.selects RX3 yX3_rest yX3_rest, Cond.code yX3_rest cX3_rest 2 (some .int), Cond.methodLink RX3 145 yX3_look, Cond.instanceMethod yX3_look, Cond.selects RX3 yX3_look yX3_look, Cond.code yX3_look cX3_look 1 none, Cond.methodLink RL 181 yX2_spreadAtRest, Cond.instanceMethod yX2_spreadAtRest, Cond.selects RX2 yX2_spreadAtRest yX2_spreadAtRest, Cond.code yX2_spreadAtRest cX2_spreadAtRest 1 (some .int), Cond.methodLink RL 184 yX3_spreadAtRest, Cond.instanceMethod yX3_spreadAtRest, Cond.selects RX3 yX3_spreadAtRest yX3_spreadAtRest, Cond.code yX3_spreadAtRest cX3_spreadAtRest 1 (some .int), Cond.methodLink RX3 151 yX3_wideAtRest, Cond.instanceMethod yX3_wideAtRest, Cond.selects RX3 yX3_wideAtRest yX3_wideAtRest, Cond.code yX3_wideAtRest cX3_wideAtRest 1 (some .int), Cond.methodLink RL 185 yL_spreadWith, Cond.static yL_spreadWith, Cond.codeWith yL_spreadWith cL_spreadWith 5 (some .int) [(0, 10, 13, 19), (0, 10, 17, 13)], Cond.methodLink RL 61 yX2_spreadWith, Cond.instanceMethod yX2_spreadWith, Cond.selects RX2 yX2_spreadWith yX2_spreadWith]
def wsL_law0_r27 : List Cond := [Cond.code yX2_spreadWith cX2_spreadWith 3 (some .int), Cond.methodLink RX2 144 yX2_spanAfter, Cond.instanceMethod yX2_spanAfter, Cond.selects RX2 yX2_spanAfter yX2_spanAfter, Cond.code yX2_spanAfter cX2_spanAfter 3 (some .int), Cond.methodLink RL 187 yX3_spreadWith, Cond.instanceMethod yX3_spreadWith, Cond.selects RX3 yX3_spreadWith yX3_spreadWith, Cond.code yX3_spreadWith cX3_spreadWith 3 (some .int), Cond.methodLink RX3 154 yX3_wideWith, Cond.instanceMethod yX3_wideWith, Cond.selects RX3 yX3_wideWith yX3_wideWith, Cond.code yX3_wideWith cX3_wideWith 3 (some .int), Cond.methodLink RL 188 yX2_bestPlace, Cond.instanceMethod yX2_bestPlace, Cond.selects RX2 yX2_bestPlace yX2_bestPlace, Cond.code yX2_bestPlace cX2_bestPlace 5 (some .int), Cond.methodLink RX2 148 Lib.Math.min.name, Cond.methodLink RL 191 yX3_bestPlace, Cond.instanceMethod yX3_bestPlace, Cond.selects RX3 yX3_bestPlace yX3_bestPlace, Cond.code yX3_bestPlace cX3_bestPlace 1 (some .int), Cond.methodLink RX3 157 yX3_best, Cond.instanceMethod yX3_best]
def wsL_law0_r28 : List Cond := [Cond.selects RX3 yX3_best yX3_best, Cond.code yX3_best cX3_best 5 (some .int), Cond.methodLink RL 192 yL_placeFor, Cond.static yL_placeFor, Cond.codeWith yL_placeFor cL_placeFor 4 (some .int) [(0, 9, 12, 13)], Cond.methodLink RL 64 yX2_placeFor, Cond.instanceMethod yX2_placeFor, Cond.selects RX2 yX2_placeFor yX2_placeFor, Cond.code yX2_placeFor cX2_placeFor 2 (some .int), Cond.methodLink RX2 151 yX2_firstPlaceFor, Cond.instanceMethod yX2_firstPlaceFor, Cond.selects RX2 yX2_firstPlaceFor yX2_firstPlaceFor, Cond.code yX2_firstPlaceFor cX2_firstPlaceFor 4 (some .int), Cond.methodLink RL 194 yX3_placeFor, Cond.instanceMethod yX3_placeFor, Cond.selects RX3 yX3_placeFor yX3_placeFor, Cond.code yX3_placeFor cX3_placeFor 2 (some .int), Cond.methodLink RX3 160 yX3_fits, Cond.instanceMethod yX3_fits, Cond.selects RX3 yX3_fits yX3_fits, Cond.code yX3_fits cX3_fits 5 (some .int), Cond.methodLink RL 195 yX2_meanNumber, Cond.instanceMethod yX2_meanNumber, Cond.selects RX2 yX2_meanNumber yX2_meanNumber]
def wsL_law0_r29 : List Cond := [Cond.code yX2_meanNumber cX2_meanNumber 2 (some .double), Cond.methodLink RL 199 yX3_meanNumber, Cond.instanceMethod yX3_meanNumber, Cond.selects RX3 yX3_meanNumber yX3_meanNumber, Cond.code yX3_meanNumber cX3_meanNumber 1 (some .double), Cond.methodLink RL 200 yX2_digest, Cond.instanceMethod yX2_digest, Cond.selects RX2 yX2_digest yX2_digest, Cond.code yX2_digest cX2_digest 3 (some .long), Cond.constantLong RX2 155 (2333), Cond.methodLink RX2 157 yX2_places, Cond.methodLink RX2 160 yX2_mixed, Cond.static yX2_mixed, Cond.code yX2_mixed cX2_mixed 4 (some .long), Cond.constantLong RX2 219 (31), Cond.methodLink RX2 164 yX2_targets, Cond.methodLink RX2 167 yX2_tips, Cond.methodLink RX2 170 yX2_sum, Cond.methodLink RX2 173 yX2_moment, Cond.methodLink RX2 176 yX2_spread, Cond.methodLink RX2 179 yX2_highest, Cond.methodLink RX2 182 yX2_steepPlaces, Cond.methodLink RX2 185 yX2_nextToTip, Cond.methodLink RX2 188 yX2_levelAxes]
def wsL_law0_r30 : List Cond := [Cond.methodLink RX2 191 yX2_bestAxis, Cond.methodLink RX2 194 yX2_reachable, Cond.methodLink RX2 197 yX2_nearestTarget, Cond.methodLink RX2 200 yX2_stepsToRest, Cond.methodLink RX2 203 yX2_spreadAtRest, Cond.methodLink RX2 206 yX2_bestPlace, Cond.methodLink RX2 209 yX2_placeFor, Cond.methodLink RX2 212 yX2_mixedWithPlaces, Cond.instanceMethod yX2_mixedWithPlaces, Cond.selects RX2 yX2_mixedWithPlaces yX2_mixedWithPlaces, Cond.code yX2_mixedWithPlaces cX2_mixedWithPlaces 6 (some .long), Cond.methodLink RX2 216 yX2_mixedWithTargets, Cond.instanceMethod yX2_mixedWithTargets, Cond.selects RX2 yX2_mixedWithTargets yX2_mixedWithTargets, Cond.code yX2_mixedWithTargets cX2_mixedWithTargets 7 (some .long), Cond.methodLink RL 204 yX3_digest, Cond.instanceMethod yX3_digest, Cond.selects RX3 yX3_digest yX3_digest, Cond.code yX3_digest cX3_digest 8 (some .long), Cond.constantLong RX3 163 (2333), Cond.constantLong RX3 165 (31)]
def wsL_law0 : List Cond := (wsL_law0_r1 ++ (wsL_law0_r2 ++ (wsL_law0_r3 ++ (wsL_law0_r4 ++ (wsL_law0_r5 ++ (wsL_law0_r6 ++ (wsL_law0_r7 ++ (wsL_law0_r8 ++ (wsL_law0_r9 ++ (wsL_law0_r10 ++ (wsL_law0_r11 ++ (wsL_law0_r12 ++ (wsL_law0_r13 ++ (wsL_law0_r14 ++ (wsL_law0_r15 ++ (wsL_law0_r16 ++ (wsL_law0_r17 ++ (wsL_law0_r18 ++ (wsL_law0_r19 ++ (wsL_law0_r20 ++ (wsL_law0_r21 ++ (wsL_law0_r22 ++ (wsL_law0_r23 ++ (wsL_law0_r24 ++ (wsL_law0_r25 ++ (wsL_law0_r26 ++ (wsL_law0_r27 ++ (wsL_law0_r28 ++ (wsL_law0_r29 ++ wsL_law0_r30))))))))))))))))))))))))))))) ++ wsX20 ++ wsX30 ++ wsX00 ++ wsX10 ++ ([] : List Cond)
def wsL_law : List Cond := wsL_law0 ++ (vx_atS RX2 41 "java/lang/IllegalArgumentException" ["java/lang/RuntimeException", "java/lang/Exception"]).filter goodWord ++ (vx_atS RX2 225 "java/lang/IndexOutOfBoundsException" ["java/lang/RuntimeException", "java/lang/Exception"]).filter goodWord ++ (vx_atS RX2 84 "java/lang/IllegalStateException" ["java/lang/RuntimeException", "java/lang/Exception"]).filter goodWord
theorem inJ9 : ∀ w ∈ wsJ90, w ∈ lw_tbl := by decide +kernel
theorem inJ0 : ∀ w ∈ wsJ00, w ∈ lw_tbl := by decide +kernel
theorem inJ10 : ∀ w ∈ wsJ100, w ∈ lw_tbl := by decide +kernel
theorem dX0_init_0 : decode cX0_init 0 = .ok (.aload_n 0, 1) := by decide +kernel
theorem dX0_init_1 : decode cX0_init 1 = .ok (.invokespecial 3, 3) := by decide +kernel
theorem dX0_init_4 : decode cX0_init 4 = .ok (.aload_n 0, 1) := by decide +kernel
theorem dX0_init_5 : decode cX0_init 5 = .ok (.bipush 12, 2) := by decide +kernel
theorem dX0_init_7 : decode cX0_init 7 = .ok (.newarray .int, 2) := by decide +kernel
theorem dX0_init_9 : decode cX0_init 9 = .ok (.putfield 9, 3) := by decide +kernel
theorem dX0_init_12 : decode cX0_init 12 = .ok (.aload_n 0, 1) := by decide +kernel
theorem dX0_init_13 : decode cX0_init 13 = .ok (.bipush 6, 2) := by decide +kernel
theorem dX0_init_15 : decode cX0_init 15 = .ok (.putfield 15, 3) := by decide +kernel
theorem dX0_init_18 : decode cX0_init 18 = .ok (.return_, 1) := by decide +kernel
theorem dX0_size_0 : decode cX0_size 0 = .ok (.aload_n 0, 1) := by decide +kernel
theorem dX0_size_1 : decode cX0_size 1 = .ok (.getfield 15, 3) := by decide +kernel
theorem dX0_size_4 : decode cX0_size 4 = .ok (.ireturn, 1) := by decide +kernel
theorem dX0_at_0 : decode cX0_at 0 = .ok (.iload_n 1, 1) := by decide +kernel
theorem dX0_at_1 : decode cX0_at 1 = .ok (.ifCond .lt 21, 3) := by decide +kernel
theorem dX0_at_4 : decode cX0_at 4 = .ok (.iload_n 1, 1) := by decide +kernel
theorem dX0_at_5 : decode cX0_at 5 = .ok (.aload_n 0, 1) := by decide +kernel
theorem dX0_at_6 : decode cX0_at 6 = .ok (.getfield 9, 3) := by decide +kernel
theorem dX0_at_9 : decode cX0_at 9 = .ok (.arraylength, 1) := by decide +kernel
theorem dX0_at_10 : decode cX0_at 10 = .ok (.if_icmp .ge 12, 3) := by decide +kernel
theorem dX0_at_13 : decode cX0_at 13 = .ok (.aload_n 0, 1) := by decide +kernel
theorem dX0_at_14 : decode cX0_at 14 = .ok (.getfield 9, 3) := by decide +kernel
theorem dX0_at_17 : decode cX0_at 17 = .ok (.iload_n 1, 1) := by decide +kernel
theorem dX0_at_18 : decode cX0_at 18 = .ok (.iaload, 1) := by decide +kernel
theorem dX0_at_19 : decode cX0_at 19 = .ok (.goto 4, 3) := by decide +kernel
theorem dX0_at_22 : decode cX0_at 22 = .ok (.iconst 0, 1) := by decide +kernel
theorem dX0_at_23 : decode cX0_at 23 = .ok (.ireturn, 1) := by decide +kernel
theorem dX0_write_0 : decode cX0_write 0 = .ok (.iload_n 1, 1) := by decide +kernel
theorem dX0_write_1 : decode cX0_write 1 = .ok (.ifCond .lt 19, 3) := by decide +kernel
theorem dX0_write_4 : decode cX0_write 4 = .ok (.iload_n 1, 1) := by decide +kernel
theorem dX0_write_5 : decode cX0_write 5 = .ok (.aload_n 0, 1) := by decide +kernel
theorem dX0_write_6 : decode cX0_write 6 = .ok (.getfield 9, 3) := by decide +kernel
theorem dX0_write_9 : decode cX0_write 9 = .ok (.arraylength, 1) := by decide +kernel
theorem dX0_write_10 : decode cX0_write 10 = .ok (.if_icmp .ge 10, 3) := by decide +kernel
theorem dX0_write_13 : decode cX0_write 13 = .ok (.aload_n 0, 1) := by decide +kernel
theorem dX0_write_14 : decode cX0_write 14 = .ok (.getfield 9, 3) := by decide +kernel
theorem dX0_write_17 : decode cX0_write 17 = .ok (.iload_n 1, 1) := by decide +kernel
theorem dX0_write_18 : decode cX0_write 18 = .ok (.iload_n 2, 1) := by decide +kernel
theorem dX0_write_19 : decode cX0_write 19 = .ok (.iastore, 1) := by decide +kernel
theorem dX0_write_20 : decode cX0_write 20 = .ok (.return_, 1) := by decide +kernel
set_option maxRecDepth 20000 in
theorem ggX0_clear_X0_write : GoodIn wsX0_clear wsX0_write := goodIn_r _ [7, 2, 8, 9] (by decide +kernel) (by decide +kernel)
set_option maxRecDepth 20000 in
theorem gX0_clear_X0_write : GoodIn wsX0_clear (wsV RX0 19 RX0 yX0_write wsX0_write) := goodIn_app (goodIn_of _ (by decide +kernel)) ggX0_clear_X0_write
theorem dX0_clear_0 : decode cX0_clear 0 = .ok (.aload_n 0, 1) := by decide +kernel
theorem dX0_clear_1 : decode cX0_clear 1 = .ok (.iload_n 1, 1) := by decide +kernel
theorem dX0_clear_2 : decode cX0_clear 2 = .ok (.putfield 15, 3) := by decide +kernel
theorem dX0_clear_5 : decode cX0_clear 5 = .ok (.iconst 0, 1) := by decide +kernel
theorem dX0_clear_6 : decode cX0_clear 6 = .ok (.istore_n 2, 1) := by decide +kernel
theorem dX0_clear_7 : decode cX0_clear 7 = .ok (.iload_n 2, 1) := by decide +kernel
theorem dX0_clear_8 : decode cX0_clear 8 = .ok (.aload_n 0, 1) := by decide +kernel
theorem dX0_clear_9 : decode cX0_clear 9 = .ok (.getfield 9, 3) := by decide +kernel
theorem dX0_clear_12 : decode cX0_clear 12 = .ok (.arraylength, 1) := by decide +kernel
theorem dX0_clear_13 : decode cX0_clear 13 = .ok (.if_icmp .ge 15, 3) := by decide +kernel
theorem dX0_clear_16 : decode cX0_clear 16 = .ok (.aload_n 0, 1) := by decide +kernel
theorem dX0_clear_17 : decode cX0_clear 17 = .ok (.iload_n 2, 1) := by decide +kernel
theorem dX0_clear_18 : decode cX0_clear 18 = .ok (.iconst 0, 1) := by decide +kernel
theorem dX0_clear_19 : decode cX0_clear 19 = .ok (.invokevirtual 19, 3) := by decide +kernel
theorem dX0_clear_22 : decode cX0_clear 22 = .ok (.iinc 2 1, 3) := by decide +kernel
theorem dX0_clear_25 : decode cX0_clear 25 = .ok (.goto (-18), 3) := by decide +kernel
theorem dX0_clear_28 : decode cX0_clear 28 = .ok (.return_, 1) := by decide +kernel
set_option maxRecDepth 20000 in
theorem ggX0_copyFrom_X0_at : GoodIn wsX0_copyFrom wsX0_at := goodIn_r _ [7, 2, 12, 13] (by decide +kernel) (by decide +kernel)
set_option maxRecDepth 20000 in
theorem gX0_copyFrom_X0_at : GoodIn wsX0_copyFrom (wsV RX0 23 RX0 yX0_at wsX0_at) := goodIn_app (goodIn_of _ (by decide +kernel)) ggX0_copyFrom_X0_at
set_option maxRecDepth 20000 in
theorem ggX0_copyFrom_X0_write : GoodIn wsX0_copyFrom wsX0_write := goodIn_r _ [11, 2, 12, 13] (by decide +kernel) (by decide +kernel)
set_option maxRecDepth 20000 in
theorem gX0_copyFrom_X0_write : GoodIn wsX0_copyFrom (wsV RX0 19 RX0 yX0_write wsX0_write) := goodIn_app (goodIn_of _ (by decide +kernel)) ggX0_copyFrom_X0_write
theorem dX0_copyFrom_0 : decode cX0_copyFrom 0 = .ok (.aload_n 0, 1) := by decide +kernel
theorem dX0_copyFrom_1 : decode cX0_copyFrom 1 = .ok (.aload_n 1, 1) := by decide +kernel
theorem dX0_copyFrom_2 : decode cX0_copyFrom 2 = .ok (.getfield 15, 3) := by decide +kernel
theorem dX0_copyFrom_5 : decode cX0_copyFrom 5 = .ok (.putfield 15, 3) := by decide +kernel
theorem dX0_copyFrom_8 : decode cX0_copyFrom 8 = .ok (.iconst 0, 1) := by decide +kernel
theorem dX0_copyFrom_9 : decode cX0_copyFrom 9 = .ok (.istore_n 2, 1) := by decide +kernel
theorem dX0_copyFrom_10 : decode cX0_copyFrom 10 = .ok (.iload_n 2, 1) := by decide +kernel
theorem dX0_copyFrom_11 : decode cX0_copyFrom 11 = .ok (.aload_n 0, 1) := by decide +kernel
theorem dX0_copyFrom_12 : decode cX0_copyFrom 12 = .ok (.getfield 9, 3) := by decide +kernel
theorem dX0_copyFrom_15 : decode cX0_copyFrom 15 = .ok (.arraylength, 1) := by decide +kernel
theorem dX0_copyFrom_16 : decode cX0_copyFrom 16 = .ok (.if_icmp .ge 19, 3) := by decide +kernel
theorem dX0_copyFrom_19 : decode cX0_copyFrom 19 = .ok (.aload_n 0, 1) := by decide +kernel
theorem dX0_copyFrom_20 : decode cX0_copyFrom 20 = .ok (.iload_n 2, 1) := by decide +kernel
theorem dX0_copyFrom_21 : decode cX0_copyFrom 21 = .ok (.aload_n 1, 1) := by decide +kernel
theorem dX0_copyFrom_22 : decode cX0_copyFrom 22 = .ok (.iload_n 2, 1) := by decide +kernel
theorem dX0_copyFrom_23 : decode cX0_copyFrom 23 = .ok (.invokevirtual 23, 3) := by decide +kernel
theorem dX0_copyFrom_26 : decode cX0_copyFrom 26 = .ok (.invokevirtual 19, 3) := by decide +kernel
theorem dX0_copyFrom_29 : decode cX0_copyFrom 29 = .ok (.iinc 2 1, 3) := by decide +kernel
theorem dX0_copyFrom_32 : decode cX0_copyFrom 32 = .ok (.goto (-22), 3) := by decide +kernel
theorem dX0_copyFrom_35 : decode cX0_copyFrom 35 = .ok (.return_, 1) := by decide +kernel
set_option maxRecDepth 20000 in
theorem ggX0_rotate_X0_at : GoodIn wsX0_rotate wsX0_at := goodIn_r _ [6, 7, 12, 13] (by decide +kernel) (by decide +kernel)
set_option maxRecDepth 20000 in
theorem gX0_rotate_X0_at : GoodIn wsX0_rotate (wsV RX0 23 RX0 yX0_at wsX0_at) := goodIn_app (goodIn_of _ (by decide +kernel)) ggX0_rotate_X0_at
set_option maxRecDepth 20000 in
theorem ggX0_rotate_X0_write : GoodIn wsX0_rotate wsX0_write := goodIn_r _ [11, 7, 12, 13] (by decide +kernel) (by decide +kernel)
set_option maxRecDepth 20000 in
theorem gX0_rotate_X0_write : GoodIn wsX0_rotate (wsV RX0 19 RX0 yX0_write wsX0_write) := goodIn_app (goodIn_of _ (by decide +kernel)) ggX0_rotate_X0_write
theorem dX0_rotate_0 : decode cX0_rotate 0 = .ok (.aload_n 0, 1) := by decide +kernel
theorem dX0_rotate_1 : decode cX0_rotate 1 = .ok (.aload_n 0, 1) := by decide +kernel
theorem dX0_rotate_2 : decode cX0_rotate 2 = .ok (.getfield 15, 3) := by decide +kernel
theorem dX0_rotate_5 : decode cX0_rotate 5 = .ok (.iconst 1, 1) := by decide +kernel
theorem dX0_rotate_6 : decode cX0_rotate 6 = .ok (.isub, 1) := by decide +kernel
theorem dX0_rotate_7 : decode cX0_rotate 7 = .ok (.invokevirtual 23, 3) := by decide +kernel
theorem dX0_rotate_10 : decode cX0_rotate 10 = .ok (.istore_n 1, 1) := by decide +kernel
theorem dX0_rotate_11 : decode cX0_rotate 11 = .ok (.aload_n 0, 1) := by decide +kernel
theorem dX0_rotate_12 : decode cX0_rotate 12 = .ok (.getfield 15, 3) := by decide +kernel
theorem dX0_rotate_15 : decode cX0_rotate 15 = .ok (.iconst 1, 1) := by decide +kernel
theorem dX0_rotate_16 : decode cX0_rotate 16 = .ok (.isub, 1) := by decide +kernel
theorem dX0_rotate_17 : decode cX0_rotate 17 = .ok (.istore_n 2, 1) := by decide +kernel
theorem dX0_rotate_18 : decode cX0_rotate 18 = .ok (.iload_n 2, 1) := by decide +kernel
theorem dX0_rotate_19 : decode cX0_rotate 19 = .ok (.ifCond .le 21, 3) := by decide +kernel
theorem dX0_rotate_22 : decode cX0_rotate 22 = .ok (.aload_n 0, 1) := by decide +kernel
theorem dX0_rotate_23 : decode cX0_rotate 23 = .ok (.iload_n 2, 1) := by decide +kernel
theorem dX0_rotate_24 : decode cX0_rotate 24 = .ok (.aload_n 0, 1) := by decide +kernel
theorem dX0_rotate_25 : decode cX0_rotate 25 = .ok (.iload_n 2, 1) := by decide +kernel
theorem dX0_rotate_26 : decode cX0_rotate 26 = .ok (.iconst 1, 1) := by decide +kernel
theorem dX0_rotate_27 : decode cX0_rotate 27 = .ok (.isub, 1) := by decide +kernel
theorem dX0_rotate_28 : decode cX0_rotate 28 = .ok (.invokevirtual 23, 3) := by decide +kernel
theorem dX0_rotate_31 : decode cX0_rotate 31 = .ok (.invokevirtual 19, 3) := by decide +kernel
theorem dX0_rotate_34 : decode cX0_rotate 34 = .ok (.iinc 2 (-1), 3) := by decide +kernel
theorem dX0_rotate_37 : decode cX0_rotate 37 = .ok (.goto (-19), 3) := by decide +kernel
theorem dX0_rotate_40 : decode cX0_rotate 40 = .ok (.aload_n 0, 1) := by decide +kernel
theorem dX0_rotate_41 : decode cX0_rotate 41 = .ok (.iconst 0, 1) := by decide +kernel
theorem dX0_rotate_42 : decode cX0_rotate 42 = .ok (.iload_n 1, 1) := by decide +kernel
theorem dX0_rotate_43 : decode cX0_rotate 43 = .ok (.invokevirtual 19, 3) := by decide +kernel
theorem dX0_rotate_46 : decode cX0_rotate 46 = .ok (.return_, 1) := by decide +kernel
set_option maxRecDepth 20000 in
theorem ggX0_tipBy_X0_add : GoodIn wsX0_tipBy wsX0_add := goodIn_r _ [5, 6, 7, 8, 4, 9, 10, 11, 12, 13, 14, 20, 21] (by decide +kernel) (by decide +kernel)
set_option maxRecDepth 20000 in
theorem gX0_tipBy_X0_add : GoodIn wsX0_tipBy (wsV RX0 27 RX0 yX0_add wsX0_add) := goodIn_app (goodIn_of _ (by decide +kernel)) ggX0_tipBy_X0_add
set_option maxRecDepth 20000 in
theorem ggX0_tipBy_X0_onRing : GoodIn wsX0_tipBy wsX0_onRing := goodIn_r _ [18, 19, 20, 21] (by decide +kernel) (by decide +kernel)
set_option maxRecDepth 20000 in
theorem gX0_tipBy_X0_onRing : GoodIn wsX0_tipBy (wsV RX0 30 RX0 yX0_onRing wsX0_onRing) := goodIn_app (goodIn_of _ (by decide +kernel)) ggX0_tipBy_X0_onRing
theorem dX0_tipBy_0 : decode cX0_tipBy 0 = .ok (.aload_n 0, 1) := by decide +kernel
theorem dX0_tipBy_1 : decode cX0_tipBy 1 = .ok (.iload_n 1, 1) := by decide +kernel
theorem dX0_tipBy_2 : decode cX0_tipBy 2 = .ok (.bipush (-2), 2) := by decide +kernel
theorem dX0_tipBy_4 : decode cX0_tipBy 4 = .ok (.iload_n 2, 1) := by decide +kernel
theorem dX0_tipBy_5 : decode cX0_tipBy 5 = .ok (.imul, 1) := by decide +kernel
theorem dX0_tipBy_6 : decode cX0_tipBy 6 = .ok (.invokevirtual 27, 3) := by decide +kernel
theorem dX0_tipBy_9 : decode cX0_tipBy 9 = .ok (.aload_n 0, 1) := by decide +kernel
theorem dX0_tipBy_10 : decode cX0_tipBy 10 = .ok (.aload_n 0, 1) := by decide +kernel
theorem dX0_tipBy_11 : decode cX0_tipBy 11 = .ok (.iload_n 1, 1) := by decide +kernel
theorem dX0_tipBy_12 : decode cX0_tipBy 12 = .ok (.iconst 1, 1) := by decide +kernel
theorem dX0_tipBy_13 : decode cX0_tipBy 13 = .ok (.iadd, 1) := by decide +kernel
theorem dX0_tipBy_14 : decode cX0_tipBy 14 = .ok (.invokevirtual 30, 3) := by decide +kernel
theorem dX0_tipBy_17 : decode cX0_tipBy 17 = .ok (.iload_n 2, 1) := by decide +kernel
theorem dX0_tipBy_18 : decode cX0_tipBy 18 = .ok (.invokevirtual 27, 3) := by decide +kernel
theorem dX0_tipBy_21 : decode cX0_tipBy 21 = .ok (.aload_n 0, 1) := by decide +kernel
theorem dX0_tipBy_22 : decode cX0_tipBy 22 = .ok (.aload_n 0, 1) := by decide +kernel
theorem dX0_tipBy_23 : decode cX0_tipBy 23 = .ok (.iload_n 1, 1) := by decide +kernel
theorem dX0_tipBy_24 : decode cX0_tipBy 24 = .ok (.iconst 1, 1) := by decide +kernel
theorem dX0_tipBy_25 : decode cX0_tipBy 25 = .ok (.isub, 1) := by decide +kernel
theorem dX0_tipBy_26 : decode cX0_tipBy 26 = .ok (.invokevirtual 30, 3) := by decide +kernel
theorem dX0_tipBy_29 : decode cX0_tipBy 29 = .ok (.iload_n 2, 1) := by decide +kernel
theorem dX0_tipBy_30 : decode cX0_tipBy 30 = .ok (.invokevirtual 27, 3) := by decide +kernel
theorem dX0_tipBy_33 : decode cX0_tipBy 33 = .ok (.return_, 1) := by decide +kernel
set_option maxRecDepth 20000 in
theorem ggX0_settleBy_X0_firstSteep : GoodIn wsX0_settleBy wsX0_firstSteep := goodIn_r _ [5, 6, 7, 8, 9, 4, 10, 11, 12, 13, 14, 15, 16, 17, 18, 19, 32, 33] (by decide +kernel) (by decide +kernel)
set_option maxRecDepth 20000 in
theorem gX0_settleBy_X0_firstSteep : GoodIn wsX0_settleBy (wsV RX0 33 RX0 yX0_firstSteep wsX0_firstSteep) := goodIn_app (goodIn_of _ (by decide +kernel)) ggX0_settleBy_X0_firstSteep
set_option maxRecDepth 20000 in
theorem ggX0_settleBy_X0_tipBy : GoodIn wsX0_settleBy wsX0_tipBy := goodIn_r _ [23, 24, 25, 26, 4, 27, 11, 12, 13, 14, 15, 28, 29, 30, 31, 16, 17, 18, 19, 6, 32, 33] (by decide +kernel) (by decide +kernel)
set_option maxRecDepth 20000 in
theorem gX0_settleBy_X0_tipBy : GoodIn wsX0_settleBy (wsV RX0 37 RX0 yX0_tipBy wsX0_tipBy) := goodIn_app (goodIn_of _ (by decide +kernel)) ggX0_settleBy_X0_tipBy
theorem dX0_settleBy_0 : decode cX0_settleBy 0 = .ok (.iconst 0, 1) := by decide +kernel
theorem dX0_settleBy_1 : decode cX0_settleBy 1 = .ok (.istore_n 2, 1) := by decide +kernel
theorem dX0_settleBy_2 : decode cX0_settleBy 2 = .ok (.iload_n 2, 1) := by decide +kernel
theorem dX0_settleBy_3 : decode cX0_settleBy 3 = .ok (.iload_n 1, 1) := by decide +kernel
theorem dX0_settleBy_4 : decode cX0_settleBy 4 = .ok (.if_icmp .ge 26, 3) := by decide +kernel
theorem dX0_settleBy_7 : decode cX0_settleBy 7 = .ok (.aload_n 0, 1) := by decide +kernel
theorem dX0_settleBy_8 : decode cX0_settleBy 8 = .ok (.invokevirtual 33, 3) := by decide +kernel
theorem dX0_settleBy_11 : decode cX0_settleBy 11 = .ok (.istore_n 3, 1) := by decide +kernel
theorem dX0_settleBy_12 : decode cX0_settleBy 12 = .ok (.iload_n 3, 1) := by decide +kernel
theorem dX0_settleBy_13 : decode cX0_settleBy 13 = .ok (.ifCond .ge 5, 3) := by decide +kernel
theorem dX0_settleBy_16 : decode cX0_settleBy 16 = .ok (.iload_n 2, 1) := by decide +kernel
theorem dX0_settleBy_17 : decode cX0_settleBy 17 = .ok (.ireturn, 1) := by decide +kernel
theorem dX0_settleBy_18 : decode cX0_settleBy 18 = .ok (.aload_n 0, 1) := by decide +kernel
theorem dX0_settleBy_19 : decode cX0_settleBy 19 = .ok (.iload_n 3, 1) := by decide +kernel
theorem dX0_settleBy_20 : decode cX0_settleBy 20 = .ok (.iconst 1, 1) := by decide +kernel
theorem dX0_settleBy_21 : decode cX0_settleBy 21 = .ok (.invokevirtual 37, 3) := by decide +kernel
theorem dX0_settleBy_24 : decode cX0_settleBy 24 = .ok (.iinc 2 1, 3) := by decide +kernel
theorem dX0_settleBy_27 : decode cX0_settleBy 27 = .ok (.goto (-25), 3) := by decide +kernel
theorem dX0_settleBy_30 : decode cX0_settleBy 30 = .ok (.iload_n 2, 1) := by decide +kernel
theorem dX0_settleBy_31 : decode cX0_settleBy 31 = .ok (.ireturn, 1) := by decide +kernel
set_option maxRecDepth 20000 in
theorem ggX0_total_X0_at : GoodIn wsX0_total wsX0_at := goodIn_r _ [6, 7, 8, 9] (by decide +kernel) (by decide +kernel)
set_option maxRecDepth 20000 in
theorem gX0_total_X0_at : GoodIn wsX0_total (wsV RX0 23 RX0 yX0_at wsX0_at) := goodIn_app (goodIn_of _ (by decide +kernel)) ggX0_total_X0_at
theorem dX0_total_0 : decode cX0_total 0 = .ok (.iconst 0, 1) := by decide +kernel
theorem dX0_total_1 : decode cX0_total 1 = .ok (.istore_n 1, 1) := by decide +kernel
theorem dX0_total_2 : decode cX0_total 2 = .ok (.iconst 0, 1) := by decide +kernel
theorem dX0_total_3 : decode cX0_total 3 = .ok (.istore_n 2, 1) := by decide +kernel
theorem dX0_total_4 : decode cX0_total 4 = .ok (.iload_n 2, 1) := by decide +kernel
theorem dX0_total_5 : decode cX0_total 5 = .ok (.aload_n 0, 1) := by decide +kernel
theorem dX0_total_6 : decode cX0_total 6 = .ok (.getfield 15, 3) := by decide +kernel
theorem dX0_total_9 : decode cX0_total 9 = .ok (.if_icmp .ge 17, 3) := by decide +kernel
theorem dX0_total_12 : decode cX0_total 12 = .ok (.iload_n 1, 1) := by decide +kernel
theorem dX0_total_13 : decode cX0_total 13 = .ok (.aload_n 0, 1) := by decide +kernel
theorem dX0_total_14 : decode cX0_total 14 = .ok (.iload_n 2, 1) := by decide +kernel
theorem dX0_total_15 : decode cX0_total 15 = .ok (.invokevirtual 23, 3) := by decide +kernel
theorem dX0_total_18 : decode cX0_total 18 = .ok (.iadd, 1) := by decide +kernel
theorem dX0_total_19 : decode cX0_total 19 = .ok (.istore_n 1, 1) := by decide +kernel
theorem dX0_total_20 : decode cX0_total 20 = .ok (.iinc 2 1, 3) := by decide +kernel
theorem dX0_total_23 : decode cX0_total 23 = .ok (.goto (-19), 3) := by decide +kernel
theorem dX0_total_26 : decode cX0_total 26 = .ok (.iload_n 1, 1) := by decide +kernel
theorem dX0_total_27 : decode cX0_total 27 = .ok (.ireturn, 1) := by decide +kernel
set_option maxRecDepth 20000 in
theorem ggX0_momentLeft_X0_at : GoodIn wsX0_momentLeft wsX0_at := goodIn_r _ [6, 7, 12, 13] (by decide +kernel) (by decide +kernel)
set_option maxRecDepth 20000 in
theorem gX0_momentLeft_X0_at : GoodIn wsX0_momentLeft (wsV RX0 23 RX0 yX0_at wsX0_at) := goodIn_app (goodIn_of _ (by decide +kernel)) ggX0_momentLeft_X0_at
set_option maxRecDepth 20000 in
theorem ggX0_momentLeft_J9_floorMod_7cf53 : GoodIn wsX0_momentLeft wsJ9_floorMod_7cf53 := goodIn_r _ [11] (by decide +kernel) (by decide +kernel)
set_option maxRecDepth 20000 in
theorem gX0_momentLeft_J9_floorMod_7cf53 : GoodIn wsX0_momentLeft (va_wsS RX0 40 yJ9_floorMod_7cf53 wsJ9_floorMod_7cf53) := goodIn_app (goodIn_of _ (by decide +kernel)) ggX0_momentLeft_J9_floorMod_7cf53
theorem dX0_momentLeft_0 : decode cX0_momentLeft 0 = .ok (.iconst 0, 1) := by decide +kernel
theorem dX0_momentLeft_1 : decode cX0_momentLeft 1 = .ok (.istore_n 1, 1) := by decide +kernel
theorem dX0_momentLeft_2 : decode cX0_momentLeft 2 = .ok (.iconst 0, 1) := by decide +kernel
theorem dX0_momentLeft_3 : decode cX0_momentLeft 3 = .ok (.istore_n 2, 1) := by decide +kernel
theorem dX0_momentLeft_4 : decode cX0_momentLeft 4 = .ok (.iload_n 2, 1) := by decide +kernel
theorem dX0_momentLeft_5 : decode cX0_momentLeft 5 = .ok (.aload_n 0, 1) := by decide +kernel
theorem dX0_momentLeft_6 : decode cX0_momentLeft 6 = .ok (.getfield 15, 3) := by decide +kernel
theorem dX0_momentLeft_9 : decode cX0_momentLeft 9 = .ok (.if_icmp .ge 19, 3) := by decide +kernel
theorem dX0_momentLeft_12 : decode cX0_momentLeft 12 = .ok (.iload_n 1, 1) := by decide +kernel
theorem dX0_momentLeft_13 : decode cX0_momentLeft 13 = .ok (.aload_n 0, 1) := by decide +kernel
theorem dX0_momentLeft_14 : decode cX0_momentLeft 14 = .ok (.iload_n 2, 1) := by decide +kernel
theorem dX0_momentLeft_15 : decode cX0_momentLeft 15 = .ok (.invokevirtual 23, 3) := by decide +kernel
theorem dX0_momentLeft_18 : decode cX0_momentLeft 18 = .ok (.iload_n 2, 1) := by decide +kernel
theorem dX0_momentLeft_19 : decode cX0_momentLeft 19 = .ok (.imul, 1) := by decide +kernel
theorem dX0_momentLeft_20 : decode cX0_momentLeft 20 = .ok (.iadd, 1) := by decide +kernel
theorem dX0_momentLeft_21 : decode cX0_momentLeft 21 = .ok (.istore_n 1, 1) := by decide +kernel
theorem dX0_momentLeft_22 : decode cX0_momentLeft 22 = .ok (.iinc 2 1, 3) := by decide +kernel
theorem dX0_momentLeft_25 : decode cX0_momentLeft 25 = .ok (.goto (-21), 3) := by decide +kernel
theorem dX0_momentLeft_28 : decode cX0_momentLeft 28 = .ok (.aload_n 0, 1) := by decide +kernel
theorem dX0_momentLeft_29 : decode cX0_momentLeft 29 = .ok (.getfield 15, 3) := by decide +kernel
theorem dX0_momentLeft_32 : decode cX0_momentLeft 32 = .ok (.ifCond .le 14, 3) := by decide +kernel
theorem dX0_momentLeft_35 : decode cX0_momentLeft 35 = .ok (.iload_n 1, 1) := by decide +kernel
theorem dX0_momentLeft_36 : decode cX0_momentLeft 36 = .ok (.aload_n 0, 1) := by decide +kernel
theorem dX0_momentLeft_37 : decode cX0_momentLeft 37 = .ok (.getfield 15, 3) := by decide +kernel
theorem dX0_momentLeft_40 : decode cX0_momentLeft 40 = .ok (.invokestatic 40, 3) := by decide +kernel
theorem dX0_momentLeft_43 : decode cX0_momentLeft 43 = .ok (.goto 4, 3) := by decide +kernel
theorem dX0_momentLeft_46 : decode cX0_momentLeft 46 = .ok (.iconst 0, 1) := by decide +kernel
theorem dX0_momentLeft_47 : decode cX0_momentLeft 47 = .ok (.ireturn, 1) := by decide +kernel
set_option maxRecDepth 20000 in
theorem ggX0_firstGreatest_X0_at : GoodIn wsX0_firstGreatest wsX0_at := goodIn_r _ [6, 7, 8, 9] (by decide +kernel) (by decide +kernel)
set_option maxRecDepth 20000 in
theorem gX0_firstGreatest_X0_at : GoodIn wsX0_firstGreatest (wsV RX0 23 RX0 yX0_at wsX0_at) := goodIn_app (goodIn_of _ (by decide +kernel)) ggX0_firstGreatest_X0_at
theorem dX0_firstGreatest_0 : decode cX0_firstGreatest 0 = .ok (.iconst 0, 1) := by decide +kernel
theorem dX0_firstGreatest_1 : decode cX0_firstGreatest 1 = .ok (.istore_n 1, 1) := by decide +kernel
theorem dX0_firstGreatest_2 : decode cX0_firstGreatest 2 = .ok (.iconst 1, 1) := by decide +kernel
theorem dX0_firstGreatest_3 : decode cX0_firstGreatest 3 = .ok (.istore_n 2, 1) := by decide +kernel
theorem dX0_firstGreatest_4 : decode cX0_firstGreatest 4 = .ok (.iload_n 2, 1) := by decide +kernel
theorem dX0_firstGreatest_5 : decode cX0_firstGreatest 5 = .ok (.aload_n 0, 1) := by decide +kernel
theorem dX0_firstGreatest_6 : decode cX0_firstGreatest 6 = .ok (.getfield 15, 3) := by decide +kernel
theorem dX0_firstGreatest_9 : decode cX0_firstGreatest 9 = .ok (.if_icmp .ge 24, 3) := by decide +kernel
theorem dX0_firstGreatest_12 : decode cX0_firstGreatest 12 = .ok (.aload_n 0, 1) := by decide +kernel
theorem dX0_firstGreatest_13 : decode cX0_firstGreatest 13 = .ok (.iload_n 2, 1) := by decide +kernel
theorem dX0_firstGreatest_14 : decode cX0_firstGreatest 14 = .ok (.invokevirtual 23, 3) := by decide +kernel
theorem dX0_firstGreatest_17 : decode cX0_firstGreatest 17 = .ok (.aload_n 0, 1) := by decide +kernel
theorem dX0_firstGreatest_18 : decode cX0_firstGreatest 18 = .ok (.iload_n 1, 1) := by decide +kernel
theorem dX0_firstGreatest_19 : decode cX0_firstGreatest 19 = .ok (.invokevirtual 23, 3) := by decide +kernel
theorem dX0_firstGreatest_22 : decode cX0_firstGreatest 22 = .ok (.if_icmp .le 5, 3) := by decide +kernel
theorem dX0_firstGreatest_25 : decode cX0_firstGreatest 25 = .ok (.iload_n 2, 1) := by decide +kernel
theorem dX0_firstGreatest_26 : decode cX0_firstGreatest 26 = .ok (.istore_n 1, 1) := by decide +kernel
theorem dX0_firstGreatest_27 : decode cX0_firstGreatest 27 = .ok (.iinc 2 1, 3) := by decide +kernel
theorem dX0_firstGreatest_30 : decode cX0_firstGreatest 30 = .ok (.goto (-26), 3) := by decide +kernel
theorem dX0_firstGreatest_33 : decode cX0_firstGreatest 33 = .ok (.iload_n 1, 1) := by decide +kernel
theorem dX0_firstGreatest_34 : decode cX0_firstGreatest 34 = .ok (.ireturn, 1) := by decide +kernel
set_option maxRecDepth 20000 in
theorem ggX0_span_X0_at : GoodIn wsX0_span wsX0_at := goodIn_r _ [10, 11, 16, 17] (by decide +kernel) (by decide +kernel)
set_option maxRecDepth 20000 in
theorem gX0_span_X0_at : GoodIn wsX0_span (wsV RX0 23 RX0 yX0_at wsX0_at) := goodIn_app (goodIn_of _ (by decide +kernel)) ggX0_span_X0_at
set_option maxRecDepth 20000 in
theorem ggX0_span_X0_firstGreatest : GoodIn wsX0_span wsX0_firstGreatest := goodIn_r _ [15, 1, 6, 7, 8, 9, 10, 11, 16, 17] (by decide +kernel) (by decide +kernel)
set_option maxRecDepth 20000 in
theorem gX0_span_X0_firstGreatest : GoodIn wsX0_span (wsV RX0 49 RX0 yX0_firstGreatest wsX0_firstGreatest) := goodIn_app (goodIn_of _ (by decide +kernel)) ggX0_span_X0_firstGreatest
theorem dX0_span_0 : decode cX0_span 0 = .ok (.aload_n 0, 1) := by decide +kernel
theorem dX0_span_1 : decode cX0_span 1 = .ok (.iconst 0, 1) := by decide +kernel
theorem dX0_span_2 : decode cX0_span 2 = .ok (.invokevirtual 23, 3) := by decide +kernel
theorem dX0_span_5 : decode cX0_span 5 = .ok (.istore_n 1, 1) := by decide +kernel
theorem dX0_span_6 : decode cX0_span 6 = .ok (.iconst 1, 1) := by decide +kernel
theorem dX0_span_7 : decode cX0_span 7 = .ok (.istore_n 2, 1) := by decide +kernel
theorem dX0_span_8 : decode cX0_span 8 = .ok (.iload_n 2, 1) := by decide +kernel
theorem dX0_span_9 : decode cX0_span 9 = .ok (.aload_n 0, 1) := by decide +kernel
theorem dX0_span_10 : decode cX0_span 10 = .ok (.getfield 15, 3) := by decide +kernel
theorem dX0_span_13 : decode cX0_span 13 = .ok (.if_icmp .ge 19, 3) := by decide +kernel
theorem dX0_span_16 : decode cX0_span 16 = .ok (.iload_n 1, 1) := by decide +kernel
theorem dX0_span_17 : decode cX0_span 17 = .ok (.aload_n 0, 1) := by decide +kernel
theorem dX0_span_18 : decode cX0_span 18 = .ok (.iload_n 2, 1) := by decide +kernel
theorem dX0_span_19 : decode cX0_span 19 = .ok (.invokevirtual 23, 3) := by decide +kernel
theorem dX0_span_22 : decode cX0_span 22 = .ok (.invokestatic 46, 3) := by decide +kernel
theorem dX0_span_25 : decode cX0_span 25 = .ok (.istore_n 1, 1) := by decide +kernel
theorem dX0_span_26 : decode cX0_span 26 = .ok (.iinc 2 1, 3) := by decide +kernel
theorem dX0_span_29 : decode cX0_span 29 = .ok (.goto (-21), 3) := by decide +kernel
theorem dX0_span_32 : decode cX0_span 32 = .ok (.aload_n 0, 1) := by decide +kernel
theorem dX0_span_33 : decode cX0_span 33 = .ok (.aload_n 0, 1) := by decide +kernel
theorem dX0_span_34 : decode cX0_span 34 = .ok (.invokevirtual 49, 3) := by decide +kernel
theorem dX0_span_37 : decode cX0_span 37 = .ok (.invokevirtual 23, 3) := by decide +kernel
theorem dX0_span_40 : decode cX0_span 40 = .ok (.iload_n 1, 1) := by decide +kernel
theorem dX0_span_41 : decode cX0_span 41 = .ok (.isub, 1) := by decide +kernel
theorem dX0_span_42 : decode cX0_span 42 = .ok (.ireturn, 1) := by decide +kernel
set_option maxRecDepth 20000 in
theorem ggX0_steepAt_X0_at : GoodIn wsX0_steepAt wsX0_at := goodIn_r _ [5, 6, 12, 13] (by decide +kernel) (by decide +kernel)
set_option maxRecDepth 20000 in
theorem gX0_steepAt_X0_at : GoodIn wsX0_steepAt (wsV RX0 23 RX0 yX0_at wsX0_at) := goodIn_app (goodIn_of _ (by decide +kernel)) ggX0_steepAt_X0_at
set_option maxRecDepth 20000 in
theorem ggX0_steepAt_X0_onRing : GoodIn wsX0_steepAt wsX0_onRing := goodIn_r _ [10, 11, 12, 13] (by decide +kernel) (by decide +kernel)
set_option maxRecDepth 20000 in
theorem gX0_steepAt_X0_onRing : GoodIn wsX0_steepAt (wsV RX0 30 RX0 yX0_onRing wsX0_onRing) := goodIn_app (goodIn_of _ (by decide +kernel)) ggX0_steepAt_X0_onRing
theorem dX0_steepAt_0 : decode cX0_steepAt 0 = .ok (.iconst 2, 1) := by decide +kernel
theorem dX0_steepAt_1 : decode cX0_steepAt 1 = .ok (.aload_n 0, 1) := by decide +kernel
theorem dX0_steepAt_2 : decode cX0_steepAt 2 = .ok (.iload_n 1, 1) := by decide +kernel
theorem dX0_steepAt_3 : decode cX0_steepAt 3 = .ok (.invokevirtual 23, 3) := by decide +kernel
theorem dX0_steepAt_6 : decode cX0_steepAt 6 = .ok (.imul, 1) := by decide +kernel
theorem dX0_steepAt_7 : decode cX0_steepAt 7 = .ok (.aload_n 0, 1) := by decide +kernel
theorem dX0_steepAt_8 : decode cX0_steepAt 8 = .ok (.aload_n 0, 1) := by decide +kernel
theorem dX0_steepAt_9 : decode cX0_steepAt 9 = .ok (.iload_n 1, 1) := by decide +kernel
theorem dX0_steepAt_10 : decode cX0_steepAt 10 = .ok (.iconst 1, 1) := by decide +kernel
theorem dX0_steepAt_11 : decode cX0_steepAt 11 = .ok (.iadd, 1) := by decide +kernel
theorem dX0_steepAt_12 : decode cX0_steepAt 12 = .ok (.invokevirtual 30, 3) := by decide +kernel
theorem dX0_steepAt_15 : decode cX0_steepAt 15 = .ok (.invokevirtual 23, 3) := by decide +kernel
theorem dX0_steepAt_18 : decode cX0_steepAt 18 = .ok (.isub, 1) := by decide +kernel
theorem dX0_steepAt_19 : decode cX0_steepAt 19 = .ok (.aload_n 0, 1) := by decide +kernel
theorem dX0_steepAt_20 : decode cX0_steepAt 20 = .ok (.aload_n 0, 1) := by decide +kernel
theorem dX0_steepAt_21 : decode cX0_steepAt 21 = .ok (.iload_n 1, 1) := by decide +kernel
theorem dX0_steepAt_22 : decode cX0_steepAt 22 = .ok (.iconst 1, 1) := by decide +kernel
theorem dX0_steepAt_23 : decode cX0_steepAt 23 = .ok (.isub, 1) := by decide +kernel
theorem dX0_steepAt_24 : decode cX0_steepAt 24 = .ok (.invokevirtual 30, 3) := by decide +kernel
theorem dX0_steepAt_27 : decode cX0_steepAt 27 = .ok (.invokevirtual 23, 3) := by decide +kernel
theorem dX0_steepAt_30 : decode cX0_steepAt 30 = .ok (.isub, 1) := by decide +kernel
theorem dX0_steepAt_31 : decode cX0_steepAt 31 = .ok (.iconst 3, 1) := by decide +kernel
theorem dX0_steepAt_32 : decode cX0_steepAt 32 = .ok (.if_icmp .le 7, 3) := by decide +kernel
theorem dX0_steepAt_35 : decode cX0_steepAt 35 = .ok (.iconst 1, 1) := by decide +kernel
theorem dX0_steepAt_36 : decode cX0_steepAt 36 = .ok (.goto 4, 3) := by decide +kernel
theorem dX0_steepAt_39 : decode cX0_steepAt 39 = .ok (.iconst 0, 1) := by decide +kernel
theorem dX0_steepAt_40 : decode cX0_steepAt 40 = .ok (.ireturn, 1) := by decide +kernel
set_option maxRecDepth 20000 in
theorem ggX0_firstSteep_X0_steepAt : GoodIn wsX0_firstSteep wsX0_steepAt := goodIn_r _ [6, 7, 8, 9, 5, 10, 11, 12, 13, 14, 15, 1, 16, 17] (by decide +kernel) (by decide +kernel)
set_option maxRecDepth 20000 in
theorem gX0_firstSteep_X0_steepAt : GoodIn wsX0_firstSteep (wsV RX0 52 RX0 yX0_steepAt wsX0_steepAt) := goodIn_app (goodIn_of _ (by decide +kernel)) ggX0_firstSteep_X0_steepAt
theorem dX0_firstSteep_0 : decode cX0_firstSteep 0 = .ok (.iconst 0, 1) := by decide +kernel
theorem dX0_firstSteep_1 : decode cX0_firstSteep 1 = .ok (.istore_n 1, 1) := by decide +kernel
theorem dX0_firstSteep_2 : decode cX0_firstSteep 2 = .ok (.iload_n 1, 1) := by decide +kernel
theorem dX0_firstSteep_3 : decode cX0_firstSteep 3 = .ok (.aload_n 0, 1) := by decide +kernel
theorem dX0_firstSteep_4 : decode cX0_firstSteep 4 = .ok (.getfield 15, 3) := by decide +kernel
theorem dX0_firstSteep_7 : decode cX0_firstSteep 7 = .ok (.if_icmp .ge 19, 3) := by decide +kernel
theorem dX0_firstSteep_10 : decode cX0_firstSteep 10 = .ok (.aload_n 0, 1) := by decide +kernel
theorem dX0_firstSteep_11 : decode cX0_firstSteep 11 = .ok (.iload_n 1, 1) := by decide +kernel
theorem dX0_firstSteep_12 : decode cX0_firstSteep 12 = .ok (.invokevirtual 52, 3) := by decide +kernel
theorem dX0_firstSteep_15 : decode cX0_firstSteep 15 = .ok (.ifCond .eq 5, 3) := by decide +kernel
theorem dX0_firstSteep_18 : decode cX0_firstSteep 18 = .ok (.iload_n 1, 1) := by decide +kernel
theorem dX0_firstSteep_19 : decode cX0_firstSteep 19 = .ok (.ireturn, 1) := by decide +kernel
theorem dX0_firstSteep_20 : decode cX0_firstSteep 20 = .ok (.iinc 1 1, 3) := by decide +kernel
theorem dX0_firstSteep_23 : decode cX0_firstSteep 23 = .ok (.goto (-21), 3) := by decide +kernel
theorem dX0_firstSteep_26 : decode cX0_firstSteep 26 = .ok (.iconst (-1), 1) := by decide +kernel
theorem dX0_firstSteep_27 : decode cX0_firstSteep 27 = .ok (.ireturn, 1) := by decide +kernel
set_option maxRecDepth 20000 in
theorem ggX0_tiltOn_X0_onRing : GoodIn wsX0_tiltOn wsX0_onRing := goodIn_r _ [6, 1, 12, 13] (by decide +kernel) (by decide +kernel)
set_option maxRecDepth 20000 in
theorem gX0_tiltOn_X0_onRing : GoodIn wsX0_tiltOn (wsV RX0 30 RX0 yX0_onRing wsX0_onRing) := goodIn_app (goodIn_of _ (by decide +kernel)) ggX0_tiltOn_X0_onRing
set_option maxRecDepth 20000 in
theorem ggX0_tiltOn_X0_at : GoodIn wsX0_tiltOn wsX0_at := goodIn_r _ [10, 11, 12, 13] (by decide +kernel) (by decide +kernel)
set_option maxRecDepth 20000 in
theorem gX0_tiltOn_X0_at : GoodIn wsX0_tiltOn (wsV RX0 23 RX0 yX0_at wsX0_at) := goodIn_app (goodIn_of _ (by decide +kernel)) ggX0_tiltOn_X0_at
theorem dX0_tiltOn_0 : decode cX0_tiltOn 0 = .ok (.iconst 0, 1) := by decide +kernel
theorem dX0_tiltOn_1 : decode cX0_tiltOn 1 = .ok (.istore_n 2, 1) := by decide +kernel
theorem dX0_tiltOn_2 : decode cX0_tiltOn 2 = .ok (.iconst 1, 1) := by decide +kernel
theorem dX0_tiltOn_3 : decode cX0_tiltOn 3 = .ok (.istore_n 3, 1) := by decide +kernel
theorem dX0_tiltOn_4 : decode cX0_tiltOn 4 = .ok (.iload_n 3, 1) := by decide +kernel
theorem dX0_tiltOn_5 : decode cX0_tiltOn 5 = .ok (.aload_n 0, 1) := by decide +kernel
theorem dX0_tiltOn_6 : decode cX0_tiltOn 6 = .ok (.getfield 15, 3) := by decide +kernel
theorem dX0_tiltOn_9 : decode cX0_tiltOn 9 = .ok (.iconst 1, 1) := by decide +kernel
theorem dX0_tiltOn_10 : decode cX0_tiltOn 10 = .ok (.isub, 1) := by decide +kernel
theorem dX0_tiltOn_11 : decode cX0_tiltOn 11 = .ok (.iconst 2, 1) := by decide +kernel
theorem dX0_tiltOn_12 : decode cX0_tiltOn 12 = .ok (.idiv, 1) := by decide +kernel
theorem dX0_tiltOn_13 : decode cX0_tiltOn 13 = .ok (.if_icmp .gt 37, 3) := by decide +kernel
theorem dX0_tiltOn_16 : decode cX0_tiltOn 16 = .ok (.iload_n 2, 1) := by decide +kernel
theorem dX0_tiltOn_17 : decode cX0_tiltOn 17 = .ok (.aload_n 0, 1) := by decide +kernel
theorem dX0_tiltOn_18 : decode cX0_tiltOn 18 = .ok (.aload_n 0, 1) := by decide +kernel
theorem dX0_tiltOn_19 : decode cX0_tiltOn 19 = .ok (.iload_n 1, 1) := by decide +kernel
theorem dX0_tiltOn_20 : decode cX0_tiltOn 20 = .ok (.iload_n 3, 1) := by decide +kernel
theorem dX0_tiltOn_21 : decode cX0_tiltOn 21 = .ok (.iadd, 1) := by decide +kernel
theorem dX0_tiltOn_22 : decode cX0_tiltOn 22 = .ok (.invokevirtual 30, 3) := by decide +kernel
theorem dX0_tiltOn_25 : decode cX0_tiltOn 25 = .ok (.invokevirtual 23, 3) := by decide +kernel
theorem dX0_tiltOn_28 : decode cX0_tiltOn 28 = .ok (.aload_n 0, 1) := by decide +kernel
theorem dX0_tiltOn_29 : decode cX0_tiltOn 29 = .ok (.aload_n 0, 1) := by decide +kernel
theorem dX0_tiltOn_30 : decode cX0_tiltOn 30 = .ok (.iload_n 1, 1) := by decide +kernel
theorem dX0_tiltOn_31 : decode cX0_tiltOn 31 = .ok (.iload_n 3, 1) := by decide +kernel
theorem dX0_tiltOn_32 : decode cX0_tiltOn 32 = .ok (.isub, 1) := by decide +kernel
theorem dX0_tiltOn_33 : decode cX0_tiltOn 33 = .ok (.invokevirtual 30, 3) := by decide +kernel
theorem dX0_tiltOn_36 : decode cX0_tiltOn 36 = .ok (.invokevirtual 23, 3) := by decide +kernel
theorem dX0_tiltOn_39 : decode cX0_tiltOn 39 = .ok (.isub, 1) := by decide +kernel
theorem dX0_tiltOn_40 : decode cX0_tiltOn 40 = .ok (.iload_n 3, 1) := by decide +kernel
theorem dX0_tiltOn_41 : decode cX0_tiltOn 41 = .ok (.imul, 1) := by decide +kernel
theorem dX0_tiltOn_42 : decode cX0_tiltOn 42 = .ok (.iadd, 1) := by decide +kernel
theorem dX0_tiltOn_43 : decode cX0_tiltOn 43 = .ok (.istore_n 2, 1) := by decide +kernel
theorem dX0_tiltOn_44 : decode cX0_tiltOn 44 = .ok (.iinc 3 1, 3) := by decide +kernel
theorem dX0_tiltOn_47 : decode cX0_tiltOn 47 = .ok (.goto (-43), 3) := by decide +kernel
theorem dX0_tiltOn_50 : decode cX0_tiltOn 50 = .ok (.iload_n 2, 1) := by decide +kernel
theorem dX0_tiltOn_51 : decode cX0_tiltOn 51 = .ok (.ireturn, 1) := by decide +kernel
set_option maxRecDepth 20000 in
theorem ggX0_differencesFrom_X0_at : GoodIn wsX0_differencesFrom wsX0_at := goodIn_r _ [6, 7, 8, 9] (by decide +kernel) (by decide +kernel)
set_option maxRecDepth 20000 in
theorem gX0_differencesFrom_X0_at : GoodIn wsX0_differencesFrom (wsV RX0 23 RX0 yX0_at wsX0_at) := goodIn_app (goodIn_of _ (by decide +kernel)) ggX0_differencesFrom_X0_at
theorem dX0_differencesFrom_0 : decode cX0_differencesFrom 0 = .ok (.iconst 0, 1) := by decide +kernel
theorem dX0_differencesFrom_1 : decode cX0_differencesFrom 1 = .ok (.istore_n 2, 1) := by decide +kernel
theorem dX0_differencesFrom_2 : decode cX0_differencesFrom 2 = .ok (.iconst 0, 1) := by decide +kernel
theorem dX0_differencesFrom_3 : decode cX0_differencesFrom 3 = .ok (.istore_n 3, 1) := by decide +kernel
theorem dX0_differencesFrom_4 : decode cX0_differencesFrom 4 = .ok (.iload_n 3, 1) := by decide +kernel
theorem dX0_differencesFrom_5 : decode cX0_differencesFrom 5 = .ok (.aload_n 0, 1) := by decide +kernel
theorem dX0_differencesFrom_6 : decode cX0_differencesFrom 6 = .ok (.getfield 15, 3) := by decide +kernel
theorem dX0_differencesFrom_9 : decode cX0_differencesFrom 9 = .ok (.if_icmp .ge 25, 3) := by decide +kernel
theorem dX0_differencesFrom_12 : decode cX0_differencesFrom 12 = .ok (.aload_n 0, 1) := by decide +kernel
theorem dX0_differencesFrom_13 : decode cX0_differencesFrom 13 = .ok (.iload_n 3, 1) := by decide +kernel
theorem dX0_differencesFrom_14 : decode cX0_differencesFrom 14 = .ok (.invokevirtual 23, 3) := by decide +kernel
theorem dX0_differencesFrom_17 : decode cX0_differencesFrom 17 = .ok (.aload_n 1, 1) := by decide +kernel
theorem dX0_differencesFrom_18 : decode cX0_differencesFrom 18 = .ok (.iload_n 3, 1) := by decide +kernel
theorem dX0_differencesFrom_19 : decode cX0_differencesFrom 19 = .ok (.invokevirtual 23, 3) := by decide +kernel
theorem dX0_differencesFrom_22 : decode cX0_differencesFrom 22 = .ok (.if_icmp .eq 6, 3) := by decide +kernel
theorem dX0_differencesFrom_25 : decode cX0_differencesFrom 25 = .ok (.iinc 2 1, 3) := by decide +kernel
theorem dX0_differencesFrom_28 : decode cX0_differencesFrom 28 = .ok (.iinc 3 1, 3) := by decide +kernel
theorem dX0_differencesFrom_31 : decode cX0_differencesFrom 31 = .ok (.goto (-27), 3) := by decide +kernel
theorem dX0_differencesFrom_34 : decode cX0_differencesFrom 34 = .ok (.iload_n 2, 1) := by decide +kernel
theorem dX0_differencesFrom_35 : decode cX0_differencesFrom 35 = .ok (.ireturn, 1) := by decide +kernel
set_option maxRecDepth 20000 in
theorem ggX0_canBecome_X0_total : GoodIn wsX0_canBecome wsX0_total := goodIn_r _ [5, 6, 7, 8, 9, 4, 10, 11, 20, 21] (by decide +kernel) (by decide +kernel)
set_option maxRecDepth 20000 in
theorem gX0_canBecome_X0_total : GoodIn wsX0_canBecome (wsV RX0 56 RX0 yX0_total wsX0_total) := goodIn_app (goodIn_of _ (by decide +kernel)) ggX0_canBecome_X0_total
set_option maxRecDepth 20000 in
theorem ggX0_canBecome_X0_momentLeft : GoodIn wsX0_canBecome wsX0_momentLeft := goodIn_r _ [15, 6, 7, 8, 9, 4, 10, 11, 16, 17, 18, 19, 20, 21] (by decide +kernel) (by decide +kernel)
set_option maxRecDepth 20000 in
theorem gX0_canBecome_X0_momentLeft : GoodIn wsX0_canBecome (wsV RX0 59 RX0 yX0_momentLeft wsX0_momentLeft) := goodIn_app (goodIn_of _ (by decide +kernel)) ggX0_canBecome_X0_momentLeft
theorem dX0_canBecome_0 : decode cX0_canBecome 0 = .ok (.aload_n 0, 1) := by decide +kernel
theorem dX0_canBecome_1 : decode cX0_canBecome 1 = .ok (.invokevirtual 56, 3) := by decide +kernel
theorem dX0_canBecome_4 : decode cX0_canBecome 4 = .ok (.aload_n 1, 1) := by decide +kernel
theorem dX0_canBecome_5 : decode cX0_canBecome 5 = .ok (.invokevirtual 56, 3) := by decide +kernel
theorem dX0_canBecome_8 : decode cX0_canBecome 8 = .ok (.if_icmp .ne 18, 3) := by decide +kernel
theorem dX0_canBecome_11 : decode cX0_canBecome 11 = .ok (.aload_n 0, 1) := by decide +kernel
theorem dX0_canBecome_12 : decode cX0_canBecome 12 = .ok (.invokevirtual 59, 3) := by decide +kernel
theorem dX0_canBecome_15 : decode cX0_canBecome 15 = .ok (.aload_n 1, 1) := by decide +kernel
theorem dX0_canBecome_16 : decode cX0_canBecome 16 = .ok (.invokevirtual 59, 3) := by decide +kernel
theorem dX0_canBecome_19 : decode cX0_canBecome 19 = .ok (.if_icmp .ne 7, 3) := by decide +kernel
theorem dX0_canBecome_22 : decode cX0_canBecome 22 = .ok (.iconst 1, 1) := by decide +kernel
theorem dX0_canBecome_23 : decode cX0_canBecome 23 = .ok (.goto 4, 3) := by decide +kernel
theorem dX0_canBecome_26 : decode cX0_canBecome 26 = .ok (.iconst 0, 1) := by decide +kernel
theorem dX0_canBecome_27 : decode cX0_canBecome 27 = .ok (.ireturn, 1) := by decide +kernel
set_option maxRecDepth 20000 in
theorem ggX0_add_X0_at : GoodIn wsX0_add wsX0_at := goodIn_r _ [5, 6, 11, 12] (by decide +kernel) (by decide +kernel)
set_option maxRecDepth 20000 in
theorem gX0_add_X0_at : GoodIn wsX0_add (wsV RX0 23 RX0 yX0_at wsX0_at) := goodIn_app (goodIn_of _ (by decide +kernel)) ggX0_add_X0_at
set_option maxRecDepth 20000 in
theorem ggX0_add_X0_write : GoodIn wsX0_add wsX0_write := goodIn_r _ [10, 6, 11, 12] (by decide +kernel) (by decide +kernel)
set_option maxRecDepth 20000 in
theorem gX0_add_X0_write : GoodIn wsX0_add (wsV RX0 19 RX0 yX0_write wsX0_write) := goodIn_app (goodIn_of _ (by decide +kernel)) ggX0_add_X0_write
theorem dX0_add_0 : decode cX0_add 0 = .ok (.aload_n 0, 1) := by decide +kernel
theorem dX0_add_1 : decode cX0_add 1 = .ok (.iload_n 1, 1) := by decide +kernel
theorem dX0_add_2 : decode cX0_add 2 = .ok (.aload_n 0, 1) := by decide +kernel
theorem dX0_add_3 : decode cX0_add 3 = .ok (.iload_n 1, 1) := by decide +kernel
theorem dX0_add_4 : decode cX0_add 4 = .ok (.invokevirtual 23, 3) := by decide +kernel
theorem dX0_add_7 : decode cX0_add 7 = .ok (.iload_n 2, 1) := by decide +kernel
theorem dX0_add_8 : decode cX0_add 8 = .ok (.iadd, 1) := by decide +kernel
theorem dX0_add_9 : decode cX0_add 9 = .ok (.invokevirtual 19, 3) := by decide +kernel
theorem dX0_add_12 : decode cX0_add 12 = .ok (.return_, 1) := by decide +kernel
theorem dX0_onRing_0 : decode cX0_onRing 0 = .ok (.iload_n 1, 1) := by decide +kernel
theorem dX0_onRing_1 : decode cX0_onRing 1 = .ok (.ifCond .ge 10, 3) := by decide +kernel
theorem dX0_onRing_4 : decode cX0_onRing 4 = .ok (.iload_n 1, 1) := by decide +kernel
theorem dX0_onRing_5 : decode cX0_onRing 5 = .ok (.aload_n 0, 1) := by decide +kernel
theorem dX0_onRing_6 : decode cX0_onRing 6 = .ok (.getfield 15, 3) := by decide +kernel
theorem dX0_onRing_9 : decode cX0_onRing 9 = .ok (.iadd, 1) := by decide +kernel
theorem dX0_onRing_10 : decode cX0_onRing 10 = .ok (.ireturn, 1) := by decide +kernel
theorem dX0_onRing_11 : decode cX0_onRing 11 = .ok (.iload_n 1, 1) := by decide +kernel
theorem dX0_onRing_12 : decode cX0_onRing 12 = .ok (.aload_n 0, 1) := by decide +kernel
theorem dX0_onRing_13 : decode cX0_onRing 13 = .ok (.getfield 15, 3) := by decide +kernel
theorem dX0_onRing_16 : decode cX0_onRing 16 = .ok (.if_icmp .ge 7, 3) := by decide +kernel
theorem dX0_onRing_19 : decode cX0_onRing 19 = .ok (.iload_n 1, 1) := by decide +kernel
theorem dX0_onRing_20 : decode cX0_onRing 20 = .ok (.goto 9, 3) := by decide +kernel
theorem dX0_onRing_23 : decode cX0_onRing 23 = .ok (.iload_n 1, 1) := by decide +kernel
theorem dX0_onRing_24 : decode cX0_onRing 24 = .ok (.aload_n 0, 1) := by decide +kernel
theorem dX0_onRing_25 : decode cX0_onRing 25 = .ok (.getfield 15, 3) := by decide +kernel
theorem dX0_onRing_28 : decode cX0_onRing 28 = .ok (.isub, 1) := by decide +kernel
theorem dX0_onRing_29 : decode cX0_onRing 29 = .ok (.ireturn, 1) := by decide +kernel
theorem dX1_init_0 : decode cX1_init 0 = .ok (.aload_n 0, 1) := by decide +kernel
theorem dX1_init_1 : decode cX1_init 1 = .ok (.invokespecial 3, 3) := by decide +kernel
theorem dX1_init_4 : decode cX1_init 4 = .ok (.aload_n 0, 1) := by decide +kernel
theorem dX1_init_5 : decode cX1_init 5 = .ok (.bipush 12, 2) := by decide +kernel
theorem dX1_init_7 : decode cX1_init 7 = .ok (.newarray .int, 2) := by decide +kernel
theorem dX1_init_9 : decode cX1_init 9 = .ok (.putfield 9, 3) := by decide +kernel
theorem dX1_init_12 : decode cX1_init 12 = .ok (.aload_n 0, 1) := by decide +kernel
theorem dX1_init_13 : decode cX1_init 13 = .ok (.iconst 0, 1) := by decide +kernel
theorem dX1_init_14 : decode cX1_init 14 = .ok (.putfield 15, 3) := by decide +kernel
theorem dX1_init_17 : decode cX1_init 17 = .ok (.return_, 1) := by decide +kernel
set_option maxRecDepth 20000 in
theorem ggX1_find_X0_size : GoodIn wsX1_find wsX0_size := goodIn_r _ [7, 8, 21, 22] (by decide +kernel) (by decide +kernel)
set_option maxRecDepth 20000 in
theorem gX1_find_X0_size : GoodIn wsX1_find (wsV RX1 19 RX0 yX0_size wsX0_size) := goodIn_app (goodIn_of _ (by decide +kernel)) ggX1_find_X0_size
set_option maxRecDepth 20000 in
theorem ggX1_find_X1_firstClimb : GoodIn wsX1_find wsX1_firstClimb := goodIn_r _ [13, 1, 14, 15, 16, 6, 17, 18, 19, 20, 21, 22] (by decide +kernel) (by decide +kernel)
set_option maxRecDepth 20000 in
theorem gX1_find_X1_firstClimb : GoodIn wsX1_find (wsV RX1 24 RX1 yX1_firstClimb wsX1_firstClimb) := goodIn_app (goodIn_of _ (by decide +kernel)) ggX1_find_X1_firstClimb
set_option maxRecDepth 20000 in
theorem ggX1_find_X0_at : GoodIn wsX1_find wsX0_at := goodIn_r _ [17, 18, 21, 22] (by decide +kernel) (by decide +kernel)
set_option maxRecDepth 20000 in
theorem gX1_find_X0_at : GoodIn wsX1_find (wsV RX1 28 RX0 yX0_at wsX0_at) := goodIn_app (goodIn_of _ (by decide +kernel)) ggX1_find_X0_at
theorem dX1_find_0 : decode cX1_find 0 = .ok (.aload_n 0, 1) := by decide +kernel
theorem dX1_find_1 : decode cX1_find 1 = .ok (.aload_n 1, 1) := by decide +kernel
theorem dX1_find_2 : decode cX1_find 2 = .ok (.invokevirtual 19, 3) := by decide +kernel
theorem dX1_find_5 : decode cX1_find 5 = .ok (.putfield 15, 3) := by decide +kernel
theorem dX1_find_8 : decode cX1_find 8 = .ok (.aload_n 0, 1) := by decide +kernel
theorem dX1_find_9 : decode cX1_find 9 = .ok (.aload_n 1, 1) := by decide +kernel
theorem dX1_find_10 : decode cX1_find 10 = .ok (.aload_n 2, 1) := by decide +kernel
theorem dX1_find_11 : decode cX1_find 11 = .ok (.invokevirtual 24, 3) := by decide +kernel
theorem dX1_find_14 : decode cX1_find 14 = .ok (.istore_n 3, 1) := by decide +kernel
theorem dX1_find_15 : decode cX1_find 15 = .ok (.iconst 0, 1) := by decide +kernel
theorem dX1_find_16 : decode cX1_find 16 = .ok (.istore 4, 2) := by decide +kernel
theorem dX1_find_18 : decode cX1_find 18 = .ok (.iconst 0, 1) := by decide +kernel
theorem dX1_find_19 : decode cX1_find 19 = .ok (.istore 5, 2) := by decide +kernel
theorem dX1_find_21 : decode cX1_find 21 = .ok (.iload 5, 2) := by decide +kernel
theorem dX1_find_23 : decode cX1_find 23 = .ok (.aload_n 0, 1) := by decide +kernel
theorem dX1_find_24 : decode cX1_find 24 = .ok (.getfield 15, 3) := by decide +kernel
theorem dX1_find_27 : decode cX1_find 27 = .ok (.if_icmp .ge 59, 3) := by decide +kernel
theorem dX1_find_30 : decode cX1_find 30 = .ok (.iload 5, 2) := by decide +kernel
theorem dX1_find_32 : decode cX1_find 32 = .ok (.aload_n 0, 1) := by decide +kernel
theorem dX1_find_33 : decode cX1_find 33 = .ok (.getfield 9, 3) := by decide +kernel
theorem dX1_find_36 : decode cX1_find 36 = .ok (.arraylength, 1) := by decide +kernel
theorem dX1_find_37 : decode cX1_find 37 = .ok (.if_icmp .ge 49, 3) := by decide +kernel
theorem dX1_find_40 : decode cX1_find 40 = .ok (.aload_n 0, 1) := by decide +kernel
theorem dX1_find_41 : decode cX1_find 41 = .ok (.getfield 9, 3) := by decide +kernel
theorem dX1_find_44 : decode cX1_find 44 = .ok (.iload 5, 2) := by decide +kernel
theorem dX1_find_46 : decode cX1_find 46 = .ok (.iload 4, 2) := by decide +kernel
theorem dX1_find_48 : decode cX1_find 48 = .ok (.iastore, 1) := by decide +kernel
theorem dX1_find_49 : decode cX1_find 49 = .ok (.iload_n 3, 1) := by decide +kernel
theorem dX1_find_50 : decode cX1_find 50 = .ok (.iload 5, 2) := by decide +kernel
theorem dX1_find_52 : decode cX1_find 52 = .ok (.ifCond .ne 7, 3) := by decide +kernel
theorem dX1_find_55 : decode cX1_find 55 = .ok (.iconst 0, 1) := by decide +kernel
theorem dX1_find_56 : decode cX1_find 56 = .ok (.goto 16, 3) := by decide +kernel
theorem dX1_find_59 : decode cX1_find 59 = .ok (.aload_n 2, 1) := by decide +kernel
theorem dX1_find_60 : decode cX1_find 60 = .ok (.iload 5, 2) := by decide +kernel
theorem dX1_find_62 : decode cX1_find 62 = .ok (.invokevirtual 28, 3) := by decide +kernel
theorem dX1_find_65 : decode cX1_find 65 = .ok (.aload_n 1, 1) := by decide +kernel
theorem dX1_find_66 : decode cX1_find 66 = .ok (.iload 5, 2) := by decide +kernel
theorem dX1_find_68 : decode cX1_find 68 = .ok (.invokevirtual 28, 3) := by decide +kernel
theorem dX1_find_71 : decode cX1_find 71 = .ok (.isub, 1) := by decide +kernel
theorem dX1_find_72 : decode cX1_find 72 = .ok (.iadd, 1) := by decide +kernel
theorem dX1_find_73 : decode cX1_find 73 = .ok (.istore_n 3, 1) := by decide +kernel
theorem dX1_find_74 : decode cX1_find 74 = .ok (.iload 4, 2) := by decide +kernel
theorem dX1_find_76 : decode cX1_find 76 = .ok (.iload_n 3, 1) := by decide +kernel
theorem dX1_find_77 : decode cX1_find 77 = .ok (.iadd, 1) := by decide +kernel
theorem dX1_find_78 : decode cX1_find 78 = .ok (.istore 4, 2) := by decide +kernel
theorem dX1_find_80 : decode cX1_find 80 = .ok (.iinc 5 1, 3) := by decide +kernel
theorem dX1_find_83 : decode cX1_find 83 = .ok (.goto (-62), 3) := by decide +kernel
theorem dX1_find_86 : decode cX1_find 86 = .ok (.return_, 1) := by decide +kernel
theorem dX1_tipsAt_0 : decode cX1_tipsAt 0 = .ok (.iload_n 1, 1) := by decide +kernel
theorem dX1_tipsAt_1 : decode cX1_tipsAt 1 = .ok (.ifCond .lt 21, 3) := by decide +kernel
theorem dX1_tipsAt_4 : decode cX1_tipsAt 4 = .ok (.iload_n 1, 1) := by decide +kernel
theorem dX1_tipsAt_5 : decode cX1_tipsAt 5 = .ok (.aload_n 0, 1) := by decide +kernel
theorem dX1_tipsAt_6 : decode cX1_tipsAt 6 = .ok (.getfield 9, 3) := by decide +kernel
theorem dX1_tipsAt_9 : decode cX1_tipsAt 9 = .ok (.arraylength, 1) := by decide +kernel
theorem dX1_tipsAt_10 : decode cX1_tipsAt 10 = .ok (.if_icmp .ge 12, 3) := by decide +kernel
theorem dX1_tipsAt_13 : decode cX1_tipsAt 13 = .ok (.aload_n 0, 1) := by decide +kernel
theorem dX1_tipsAt_14 : decode cX1_tipsAt 14 = .ok (.getfield 9, 3) := by decide +kernel
theorem dX1_tipsAt_17 : decode cX1_tipsAt 17 = .ok (.iload_n 1, 1) := by decide +kernel
theorem dX1_tipsAt_18 : decode cX1_tipsAt 18 = .ok (.iaload, 1) := by decide +kernel
theorem dX1_tipsAt_19 : decode cX1_tipsAt 19 = .ok (.goto 4, 3) := by decide +kernel
theorem dX1_tipsAt_22 : decode cX1_tipsAt 22 = .ok (.iconst 0, 1) := by decide +kernel
theorem dX1_tipsAt_23 : decode cX1_tipsAt 23 = .ok (.ireturn, 1) := by decide +kernel
set_option maxRecDepth 20000 in
theorem ggX1_fewest_X1_tipsAt : GoodIn wsX1_fewest wsX1_tipsAt := goodIn_r _ [10, 11, 19, 20] (by decide +kernel) (by decide +kernel)
set_option maxRecDepth 20000 in
theorem gX1_fewest_X1_tipsAt : GoodIn wsX1_fewest (wsV RX1 32 RX1 yX1_tipsAt wsX1_tipsAt) := goodIn_app (goodIn_of _ (by decide +kernel)) ggX1_fewest_X1_tipsAt
set_option maxRecDepth 20000 in
theorem ggX1_fewest_X1_awayFrom : GoodIn wsX1_fewest wsX1_awayFrom := goodIn_r _ [15, 1, 16, 17, 4, 18, 6, 7, 8, 9, 10, 11, 19, 20] (by decide +kernel) (by decide +kernel)
set_option maxRecDepth 20000 in
theorem gX1_fewest_X1_awayFrom : GoodIn wsX1_fewest (wsV RX1 35 RX1 yX1_awayFrom wsX1_awayFrom) := goodIn_app (goodIn_of _ (by decide +kernel)) ggX1_fewest_X1_awayFrom
theorem dX1_fewest_0 : decode cX1_fewest 0 = .ok (.aload_n 0, 1) := by decide +kernel
theorem dX1_fewest_1 : decode cX1_fewest 1 = .ok (.aload_n 0, 1) := by decide +kernel
theorem dX1_fewest_2 : decode cX1_fewest 2 = .ok (.iconst 0, 1) := by decide +kernel
theorem dX1_fewest_3 : decode cX1_fewest 3 = .ok (.invokevirtual 32, 3) := by decide +kernel
theorem dX1_fewest_6 : decode cX1_fewest 6 = .ok (.invokevirtual 35, 3) := by decide +kernel
theorem dX1_fewest_9 : decode cX1_fewest 9 = .ok (.istore_n 1, 1) := by decide +kernel
theorem dX1_fewest_10 : decode cX1_fewest 10 = .ok (.iconst 1, 1) := by decide +kernel
theorem dX1_fewest_11 : decode cX1_fewest 11 = .ok (.istore_n 2, 1) := by decide +kernel
theorem dX1_fewest_12 : decode cX1_fewest 12 = .ok (.iload_n 2, 1) := by decide +kernel
theorem dX1_fewest_13 : decode cX1_fewest 13 = .ok (.aload_n 0, 1) := by decide +kernel
theorem dX1_fewest_14 : decode cX1_fewest 14 = .ok (.getfield 15, 3) := by decide +kernel
theorem dX1_fewest_17 : decode cX1_fewest 17 = .ok (.if_icmp .ge 23, 3) := by decide +kernel
theorem dX1_fewest_20 : decode cX1_fewest 20 = .ok (.iload_n 1, 1) := by decide +kernel
theorem dX1_fewest_21 : decode cX1_fewest 21 = .ok (.aload_n 0, 1) := by decide +kernel
theorem dX1_fewest_22 : decode cX1_fewest 22 = .ok (.aload_n 0, 1) := by decide +kernel
theorem dX1_fewest_23 : decode cX1_fewest 23 = .ok (.iload_n 2, 1) := by decide +kernel
theorem dX1_fewest_24 : decode cX1_fewest 24 = .ok (.invokevirtual 32, 3) := by decide +kernel
theorem dX1_fewest_27 : decode cX1_fewest 27 = .ok (.invokevirtual 35, 3) := by decide +kernel
theorem dX1_fewest_30 : decode cX1_fewest 30 = .ok (.invokestatic 38, 3) := by decide +kernel
theorem dX1_fewest_33 : decode cX1_fewest 33 = .ok (.istore_n 1, 1) := by decide +kernel
theorem dX1_fewest_34 : decode cX1_fewest 34 = .ok (.iinc 2 1, 3) := by decide +kernel
theorem dX1_fewest_37 : decode cX1_fewest 37 = .ok (.goto (-25), 3) := by decide +kernel
theorem dX1_fewest_40 : decode cX1_fewest 40 = .ok (.iload_n 1, 1) := by decide +kernel
theorem dX1_fewest_41 : decode cX1_fewest 41 = .ok (.ireturn, 1) := by decide +kernel
set_option maxRecDepth 20000 in
theorem ggX1_firstClimb_X0_at : GoodIn wsX1_firstClimb wsX0_at := goodIn_r _ [6, 7, 10, 11] (by decide +kernel) (by decide +kernel)
set_option maxRecDepth 20000 in
theorem gX1_firstClimb_X0_at : GoodIn wsX1_firstClimb (wsV RX1 28 RX0 yX0_at wsX0_at) := goodIn_app (goodIn_of _ (by decide +kernel)) ggX1_firstClimb_X0_at
theorem dX1_firstClimb_0 : decode cX1_firstClimb 0 = .ok (.iconst 0, 1) := by decide +kernel
theorem dX1_firstClimb_1 : decode cX1_firstClimb 1 = .ok (.istore_n 3, 1) := by decide +kernel
theorem dX1_firstClimb_2 : decode cX1_firstClimb 2 = .ok (.iconst 1, 1) := by decide +kernel
theorem dX1_firstClimb_3 : decode cX1_firstClimb 3 = .ok (.istore 4, 2) := by decide +kernel
theorem dX1_firstClimb_5 : decode cX1_firstClimb 5 = .ok (.iload 4, 2) := by decide +kernel
theorem dX1_firstClimb_7 : decode cX1_firstClimb 7 = .ok (.aload_n 0, 1) := by decide +kernel
theorem dX1_firstClimb_8 : decode cX1_firstClimb 8 = .ok (.getfield 15, 3) := by decide +kernel
theorem dX1_firstClimb_11 : decode cX1_firstClimb 11 = .ok (.if_icmp .ge 33, 3) := by decide +kernel
theorem dX1_firstClimb_14 : decode cX1_firstClimb 14 = .ok (.iload_n 3, 1) := by decide +kernel
theorem dX1_firstClimb_15 : decode cX1_firstClimb 15 = .ok (.aload_n 2, 1) := by decide +kernel
theorem dX1_firstClimb_16 : decode cX1_firstClimb 16 = .ok (.iload 4, 2) := by decide +kernel
theorem dX1_firstClimb_18 : decode cX1_firstClimb 18 = .ok (.invokevirtual 28, 3) := by decide +kernel
theorem dX1_firstClimb_21 : decode cX1_firstClimb 21 = .ok (.aload_n 1, 1) := by decide +kernel
theorem dX1_firstClimb_22 : decode cX1_firstClimb 22 = .ok (.iload 4, 2) := by decide +kernel
theorem dX1_firstClimb_24 : decode cX1_firstClimb 24 = .ok (.invokevirtual 28, 3) := by decide +kernel
theorem dX1_firstClimb_27 : decode cX1_firstClimb 27 = .ok (.isub, 1) := by decide +kernel
theorem dX1_firstClimb_28 : decode cX1_firstClimb 28 = .ok (.aload_n 0, 1) := by decide +kernel
theorem dX1_firstClimb_29 : decode cX1_firstClimb 29 = .ok (.getfield 15, 3) := by decide +kernel
theorem dX1_firstClimb_32 : decode cX1_firstClimb 32 = .ok (.iload 4, 2) := by decide +kernel
theorem dX1_firstClimb_34 : decode cX1_firstClimb 34 = .ok (.isub, 1) := by decide +kernel
theorem dX1_firstClimb_35 : decode cX1_firstClimb 35 = .ok (.imul, 1) := by decide +kernel
theorem dX1_firstClimb_36 : decode cX1_firstClimb 36 = .ok (.iadd, 1) := by decide +kernel
theorem dX1_firstClimb_37 : decode cX1_firstClimb 37 = .ok (.istore_n 3, 1) := by decide +kernel
theorem dX1_firstClimb_38 : decode cX1_firstClimb 38 = .ok (.iinc 4 1, 3) := by decide +kernel
theorem dX1_firstClimb_41 : decode cX1_firstClimb 41 = .ok (.goto (-36), 3) := by decide +kernel
theorem dX1_firstClimb_44 : decode cX1_firstClimb 44 = .ok (.aload_n 0, 1) := by decide +kernel
theorem dX1_firstClimb_45 : decode cX1_firstClimb 45 = .ok (.getfield 15, 3) := by decide +kernel
theorem dX1_firstClimb_48 : decode cX1_firstClimb 48 = .ok (.ifCond .le 13, 3) := by decide +kernel
theorem dX1_firstClimb_51 : decode cX1_firstClimb 51 = .ok (.iload_n 3, 1) := by decide +kernel
theorem dX1_firstClimb_52 : decode cX1_firstClimb 52 = .ok (.ineg, 1) := by decide +kernel
theorem dX1_firstClimb_53 : decode cX1_firstClimb 53 = .ok (.aload_n 0, 1) := by decide +kernel
theorem dX1_firstClimb_54 : decode cX1_firstClimb 54 = .ok (.getfield 15, 3) := by decide +kernel
theorem dX1_firstClimb_57 : decode cX1_firstClimb 57 = .ok (.idiv, 1) := by decide +kernel
theorem dX1_firstClimb_58 : decode cX1_firstClimb 58 = .ok (.goto 4, 3) := by decide +kernel
theorem dX1_firstClimb_61 : decode cX1_firstClimb 61 = .ok (.iconst 0, 1) := by decide +kernel
theorem dX1_firstClimb_62 : decode cX1_firstClimb 62 = .ok (.ireturn, 1) := by decide +kernel
set_option maxRecDepth 20000 in
theorem ggX1_awayFrom_X1_tipsAt : GoodIn wsX1_awayFrom wsX1_tipsAt := goodIn_r _ [10, 11, 12, 13] (by decide +kernel) (by decide +kernel)
set_option maxRecDepth 20000 in
theorem gX1_awayFrom_X1_tipsAt : GoodIn wsX1_awayFrom (wsV RX1 32 RX1 yX1_tipsAt wsX1_tipsAt) := goodIn_app (goodIn_of _ (by decide +kernel)) ggX1_awayFrom_X1_tipsAt
theorem dX1_awayFrom_0 : decode cX1_awayFrom 0 = .ok (.iconst 0, 1) := by decide +kernel
theorem dX1_awayFrom_1 : decode cX1_awayFrom 1 = .ok (.istore_n 2, 1) := by decide +kernel
theorem dX1_awayFrom_2 : decode cX1_awayFrom 2 = .ok (.iconst 0, 1) := by decide +kernel
theorem dX1_awayFrom_3 : decode cX1_awayFrom 3 = .ok (.istore_n 3, 1) := by decide +kernel
theorem dX1_awayFrom_4 : decode cX1_awayFrom 4 = .ok (.iload_n 3, 1) := by decide +kernel
theorem dX1_awayFrom_5 : decode cX1_awayFrom 5 = .ok (.aload_n 0, 1) := by decide +kernel
theorem dX1_awayFrom_6 : decode cX1_awayFrom 6 = .ok (.getfield 15, 3) := by decide +kernel
theorem dX1_awayFrom_9 : decode cX1_awayFrom 9 = .ok (.if_icmp .ge 22, 3) := by decide +kernel
theorem dX1_awayFrom_12 : decode cX1_awayFrom 12 = .ok (.iload_n 2, 1) := by decide +kernel
theorem dX1_awayFrom_13 : decode cX1_awayFrom 13 = .ok (.aload_n 0, 1) := by decide +kernel
theorem dX1_awayFrom_14 : decode cX1_awayFrom 14 = .ok (.iload_n 3, 1) := by decide +kernel
theorem dX1_awayFrom_15 : decode cX1_awayFrom 15 = .ok (.invokevirtual 32, 3) := by decide +kernel
theorem dX1_awayFrom_18 : decode cX1_awayFrom 18 = .ok (.iload_n 1, 1) := by decide +kernel
theorem dX1_awayFrom_19 : decode cX1_awayFrom 19 = .ok (.isub, 1) := by decide +kernel
theorem dX1_awayFrom_20 : decode cX1_awayFrom 20 = .ok (.invokestatic 44, 3) := by decide +kernel
theorem dX1_awayFrom_23 : decode cX1_awayFrom 23 = .ok (.iadd, 1) := by decide +kernel
theorem dX1_awayFrom_24 : decode cX1_awayFrom 24 = .ok (.istore_n 2, 1) := by decide +kernel
theorem dX1_awayFrom_25 : decode cX1_awayFrom 25 = .ok (.iinc 3 1, 3) := by decide +kernel
theorem dX1_awayFrom_28 : decode cX1_awayFrom 28 = .ok (.goto (-24), 3) := by decide +kernel
theorem dX1_awayFrom_31 : decode cX1_awayFrom 31 = .ok (.iload_n 2, 1) := by decide +kernel
theorem dX1_awayFrom_32 : decode cX1_awayFrom 32 = .ok (.ireturn, 1) := by decide +kernel
set_option maxRecDepth 20000 in
theorem ggX2_init_X0_init : GoodIn wsX2_init wsX0_init := goodIn_r _ [17, 18, 2, 3, 19, 20, 21, 27, 28] (by decide +kernel) (by decide +kernel)
set_option maxRecDepth 20000 in
theorem gX2_init_X0_init_n9 : GoodIn wsX2_init (wsX0_init) := ggX2_init_X0_init
set_option maxRecDepth 20000 in
theorem ggX2_init_X1_init : GoodIn wsX2_init wsX1_init := goodIn_r _ [23, 24, 2, 3, 19, 25, 26, 35, 36] (by decide +kernel) (by decide +kernel)
set_option maxRecDepth 20000 in
theorem gX2_init_X1_init_n32 : GoodIn wsX2_init (wsX1_init) := ggX2_init_X1_init
theorem dX2_init_0 : decode cX2_init 0 = .ok (.aload_n 0, 1) := by decide +kernel
theorem dX2_init_1 : decode cX2_init 1 = .ok (.invokespecial 1, 3) := by decide +kernel
theorem dX2_init_4 : decode cX2_init 4 = .ok (.aload_n 0, 1) := by decide +kernel
theorem dX2_init_5 : decode cX2_init 5 = .ok (.new 7, 3) := by decide +kernel
theorem dX2_init_8 : decode cX2_init 8 = .ok (.dup, 1) := by decide +kernel
theorem dX2_init_9 : decode cX2_init 9 = .ok (.invokespecial 9, 3) := by decide +kernel
theorem dX2_init_12 : decode cX2_init 12 = .ok (.putfield 10, 3) := by decide +kernel
theorem dX2_init_15 : decode cX2_init 15 = .ok (.aload_n 0, 1) := by decide +kernel
theorem dX2_init_16 : decode cX2_init 16 = .ok (.bipush 6, 2) := by decide +kernel
theorem dX2_init_18 : decode cX2_init 18 = .ok (.anewarray 7, 3) := by decide +kernel
theorem dX2_init_21 : decode cX2_init 21 = .ok (.putfield 16, 3) := by decide +kernel
theorem dX2_init_24 : decode cX2_init 24 = .ok (.aload_n 0, 1) := by decide +kernel
theorem dX2_init_25 : decode cX2_init 25 = .ok (.iconst 0, 1) := by decide +kernel
theorem dX2_init_26 : decode cX2_init 26 = .ok (.putfield 20, 3) := by decide +kernel
theorem dX2_init_29 : decode cX2_init 29 = .ok (.aload_n 0, 1) := by decide +kernel
theorem dX2_init_30 : decode cX2_init 30 = .ok (.iconst 0, 1) := by decide +kernel
theorem dX2_init_31 : decode cX2_init 31 = .ok (.putfield 24, 3) := by decide +kernel
theorem dX2_init_34 : decode cX2_init 34 = .ok (.aload_n 0, 1) := by decide +kernel
theorem dX2_init_35 : decode cX2_init 35 = .ok (.new 7, 3) := by decide +kernel
theorem dX2_init_38 : decode cX2_init 38 = .ok (.dup, 1) := by decide +kernel
theorem dX2_init_39 : decode cX2_init 39 = .ok (.invokespecial 9, 3) := by decide +kernel
theorem dX2_init_42 : decode cX2_init 42 = .ok (.putfield 27, 3) := by decide +kernel
theorem dX2_init_45 : decode cX2_init 45 = .ok (.aload_n 0, 1) := by decide +kernel
theorem dX2_init_46 : decode cX2_init 46 = .ok (.new 30, 3) := by decide +kernel
theorem dX2_init_49 : decode cX2_init 49 = .ok (.dup, 1) := by decide +kernel
theorem dX2_init_50 : decode cX2_init 50 = .ok (.invokespecial 32, 3) := by decide +kernel
theorem dX2_init_53 : decode cX2_init 53 = .ok (.putfield 33, 3) := by decide +kernel
theorem dX2_init_56 : decode cX2_init 56 = .ok (.iconst 0, 1) := by decide +kernel
theorem dX2_init_57 : decode cX2_init 57 = .ok (.istore_n 1, 1) := by decide +kernel
theorem dX2_init_58 : decode cX2_init 58 = .ok (.iload_n 1, 1) := by decide +kernel
theorem dX2_init_59 : decode cX2_init 59 = .ok (.aload_n 0, 1) := by decide +kernel
theorem dX2_init_60 : decode cX2_init 60 = .ok (.getfield 16, 3) := by decide +kernel
theorem dX2_init_63 : decode cX2_init 63 = .ok (.arraylength, 1) := by decide +kernel
theorem dX2_init_64 : decode cX2_init 64 = .ok (.if_icmp .ge 22, 3) := by decide +kernel
theorem dX2_init_67 : decode cX2_init 67 = .ok (.aload_n 0, 1) := by decide +kernel
theorem dX2_init_68 : decode cX2_init 68 = .ok (.getfield 16, 3) := by decide +kernel
theorem dX2_init_71 : decode cX2_init 71 = .ok (.iload_n 1, 1) := by decide +kernel
theorem dX2_init_72 : decode cX2_init 72 = .ok (.new 7, 3) := by decide +kernel
theorem dX2_init_75 : decode cX2_init 75 = .ok (.dup, 1) := by decide +kernel
theorem dX2_init_76 : decode cX2_init 76 = .ok (.invokespecial 9, 3) := by decide +kernel
theorem dX2_init_79 : decode cX2_init 79 = .ok (.aastore, 1) := by decide +kernel
theorem dX2_init_80 : decode cX2_init 80 = .ok (.iinc 1 1, 3) := by decide +kernel
theorem dX2_init_83 : decode cX2_init 83 = .ok (.goto (-25), 3) := by decide +kernel
theorem dX2_init_86 : decode cX2_init 86 = .ok (.return_, 1) := by decide +kernel
set_option maxRecDepth 20000 in
theorem ggX2_lay_X0_size : GoodIn wsX2_lay wsX0_size := goodIn_r _ [9, 10, 26, 27] (by decide +kernel) (by decide +kernel)
set_option maxRecDepth 20000 in
theorem gX2_lay_X0_size : GoodIn wsX2_lay (wsV RX2 44 RX0 yX0_size wsX0_size) := goodIn_app (goodIn_of _ (by decide +kernel)) ggX2_lay_X0_size
set_option maxRecDepth 20000 in
theorem ggX2_lay_X0_clear : GoodIn wsX2_lay wsX0_clear := goodIn_r _ [14, 10, 15, 16, 17, 18, 8, 19, 26, 27] (by decide +kernel) (by decide +kernel)
set_option maxRecDepth 20000 in
theorem gX2_lay_X0_clear : GoodIn wsX2_lay (wsV RX2 48 RX0 yX0_clear wsX0_clear) := goodIn_app (goodIn_of _ (by decide +kernel)) ggX2_lay_X0_clear
theorem dX2_lay_0 : decode cX2_lay 0 = .ok (.iload_n 1, 1) := by decide +kernel
theorem dX2_lay_1 : decode cX2_lay 1 = .ok (.iconst 3, 1) := by decide +kernel
theorem dX2_lay_2 : decode cX2_lay 2 = .ok (.if_icmp .lt 9, 3) := by decide +kernel
theorem dX2_lay_5 : decode cX2_lay 5 = .ok (.iload_n 1, 1) := by decide +kernel
theorem dX2_lay_6 : decode cX2_lay 6 = .ok (.bipush 12, 2) := by decide +kernel
theorem dX2_lay_8 : decode cX2_lay 8 = .ok (.if_icmp .le 13, 3) := by decide +kernel
theorem dX2_lay_11 : decode cX2_lay 11 = .ok (.new 37, 3) := by decide +kernel
theorem dX2_lay_14 : decode cX2_lay 14 = .ok (.dup, 1) := by decide +kernel
theorem dX2_lay_15 : decode cX2_lay 15 = .ok (.ldc 39, 2) := by decide +kernel
theorem dX2_lay_17 : decode cX2_lay 17 = .ok (.invokespecial 41, 3) := by decide +kernel
theorem dX2_lay_20 : decode cX2_lay 20 = .ok (.athrow, 1) := by decide +kernel
theorem dX2_lay_21 : decode cX2_lay 21 = .ok (.aload_n 0, 1) := by decide +kernel
theorem dX2_lay_22 : decode cX2_lay 22 = .ok (.getfield 10, 3) := by decide +kernel
theorem dX2_lay_25 : decode cX2_lay 25 = .ok (.invokevirtual 44, 3) := by decide +kernel
theorem dX2_lay_28 : decode cX2_lay 28 = .ok (.istore_n 2, 1) := by decide +kernel
theorem dX2_lay_29 : decode cX2_lay 29 = .ok (.aload_n 0, 1) := by decide +kernel
theorem dX2_lay_30 : decode cX2_lay 30 = .ok (.getfield 10, 3) := by decide +kernel
theorem dX2_lay_33 : decode cX2_lay 33 = .ok (.iload_n 1, 1) := by decide +kernel
theorem dX2_lay_34 : decode cX2_lay 34 = .ok (.invokevirtual 48, 3) := by decide +kernel
theorem dX2_lay_37 : decode cX2_lay 37 = .ok (.aload_n 0, 1) := by decide +kernel
theorem dX2_lay_38 : decode cX2_lay 38 = .ok (.iconst 0, 1) := by decide +kernel
theorem dX2_lay_39 : decode cX2_lay 39 = .ok (.putfield 20, 3) := by decide +kernel
theorem dX2_lay_42 : decode cX2_lay 42 = .ok (.iload_n 2, 1) := by decide +kernel
theorem dX2_lay_43 : decode cX2_lay 43 = .ok (.ireturn, 1) := by decide +kernel
set_option maxRecDepth 20000 in
theorem ggX2_put_X2_requirePlace : GoodIn wsX2_put wsX2_requirePlace := goodIn_ca (goodIn_r _ [6, 7, 8, 1, 9, 10, 11, 12, 13, 14, 30, 31, 32, 33, 34, 35, 36, 37] (by decide +kernel) (by decide +kernel)) (goodIn_sub (fun _ h => List.mem_cons_of_mem _ (List.mem_append_left _ (List.mem_append_right _ h))) (by decide +kernel))
set_option maxRecDepth 20000 in
theorem gX2_put_X2_requirePlace : GoodIn wsX2_put (wsV RX2 52 RX2 yX2_requirePlace wsX2_requirePlace) := goodIn_app (goodIn_of _ (by decide +kernel)) ggX2_put_X2_requirePlace
set_option maxRecDepth 20000 in
theorem ggX2_put_X2_requireNumber : GoodIn wsX2_put wsX2_requireNumber := goodIn_ca (goodIn_r _ [18, 19, 20] (by decide +kernel) (by decide +kernel)) (goodIn_sub (fun _ h => List.mem_cons_of_mem _ (List.mem_append_right _ h)) (by decide +kernel))
set_option maxRecDepth 20000 in
theorem gX2_put_X2_requireNumber : GoodIn wsX2_put (wsV RX2 55 RX2 yX2_requireNumber wsX2_requireNumber) := goodIn_app (goodIn_of _ (by decide +kernel)) ggX2_put_X2_requireNumber
set_option maxRecDepth 20000 in
theorem ggX2_put_X0_at : GoodIn wsX2_put wsX0_at := goodIn_r _ [24, 25, 36, 37] (by decide +kernel) (by decide +kernel)
set_option maxRecDepth 20000 in
theorem gX2_put_X0_at : GoodIn wsX2_put (wsV RX2 58 RX0 yX0_at wsX0_at) := goodIn_app (goodIn_of _ (by decide +kernel)) ggX2_put_X0_at
set_option maxRecDepth 20000 in
theorem ggX2_put_X0_write : GoodIn wsX2_put wsX0_write := goodIn_r _ [29, 25, 36, 37] (by decide +kernel) (by decide +kernel)
set_option maxRecDepth 20000 in
theorem gX2_put_X0_write : GoodIn wsX2_put (wsV RX2 62 RX0 yX0_write wsX0_write) := goodIn_app (goodIn_of _ (by decide +kernel)) ggX2_put_X0_write
theorem dX2_put_0 : decode cX2_put 0 = .ok (.aload_n 0, 1) := by decide +kernel
theorem dX2_put_1 : decode cX2_put 1 = .ok (.iload_n 1, 1) := by decide +kernel
theorem dX2_put_2 : decode cX2_put 2 = .ok (.invokevirtual 52, 3) := by decide +kernel
theorem dX2_put_5 : decode cX2_put 5 = .ok (.aload_n 0, 1) := by decide +kernel
theorem dX2_put_6 : decode cX2_put 6 = .ok (.iload_n 2, 1) := by decide +kernel
theorem dX2_put_7 : decode cX2_put 7 = .ok (.invokevirtual 55, 3) := by decide +kernel
theorem dX2_put_10 : decode cX2_put 10 = .ok (.aload_n 0, 1) := by decide +kernel
theorem dX2_put_11 : decode cX2_put 11 = .ok (.getfield 10, 3) := by decide +kernel
theorem dX2_put_14 : decode cX2_put 14 = .ok (.iload_n 1, 1) := by decide +kernel
theorem dX2_put_15 : decode cX2_put 15 = .ok (.invokevirtual 58, 3) := by decide +kernel
theorem dX2_put_18 : decode cX2_put 18 = .ok (.istore_n 3, 1) := by decide +kernel
theorem dX2_put_19 : decode cX2_put 19 = .ok (.aload_n 0, 1) := by decide +kernel
theorem dX2_put_20 : decode cX2_put 20 = .ok (.getfield 10, 3) := by decide +kernel
theorem dX2_put_23 : decode cX2_put 23 = .ok (.iload_n 1, 1) := by decide +kernel
theorem dX2_put_24 : decode cX2_put 24 = .ok (.iload_n 2, 1) := by decide +kernel
theorem dX2_put_25 : decode cX2_put 25 = .ok (.invokevirtual 62, 3) := by decide +kernel
theorem dX2_put_28 : decode cX2_put 28 = .ok (.iload_n 3, 1) := by decide +kernel
theorem dX2_put_29 : decode cX2_put 29 = .ok (.ireturn, 1) := by decide +kernel
set_option maxRecDepth 20000 in
theorem ggX2_tip_X2_requirePlace : GoodIn wsX2_tip wsX2_requirePlace := goodIn_ca (goodIn_r _ [11, 12, 13, 1, 14, 15, 16, 17, 18, 19, 48, 49, 50, 51, 52, 53, 54, 55] (by decide +kernel) (by decide +kernel)) (goodIn_sub (fun _ h => List.mem_cons_of_mem _ (List.mem_append_left _ (List.mem_append_right _ h))) (by decide +kernel))
set_option maxRecDepth 20000 in
theorem gX2_tip_X2_requirePlace : GoodIn wsX2_tip (wsV RX2 52 RX2 yX2_requirePlace wsX2_requirePlace) := goodIn_app (goodIn_of _ (by decide +kernel)) ggX2_tip_X2_requirePlace
set_option maxRecDepth 20000 in
theorem ggX2_tip_X2_requireTimes : GoodIn wsX2_tip wsX2_requireTimes := goodIn_ca (goodIn_r _ [23, 24, 25] (by decide +kernel) (by decide +kernel)) (goodIn_sub (fun _ h => List.mem_cons_of_mem _ (List.mem_append_right _ h)) (by decide +kernel))
set_option maxRecDepth 20000 in
theorem gX2_tip_X2_requireTimes : GoodIn wsX2_tip (wsV RX2 66 RX2 yX2_requireTimes wsX2_requireTimes) := goodIn_app (goodIn_of _ (by decide +kernel)) ggX2_tip_X2_requireTimes
set_option maxRecDepth 20000 in
theorem ggX2_tip_X0_tipBy : GoodIn wsX2_tip wsX0_tipBy := goodIn_r _ [29, 30, 31, 32, 17, 33, 34, 35, 36, 37, 38, 39, 40, 41, 42, 43, 44, 45, 46, 19, 54, 55] (by decide +kernel) (by decide +kernel)
set_option maxRecDepth 20000 in
theorem gX2_tip_X0_tipBy : GoodIn wsX2_tip (wsV RX2 69 RX0 yX0_tipBy wsX0_tipBy) := goodIn_app (goodIn_of _ (by decide +kernel)) ggX2_tip_X0_tipBy
set_option maxRecDepth 20000 in
theorem ggX2_tip_X0_at : GoodIn wsX2_tip wsX0_at := goodIn_r _ [37, 38, 54, 55] (by decide +kernel) (by decide +kernel)
set_option maxRecDepth 20000 in
theorem gX2_tip_X0_at : GoodIn wsX2_tip (wsV RX2 58 RX0 yX0_at wsX0_at) := goodIn_app (goodIn_of _ (by decide +kernel)) ggX2_tip_X0_at
theorem dX2_tip_0 : decode cX2_tip 0 = .ok (.aload_n 0, 1) := by decide +kernel
theorem dX2_tip_1 : decode cX2_tip 1 = .ok (.iload_n 1, 1) := by decide +kernel
theorem dX2_tip_2 : decode cX2_tip 2 = .ok (.invokevirtual 52, 3) := by decide +kernel
theorem dX2_tip_5 : decode cX2_tip 5 = .ok (.aload_n 0, 1) := by decide +kernel
theorem dX2_tip_6 : decode cX2_tip 6 = .ok (.iload_n 2, 1) := by decide +kernel
theorem dX2_tip_7 : decode cX2_tip 7 = .ok (.invokevirtual 66, 3) := by decide +kernel
theorem dX2_tip_10 : decode cX2_tip 10 = .ok (.aload_n 0, 1) := by decide +kernel
theorem dX2_tip_11 : decode cX2_tip 11 = .ok (.getfield 10, 3) := by decide +kernel
theorem dX2_tip_14 : decode cX2_tip 14 = .ok (.iload_n 1, 1) := by decide +kernel
theorem dX2_tip_15 : decode cX2_tip 15 = .ok (.iload_n 2, 1) := by decide +kernel
theorem dX2_tip_16 : decode cX2_tip 16 = .ok (.invokevirtual 69, 3) := by decide +kernel
theorem dX2_tip_19 : decode cX2_tip 19 = .ok (.aload_n 0, 1) := by decide +kernel
theorem dX2_tip_20 : decode cX2_tip 20 = .ok (.dup, 1) := by decide +kernel
theorem dX2_tip_21 : decode cX2_tip 21 = .ok (.getfield 24, 3) := by decide +kernel
theorem dX2_tip_24 : decode cX2_tip 24 = .ok (.iload_n 2, 1) := by decide +kernel
theorem dX2_tip_25 : decode cX2_tip 25 = .ok (.invokestatic 72, 3) := by decide +kernel
theorem dX2_tip_28 : decode cX2_tip 28 = .ok (.iadd, 1) := by decide +kernel
theorem dX2_tip_29 : decode cX2_tip 29 = .ok (.putfield 24, 3) := by decide +kernel
theorem dX2_tip_32 : decode cX2_tip 32 = .ok (.aload_n 0, 1) := by decide +kernel
theorem dX2_tip_33 : decode cX2_tip 33 = .ok (.getfield 10, 3) := by decide +kernel
theorem dX2_tip_36 : decode cX2_tip 36 = .ok (.iload_n 1, 1) := by decide +kernel
theorem dX2_tip_37 : decode cX2_tip 37 = .ok (.invokevirtual 58, 3) := by decide +kernel
theorem dX2_tip_40 : decode cX2_tip 40 = .ok (.ireturn, 1) := by decide +kernel
set_option maxRecDepth 20000 in
theorem ggX2_turn_X0_rotate : GoodIn wsX2_turn wsX0_rotate := goodIn_r _ [6, 7, 8, 9, 10, 5, 11, 12, 13, 14, 15, 16, 24, 25] (by decide +kernel) (by decide +kernel)
set_option maxRecDepth 20000 in
theorem gX2_turn_X0_rotate : GoodIn wsX2_turn (wsV RX2 77 RX0 yX0_rotate wsX0_rotate) := goodIn_app (goodIn_of _ (by decide +kernel)) ggX2_turn_X0_rotate
set_option maxRecDepth 20000 in
theorem ggX2_turn_X0_at : GoodIn wsX2_turn wsX0_at := goodIn_r _ [11, 12, 24, 25] (by decide +kernel) (by decide +kernel)
set_option maxRecDepth 20000 in
theorem gX2_turn_X0_at : GoodIn wsX2_turn (wsV RX2 58 RX0 yX0_at wsX0_at) := goodIn_app (goodIn_of _ (by decide +kernel)) ggX2_turn_X0_at
theorem dX2_turn_0 : decode cX2_turn 0 = .ok (.aload_n 0, 1) := by decide +kernel
theorem dX2_turn_1 : decode cX2_turn 1 = .ok (.getfield 10, 3) := by decide +kernel
theorem dX2_turn_4 : decode cX2_turn 4 = .ok (.invokevirtual 77, 3) := by decide +kernel
theorem dX2_turn_7 : decode cX2_turn 7 = .ok (.aload_n 0, 1) := by decide +kernel
theorem dX2_turn_8 : decode cX2_turn 8 = .ok (.getfield 10, 3) := by decide +kernel
theorem dX2_turn_11 : decode cX2_turn 11 = .ok (.iconst 0, 1) := by decide +kernel
theorem dX2_turn_12 : decode cX2_turn 12 = .ok (.invokevirtual 58, 3) := by decide +kernel
theorem dX2_turn_15 : decode cX2_turn 15 = .ok (.ireturn, 1) := by decide +kernel
set_option maxRecDepth 20000 in
theorem ggX2_keep_X2_keptRing : GoodIn wsX2_keep wsX2_keptRing := goodIn_ca (goodIn_r _ [9, 10, 11, 3, 12, 28, 29, 30, 31, 32, 33] (by decide +kernel) (by decide +kernel)) (goodIn_sub (fun _ h => List.mem_cons_of_mem _ (List.mem_append_right _ h)) (by decide +kernel))
set_option maxRecDepth 20000 in
theorem gX2_keep_X2_keptRing : GoodIn wsX2_keep (wsV RX2 85 RX2 yX2_keptRing wsX2_keptRing) := goodIn_app (goodIn_of _ (by decide +kernel)) ggX2_keep_X2_keptRing
set_option maxRecDepth 20000 in
theorem ggX2_keep_X0_copyFrom : GoodIn wsX2_keep wsX0_copyFrom := goodIn_r _ [17, 18, 19, 20, 21, 22, 16, 23, 24, 25, 26, 27, 34, 35] (by decide +kernel) (by decide +kernel)
set_option maxRecDepth 20000 in
theorem gX2_keep_X0_copyFrom : GoodIn wsX2_keep (wsV RX2 89 RX0 yX0_copyFrom wsX0_copyFrom) := goodIn_app (goodIn_of _ (by decide +kernel)) ggX2_keep_X0_copyFrom
theorem dX2_keep_0 : decode cX2_keep 0 = .ok (.aload_n 0, 1) := by decide +kernel
theorem dX2_keep_1 : decode cX2_keep 1 = .ok (.getfield 20, 3) := by decide +kernel
theorem dX2_keep_4 : decode cX2_keep 4 = .ok (.bipush 6, 2) := by decide +kernel
theorem dX2_keep_6 : decode cX2_keep 6 = .ok (.if_icmp .lt 13, 3) := by decide +kernel
theorem dX2_keep_9 : decode cX2_keep 9 = .ok (.new 80, 3) := by decide +kernel
theorem dX2_keep_12 : decode cX2_keep 12 = .ok (.dup, 1) := by decide +kernel
theorem dX2_keep_13 : decode cX2_keep 13 = .ok (.ldc 82, 2) := by decide +kernel
theorem dX2_keep_15 : decode cX2_keep 15 = .ok (.invokespecial 84, 3) := by decide +kernel
theorem dX2_keep_18 : decode cX2_keep 18 = .ok (.athrow, 1) := by decide +kernel
theorem dX2_keep_19 : decode cX2_keep 19 = .ok (.aload_n 0, 1) := by decide +kernel
theorem dX2_keep_20 : decode cX2_keep 20 = .ok (.getfield 20, 3) := by decide +kernel
theorem dX2_keep_23 : decode cX2_keep 23 = .ok (.istore_n 1, 1) := by decide +kernel
theorem dX2_keep_24 : decode cX2_keep 24 = .ok (.aload_n 0, 1) := by decide +kernel
theorem dX2_keep_25 : decode cX2_keep 25 = .ok (.iload_n 1, 1) := by decide +kernel
theorem dX2_keep_26 : decode cX2_keep 26 = .ok (.iconst 1, 1) := by decide +kernel
theorem dX2_keep_27 : decode cX2_keep 27 = .ok (.iadd, 1) := by decide +kernel
theorem dX2_keep_28 : decode cX2_keep 28 = .ok (.putfield 20, 3) := by decide +kernel
theorem dX2_keep_31 : decode cX2_keep 31 = .ok (.aload_n 0, 1) := by decide +kernel
theorem dX2_keep_32 : decode cX2_keep 32 = .ok (.iload_n 1, 1) := by decide +kernel
theorem dX2_keep_33 : decode cX2_keep 33 = .ok (.invokevirtual 85, 3) := by decide +kernel
theorem dX2_keep_36 : decode cX2_keep 36 = .ok (.aload_n 0, 1) := by decide +kernel
theorem dX2_keep_37 : decode cX2_keep 37 = .ok (.getfield 10, 3) := by decide +kernel
theorem dX2_keep_40 : decode cX2_keep 40 = .ok (.invokevirtual 89, 3) := by decide +kernel
theorem dX2_keep_43 : decode cX2_keep 43 = .ok (.iload_n 1, 1) := by decide +kernel
theorem dX2_keep_44 : decode cX2_keep 44 = .ok (.ireturn, 1) := by decide +kernel
set_option maxRecDepth 20000 in
theorem ggX2_settle_X0_settleBy : GoodIn wsX2_settle wsX0_settleBy := goodIn_r _ [9, 10, 11, 12, 8, 13, 14, 15, 16, 17, 18, 19, 20, 21, 22, 23, 24, 25, 26, 27, 28, 29, 30, 31, 32, 33, 34, 35, 36, 37, 38, 39, 46, 47] (by decide +kernel) (by decide +kernel)
set_option maxRecDepth 20000 in
theorem gX2_settle_X0_settleBy : GoodIn wsX2_settle (wsV RX2 95 RX0 yX0_settleBy wsX0_settleBy) := goodIn_app (goodIn_of _ (by decide +kernel)) ggX2_settle_X0_settleBy
theorem dX2_settle_0 : decode cX2_settle 0 = .ok (.iload_n 1, 1) := by decide +kernel
theorem dX2_settle_1 : decode cX2_settle 1 = .ok (.iconst 1, 1) := by decide +kernel
theorem dX2_settle_2 : decode cX2_settle 2 = .ok (.if_icmp .lt 10, 3) := by decide +kernel
theorem dX2_settle_5 : decode cX2_settle 5 = .ok (.iload_n 1, 1) := by decide +kernel
theorem dX2_settle_6 : decode cX2_settle 6 = .ok (.sipush 200, 3) := by decide +kernel
theorem dX2_settle_9 : decode cX2_settle 9 = .ok (.if_icmp .le 13, 3) := by decide +kernel
theorem dX2_settle_12 : decode cX2_settle 12 = .ok (.new 37, 3) := by decide +kernel
theorem dX2_settle_15 : decode cX2_settle 15 = .ok (.dup, 1) := by decide +kernel
theorem dX2_settle_16 : decode cX2_settle 16 = .ok (.ldc 93, 2) := by decide +kernel
theorem dX2_settle_18 : decode cX2_settle 18 = .ok (.invokespecial 41, 3) := by decide +kernel
theorem dX2_settle_21 : decode cX2_settle 21 = .ok (.athrow, 1) := by decide +kernel
theorem dX2_settle_22 : decode cX2_settle 22 = .ok (.aload_n 0, 1) := by decide +kernel
theorem dX2_settle_23 : decode cX2_settle 23 = .ok (.getfield 10, 3) := by decide +kernel
theorem dX2_settle_26 : decode cX2_settle 26 = .ok (.iload_n 1, 1) := by decide +kernel
theorem dX2_settle_27 : decode cX2_settle 27 = .ok (.invokevirtual 95, 3) := by decide +kernel
theorem dX2_settle_30 : decode cX2_settle 30 = .ok (.istore_n 2, 1) := by decide +kernel
theorem dX2_settle_31 : decode cX2_settle 31 = .ok (.aload_n 0, 1) := by decide +kernel
theorem dX2_settle_32 : decode cX2_settle 32 = .ok (.dup, 1) := by decide +kernel
theorem dX2_settle_33 : decode cX2_settle 33 = .ok (.getfield 24, 3) := by decide +kernel
theorem dX2_settle_36 : decode cX2_settle 36 = .ok (.iload_n 2, 1) := by decide +kernel
theorem dX2_settle_37 : decode cX2_settle 37 = .ok (.iadd, 1) := by decide +kernel
theorem dX2_settle_38 : decode cX2_settle 38 = .ok (.putfield 24, 3) := by decide +kernel
theorem dX2_settle_41 : decode cX2_settle 41 = .ok (.iload_n 2, 1) := by decide +kernel
theorem dX2_settle_42 : decode cX2_settle 42 = .ok (.ireturn, 1) := by decide +kernel
set_option maxRecDepth 20000 in
theorem ggX2_reach_X2_keptRing : GoodIn wsX2_reach wsX2_keptRing := goodIn_ca (goodIn_r _ [7, 8, 9, 10, 11, 89, 90, 91, 92, 93, 94] (by decide +kernel) (by decide +kernel)) (goodIn_sub (fun _ h => List.mem_cons_of_mem _ (List.mem_append_left _ (List.mem_append_right _ h))) (by decide +kernel))
set_option maxRecDepth 20000 in
theorem gX2_reach_X2_keptRing : GoodIn wsX2_reach (wsV RX2 85 RX2 yX2_keptRing wsX2_keptRing) := goodIn_app (goodIn_of _ (by decide +kernel)) ggX2_reach_X2_keptRing
set_option maxRecDepth 20000 in
theorem ggX2_reach_X2_requireWayTo : GoodIn wsX2_reach wsX2_requireWayTo := goodIn_ca (goodIn_r _ [15, 16, 17, 1, 18, 19, 20, 21, 22, 23, 24, 25, 26, 27, 28, 29, 30, 31, 32, 33, 34, 35, 36, 37, 38, 39, 40, 89, 90, 91, 92, 93, 94, 95, 96] (by decide +kernel) (by decide +kernel)) (goodIn_sub (fun _ h => List.mem_cons_of_mem _ (List.mem_append_right _ h)) (by decide +kernel))
set_option maxRecDepth 20000 in
theorem gX2_reach_X2_requireWayTo : GoodIn wsX2_reach (wsV RX2 98 RX2 yX2_requireWayTo wsX2_requireWayTo) := goodIn_app (goodIn_of _ (by decide +kernel)) ggX2_reach_X2_requireWayTo
set_option maxRecDepth 20000 in
theorem ggX2_reach_X2_fewestTo : GoodIn wsX2_reach wsX2_fewestTo := goodIn_r _ [44, 1, 45, 18, 19, 20, 21, 22, 23, 24, 25, 26, 27, 28, 29, 30, 31, 32, 33, 34, 35, 36, 37, 38, 39, 40, 46, 47, 48, 49, 50, 51, 52, 53, 54, 55, 56, 57, 58, 59, 60, 61, 62, 63, 64, 65, 66, 67, 68, 69, 70, 71, 72, 73, 74, 75, 76, 77, 78, 79, 80, 89, 90, 91, 92, 93, 94, 95, 96, 97, 98] (by decide +kernel) (by decide +kernel)
set_option maxRecDepth 20000 in
theorem gX2_reach_X2_fewestTo : GoodIn wsX2_reach (wsV RX2 101 RX2 yX2_fewestTo wsX2_fewestTo) := goodIn_app (goodIn_of _ (by decide +kernel)) ggX2_reach_X2_fewestTo
set_option maxRecDepth 20000 in
theorem ggX2_reach_X0_copyFrom : GoodIn wsX2_reach wsX0_copyFrom := goodIn_r _ [84, 27, 32, 28, 29, 30, 21, 31, 85, 86, 87, 88, 95, 96] (by decide +kernel) (by decide +kernel)
set_option maxRecDepth 20000 in
theorem gX2_reach_X0_copyFrom : GoodIn wsX2_reach (wsV RX2 89 RX0 yX0_copyFrom wsX0_copyFrom) := goodIn_app (goodIn_of _ (by decide +kernel)) ggX2_reach_X0_copyFrom
theorem dX2_reach_0 : decode cX2_reach 0 = .ok (.aload_n 0, 1) := by decide +kernel
theorem dX2_reach_1 : decode cX2_reach 1 = .ok (.iload_n 1, 1) := by decide +kernel
theorem dX2_reach_2 : decode cX2_reach 2 = .ok (.invokevirtual 85, 3) := by decide +kernel
theorem dX2_reach_5 : decode cX2_reach 5 = .ok (.astore_n 2, 1) := by decide +kernel
theorem dX2_reach_6 : decode cX2_reach 6 = .ok (.aload_n 0, 1) := by decide +kernel
theorem dX2_reach_7 : decode cX2_reach 7 = .ok (.aload_n 2, 1) := by decide +kernel
theorem dX2_reach_8 : decode cX2_reach 8 = .ok (.invokevirtual 98, 3) := by decide +kernel
theorem dX2_reach_11 : decode cX2_reach 11 = .ok (.aload_n 0, 1) := by decide +kernel
theorem dX2_reach_12 : decode cX2_reach 12 = .ok (.aload_n 2, 1) := by decide +kernel
theorem dX2_reach_13 : decode cX2_reach 13 = .ok (.invokevirtual 101, 3) := by decide +kernel
theorem dX2_reach_16 : decode cX2_reach 16 = .ok (.istore_n 3, 1) := by decide +kernel
theorem dX2_reach_17 : decode cX2_reach 17 = .ok (.aload_n 0, 1) := by decide +kernel
theorem dX2_reach_18 : decode cX2_reach 18 = .ok (.getfield 10, 3) := by decide +kernel
theorem dX2_reach_21 : decode cX2_reach 21 = .ok (.aload_n 2, 1) := by decide +kernel
theorem dX2_reach_22 : decode cX2_reach 22 = .ok (.invokevirtual 89, 3) := by decide +kernel
theorem dX2_reach_25 : decode cX2_reach 25 = .ok (.aload_n 0, 1) := by decide +kernel
theorem dX2_reach_26 : decode cX2_reach 26 = .ok (.dup, 1) := by decide +kernel
theorem dX2_reach_27 : decode cX2_reach 27 = .ok (.getfield 24, 3) := by decide +kernel
theorem dX2_reach_30 : decode cX2_reach 30 = .ok (.iload_n 3, 1) := by decide +kernel
theorem dX2_reach_31 : decode cX2_reach 31 = .ok (.iadd, 1) := by decide +kernel
theorem dX2_reach_32 : decode cX2_reach 32 = .ok (.putfield 24, 3) := by decide +kernel
theorem dX2_reach_35 : decode cX2_reach 35 = .ok (.iload_n 3, 1) := by decide +kernel
theorem dX2_reach_36 : decode cX2_reach 36 = .ok (.ireturn, 1) := by decide +kernel
set_option maxRecDepth 20000 in
theorem ggX2_places_X0_size : GoodIn wsX2_places wsX0_size := goodIn_r _ [6, 7, 14, 15] (by decide +kernel) (by decide +kernel)
set_option maxRecDepth 20000 in
theorem gX2_places_X0_size : GoodIn wsX2_places (wsV RX2 44 RX0 yX0_size wsX0_size) := goodIn_app (goodIn_of _ (by decide +kernel)) ggX2_places_X0_size
theorem dX2_places_0 : decode cX2_places 0 = .ok (.aload_n 0, 1) := by decide +kernel
theorem dX2_places_1 : decode cX2_places 1 = .ok (.getfield 10, 3) := by decide +kernel
theorem dX2_places_4 : decode cX2_places 4 = .ok (.invokevirtual 44, 3) := by decide +kernel
theorem dX2_places_7 : decode cX2_places 7 = .ok (.ireturn, 1) := by decide +kernel
set_option maxRecDepth 20000 in
theorem ggX2_numberAt_X2_requirePlace : GoodIn wsX2_numberAt wsX2_requirePlace := goodIn_ca (goodIn_r _ [6, 7, 8, 1, 9, 10, 11, 12, 13, 14, 20, 21, 22, 23, 24, 25, 26, 27] (by decide +kernel) (by decide +kernel)) (goodIn_sub (fun _ h => List.mem_cons_of_mem _ (List.mem_append_right _ h)) (by decide +kernel))
set_option maxRecDepth 20000 in
theorem gX2_numberAt_X2_requirePlace : GoodIn wsX2_numberAt (wsV RX2 52 RX2 yX2_requirePlace wsX2_requirePlace) := goodIn_app (goodIn_of _ (by decide +kernel)) ggX2_numberAt_X2_requirePlace
set_option maxRecDepth 20000 in
theorem ggX2_numberAt_X0_at : GoodIn wsX2_numberAt wsX0_at := goodIn_r _ [18, 19, 26, 27] (by decide +kernel) (by decide +kernel)
set_option maxRecDepth 20000 in
theorem gX2_numberAt_X0_at : GoodIn wsX2_numberAt (wsV RX2 58 RX0 yX0_at wsX0_at) := goodIn_app (goodIn_of _ (by decide +kernel)) ggX2_numberAt_X0_at
theorem dX2_numberAt_0 : decode cX2_numberAt 0 = .ok (.aload_n 0, 1) := by decide +kernel
theorem dX2_numberAt_1 : decode cX2_numberAt 1 = .ok (.iload_n 1, 1) := by decide +kernel
theorem dX2_numberAt_2 : decode cX2_numberAt 2 = .ok (.invokevirtual 52, 3) := by decide +kernel
theorem dX2_numberAt_5 : decode cX2_numberAt 5 = .ok (.aload_n 0, 1) := by decide +kernel
theorem dX2_numberAt_6 : decode cX2_numberAt 6 = .ok (.getfield 10, 3) := by decide +kernel
theorem dX2_numberAt_9 : decode cX2_numberAt 9 = .ok (.iload_n 1, 1) := by decide +kernel
theorem dX2_numberAt_10 : decode cX2_numberAt 10 = .ok (.invokevirtual 58, 3) := by decide +kernel
theorem dX2_numberAt_13 : decode cX2_numberAt 13 = .ok (.ireturn, 1) := by decide +kernel
theorem dX2_targets_0 : decode cX2_targets 0 = .ok (.aload_n 0, 1) := by decide +kernel
theorem dX2_targets_1 : decode cX2_targets 1 = .ok (.getfield 20, 3) := by decide +kernel
theorem dX2_targets_4 : decode cX2_targets 4 = .ok (.ireturn, 1) := by decide +kernel
theorem dX2_tips_0 : decode cX2_tips 0 = .ok (.aload_n 0, 1) := by decide +kernel
theorem dX2_tips_1 : decode cX2_tips 1 = .ok (.getfield 24, 3) := by decide +kernel
theorem dX2_tips_4 : decode cX2_tips 4 = .ok (.ireturn, 1) := by decide +kernel
set_option maxRecDepth 20000 in
theorem ggX2_sum_X0_total : GoodIn wsX2_sum wsX0_total := goodIn_r _ [6, 7, 8, 9, 10, 5, 11, 12, 19, 20] (by decide +kernel) (by decide +kernel)
set_option maxRecDepth 20000 in
theorem gX2_sum_X0_total : GoodIn wsX2_sum (wsV RX2 105 RX0 yX0_total wsX0_total) := goodIn_app (goodIn_of _ (by decide +kernel)) ggX2_sum_X0_total
theorem dX2_sum_0 : decode cX2_sum 0 = .ok (.aload_n 0, 1) := by decide +kernel
theorem dX2_sum_1 : decode cX2_sum 1 = .ok (.getfield 10, 3) := by decide +kernel
theorem dX2_sum_4 : decode cX2_sum 4 = .ok (.invokevirtual 105, 3) := by decide +kernel
theorem dX2_sum_7 : decode cX2_sum 7 = .ok (.ireturn, 1) := by decide +kernel
set_option maxRecDepth 20000 in
theorem ggX2_moment_X0_momentLeft : GoodIn wsX2_moment wsX0_momentLeft := goodIn_r _ [6, 7, 8, 9, 10, 5, 11, 12, 13, 14, 15, 16, 23, 24] (by decide +kernel) (by decide +kernel)
set_option maxRecDepth 20000 in
theorem gX2_moment_X0_momentLeft : GoodIn wsX2_moment (wsV RX2 108 RX0 yX0_momentLeft wsX0_momentLeft) := goodIn_app (goodIn_of _ (by decide +kernel)) ggX2_moment_X0_momentLeft
theorem dX2_moment_0 : decode cX2_moment 0 = .ok (.aload_n 0, 1) := by decide +kernel
theorem dX2_moment_1 : decode cX2_moment 1 = .ok (.getfield 10, 3) := by decide +kernel
theorem dX2_moment_4 : decode cX2_moment 4 = .ok (.invokevirtual 108, 3) := by decide +kernel
theorem dX2_moment_7 : decode cX2_moment 7 = .ok (.ireturn, 1) := by decide +kernel
set_option maxRecDepth 20000 in
theorem ggX2_spread_X0_span : GoodIn wsX2_spread wsX0_span := goodIn_r _ [6, 7, 8, 9, 10, 11, 12, 13, 14, 5, 15, 16, 17, 18, 19, 20, 27, 28] (by decide +kernel) (by decide +kernel)
set_option maxRecDepth 20000 in
theorem gX2_spread_X0_span : GoodIn wsX2_spread (wsV RX2 111 RX0 yX0_span wsX0_span) := goodIn_app (goodIn_of _ (by decide +kernel)) ggX2_spread_X0_span
theorem dX2_spread_0 : decode cX2_spread 0 = .ok (.aload_n 0, 1) := by decide +kernel
theorem dX2_spread_1 : decode cX2_spread 1 = .ok (.getfield 10, 3) := by decide +kernel
theorem dX2_spread_4 : decode cX2_spread 4 = .ok (.invokevirtual 111, 3) := by decide +kernel
theorem dX2_spread_7 : decode cX2_spread 7 = .ok (.ireturn, 1) := by decide +kernel
set_option maxRecDepth 20000 in
theorem ggX2_highest_X0_firstGreatest : GoodIn wsX2_highest wsX0_firstGreatest := goodIn_r _ [6, 7, 8, 9, 10, 5, 11, 12, 19, 20] (by decide +kernel) (by decide +kernel)
set_option maxRecDepth 20000 in
theorem gX2_highest_X0_firstGreatest : GoodIn wsX2_highest (wsV RX2 114 RX0 yX0_firstGreatest wsX0_firstGreatest) := goodIn_app (goodIn_of _ (by decide +kernel)) ggX2_highest_X0_firstGreatest
theorem dX2_highest_0 : decode cX2_highest 0 = .ok (.aload_n 0, 1) := by decide +kernel
theorem dX2_highest_1 : decode cX2_highest 1 = .ok (.getfield 10, 3) := by decide +kernel
theorem dX2_highest_4 : decode cX2_highest 4 = .ok (.invokevirtual 114, 3) := by decide +kernel
theorem dX2_highest_7 : decode cX2_highest 7 = .ok (.ireturn, 1) := by decide +kernel
set_option maxRecDepth 20000 in
theorem ggX2_isSteep_X2_requirePlace : GoodIn wsX2_isSteep wsX2_requirePlace := goodIn_ca (goodIn_r _ [6, 7, 8, 1, 9, 10, 11, 12, 13, 14, 28, 29, 30, 31, 32, 33, 34, 35] (by decide +kernel) (by decide +kernel)) (goodIn_sub (fun _ h => List.mem_cons_of_mem _ (List.mem_append_right _ h)) (by decide +kernel))
set_option maxRecDepth 20000 in
theorem gX2_isSteep_X2_requirePlace : GoodIn wsX2_isSteep (wsV RX2 52 RX2 yX2_requirePlace wsX2_requirePlace) := goodIn_app (goodIn_of _ (by decide +kernel)) ggX2_isSteep_X2_requirePlace
set_option maxRecDepth 20000 in
theorem ggX2_isSteep_X0_steepAt : GoodIn wsX2_isSteep wsX0_steepAt := goodIn_r _ [18, 19, 20, 21, 12, 22, 23, 24, 25, 26, 27, 14, 34, 35] (by decide +kernel) (by decide +kernel)
set_option maxRecDepth 20000 in
theorem gX2_isSteep_X0_steepAt : GoodIn wsX2_isSteep (wsV RX2 117 RX0 yX0_steepAt wsX0_steepAt) := goodIn_app (goodIn_of _ (by decide +kernel)) ggX2_isSteep_X0_steepAt
theorem dX2_isSteep_0 : decode cX2_isSteep 0 = .ok (.aload_n 0, 1) := by decide +kernel
theorem dX2_isSteep_1 : decode cX2_isSteep 1 = .ok (.iload_n 1, 1) := by decide +kernel
theorem dX2_isSteep_2 : decode cX2_isSteep 2 = .ok (.invokevirtual 52, 3) := by decide +kernel
theorem dX2_isSteep_5 : decode cX2_isSteep 5 = .ok (.aload_n 0, 1) := by decide +kernel
theorem dX2_isSteep_6 : decode cX2_isSteep 6 = .ok (.getfield 10, 3) := by decide +kernel
theorem dX2_isSteep_9 : decode cX2_isSteep 9 = .ok (.iload_n 1, 1) := by decide +kernel
theorem dX2_isSteep_10 : decode cX2_isSteep 10 = .ok (.invokevirtual 117, 3) := by decide +kernel
theorem dX2_isSteep_13 : decode cX2_isSteep 13 = .ok (.ireturn, 1) := by decide +kernel
set_option maxRecDepth 20000 in
theorem ggX2_steepPlaces_X0_size : GoodIn wsX2_steepPlaces wsX0_size := goodIn_r _ [6, 7, 27, 28] (by decide +kernel) (by decide +kernel)
set_option maxRecDepth 20000 in
theorem gX2_steepPlaces_X0_size : GoodIn wsX2_steepPlaces (wsV RX2 44 RX0 yX0_size wsX0_size) := goodIn_app (goodIn_of _ (by decide +kernel)) ggX2_steepPlaces_X0_size
set_option maxRecDepth 20000 in
theorem ggX2_steepPlaces_X0_steepAt : GoodIn wsX2_steepPlaces wsX0_steepAt := goodIn_r _ [11, 12, 13, 14, 5, 15, 16, 17, 18, 19, 20, 7, 27, 28] (by decide +kernel) (by decide +kernel)
set_option maxRecDepth 20000 in
theorem gX2_steepPlaces_X0_steepAt : GoodIn wsX2_steepPlaces (wsV RX2 117 RX0 yX0_steepAt wsX0_steepAt) := goodIn_app (goodIn_of _ (by decide +kernel)) ggX2_steepPlaces_X0_steepAt
theorem dX2_steepPlaces_0 : decode cX2_steepPlaces 0 = .ok (.iconst 0, 1) := by decide +kernel
theorem dX2_steepPlaces_1 : decode cX2_steepPlaces 1 = .ok (.istore_n 1, 1) := by decide +kernel
theorem dX2_steepPlaces_2 : decode cX2_steepPlaces 2 = .ok (.iconst 0, 1) := by decide +kernel
theorem dX2_steepPlaces_3 : decode cX2_steepPlaces 3 = .ok (.istore_n 2, 1) := by decide +kernel
theorem dX2_steepPlaces_4 : decode cX2_steepPlaces 4 = .ok (.iload_n 2, 1) := by decide +kernel
theorem dX2_steepPlaces_5 : decode cX2_steepPlaces 5 = .ok (.aload_n 0, 1) := by decide +kernel
theorem dX2_steepPlaces_6 : decode cX2_steepPlaces 6 = .ok (.getfield 10, 3) := by decide +kernel
theorem dX2_steepPlaces_9 : decode cX2_steepPlaces 9 = .ok (.invokevirtual 44, 3) := by decide +kernel
theorem dX2_steepPlaces_12 : decode cX2_steepPlaces 12 = .ok (.if_icmp .ge 23, 3) := by decide +kernel
theorem dX2_steepPlaces_15 : decode cX2_steepPlaces 15 = .ok (.aload_n 0, 1) := by decide +kernel
theorem dX2_steepPlaces_16 : decode cX2_steepPlaces 16 = .ok (.getfield 10, 3) := by decide +kernel
theorem dX2_steepPlaces_19 : decode cX2_steepPlaces 19 = .ok (.iload_n 2, 1) := by decide +kernel
theorem dX2_steepPlaces_20 : decode cX2_steepPlaces 20 = .ok (.invokevirtual 117, 3) := by decide +kernel
theorem dX2_steepPlaces_23 : decode cX2_steepPlaces 23 = .ok (.ifCond .eq 6, 3) := by decide +kernel
theorem dX2_steepPlaces_26 : decode cX2_steepPlaces 26 = .ok (.iinc 1 1, 3) := by decide +kernel
theorem dX2_steepPlaces_29 : decode cX2_steepPlaces 29 = .ok (.iinc 2 1, 3) := by decide +kernel
theorem dX2_steepPlaces_32 : decode cX2_steepPlaces 32 = .ok (.goto (-28), 3) := by decide +kernel
theorem dX2_steepPlaces_35 : decode cX2_steepPlaces 35 = .ok (.iload_n 1, 1) := by decide +kernel
theorem dX2_steepPlaces_36 : decode cX2_steepPlaces 36 = .ok (.ireturn, 1) := by decide +kernel
set_option maxRecDepth 20000 in
theorem ggX2_nextToTip_X0_firstSteep : GoodIn wsX2_nextToTip wsX0_firstSteep := goodIn_r _ [6, 7, 8, 9, 10, 5, 11, 12, 13, 14, 15, 16, 17, 18, 19, 20, 27, 28] (by decide +kernel) (by decide +kernel)
set_option maxRecDepth 20000 in
theorem gX2_nextToTip_X0_firstSteep : GoodIn wsX2_nextToTip (wsV RX2 121 RX0 yX0_firstSteep wsX0_firstSteep) := goodIn_app (goodIn_of _ (by decide +kernel)) ggX2_nextToTip_X0_firstSteep
theorem dX2_nextToTip_0 : decode cX2_nextToTip 0 = .ok (.aload_n 0, 1) := by decide +kernel
theorem dX2_nextToTip_1 : decode cX2_nextToTip 1 = .ok (.getfield 10, 3) := by decide +kernel
theorem dX2_nextToTip_4 : decode cX2_nextToTip 4 = .ok (.invokevirtual 121, 3) := by decide +kernel
theorem dX2_nextToTip_7 : decode cX2_nextToTip 7 = .ok (.ireturn, 1) := by decide +kernel
set_option maxRecDepth 20000 in
theorem ggX2_tilt_X2_requirePlace : GoodIn wsX2_tilt wsX2_requirePlace := goodIn_ca (goodIn_r _ [6, 7, 8, 1, 9, 10, 11, 12, 13, 14, 28, 29, 30, 31, 32, 33, 34, 35] (by decide +kernel) (by decide +kernel)) (goodIn_sub (fun _ h => List.mem_cons_of_mem _ (List.mem_append_right _ h)) (by decide +kernel))
set_option maxRecDepth 20000 in
theorem gX2_tilt_X2_requirePlace : GoodIn wsX2_tilt (wsV RX2 52 RX2 yX2_requirePlace wsX2_requirePlace) := goodIn_app (goodIn_of _ (by decide +kernel)) ggX2_tilt_X2_requirePlace
set_option maxRecDepth 20000 in
theorem ggX2_tilt_X0_tiltOn : GoodIn wsX2_tilt wsX0_tiltOn := goodIn_r _ [18, 14, 19, 20, 21, 12, 22, 23, 24, 25, 26, 27, 34, 35] (by decide +kernel) (by decide +kernel)
set_option maxRecDepth 20000 in
theorem gX2_tilt_X0_tiltOn : GoodIn wsX2_tilt (wsV RX2 124 RX0 yX0_tiltOn wsX0_tiltOn) := goodIn_app (goodIn_of _ (by decide +kernel)) ggX2_tilt_X0_tiltOn
theorem dX2_tilt_0 : decode cX2_tilt 0 = .ok (.aload_n 0, 1) := by decide +kernel
theorem dX2_tilt_1 : decode cX2_tilt 1 = .ok (.iload_n 1, 1) := by decide +kernel
theorem dX2_tilt_2 : decode cX2_tilt 2 = .ok (.invokevirtual 52, 3) := by decide +kernel
theorem dX2_tilt_5 : decode cX2_tilt 5 = .ok (.aload_n 0, 1) := by decide +kernel
theorem dX2_tilt_6 : decode cX2_tilt 6 = .ok (.getfield 10, 3) := by decide +kernel
theorem dX2_tilt_9 : decode cX2_tilt 9 = .ok (.iload_n 1, 1) := by decide +kernel
theorem dX2_tilt_10 : decode cX2_tilt 10 = .ok (.invokevirtual 124, 3) := by decide +kernel
theorem dX2_tilt_13 : decode cX2_tilt 13 = .ok (.ireturn, 1) := by decide +kernel
set_option maxRecDepth 20000 in
theorem ggX2_levelAxes_X0_size : GoodIn wsX2_levelAxes wsX0_size := goodIn_r _ [6, 7, 27, 28] (by decide +kernel) (by decide +kernel)
set_option maxRecDepth 20000 in
theorem gX2_levelAxes_X0_size : GoodIn wsX2_levelAxes (wsV RX2 44 RX0 yX0_size wsX0_size) := goodIn_app (goodIn_of _ (by decide +kernel)) ggX2_levelAxes_X0_size
set_option maxRecDepth 20000 in
theorem ggX2_levelAxes_X0_tiltOn : GoodIn wsX2_levelAxes wsX0_tiltOn := goodIn_r _ [11, 7, 12, 13, 14, 5, 15, 16, 17, 18, 19, 20, 27, 28] (by decide +kernel) (by decide +kernel)
set_option maxRecDepth 20000 in
theorem gX2_levelAxes_X0_tiltOn : GoodIn wsX2_levelAxes (wsV RX2 124 RX0 yX0_tiltOn wsX0_tiltOn) := goodIn_app (goodIn_of _ (by decide +kernel)) ggX2_levelAxes_X0_tiltOn
theorem dX2_levelAxes_0 : decode cX2_levelAxes 0 = .ok (.iconst 0, 1) := by decide +kernel
theorem dX2_levelAxes_1 : decode cX2_levelAxes 1 = .ok (.istore_n 1, 1) := by decide +kernel
theorem dX2_levelAxes_2 : decode cX2_levelAxes 2 = .ok (.iconst 0, 1) := by decide +kernel
theorem dX2_levelAxes_3 : decode cX2_levelAxes 3 = .ok (.istore_n 2, 1) := by decide +kernel
theorem dX2_levelAxes_4 : decode cX2_levelAxes 4 = .ok (.iload_n 2, 1) := by decide +kernel
theorem dX2_levelAxes_5 : decode cX2_levelAxes 5 = .ok (.aload_n 0, 1) := by decide +kernel
theorem dX2_levelAxes_6 : decode cX2_levelAxes 6 = .ok (.getfield 10, 3) := by decide +kernel
theorem dX2_levelAxes_9 : decode cX2_levelAxes 9 = .ok (.invokevirtual 44, 3) := by decide +kernel
theorem dX2_levelAxes_12 : decode cX2_levelAxes 12 = .ok (.if_icmp .ge 23, 3) := by decide +kernel
theorem dX2_levelAxes_15 : decode cX2_levelAxes 15 = .ok (.aload_n 0, 1) := by decide +kernel
theorem dX2_levelAxes_16 : decode cX2_levelAxes 16 = .ok (.getfield 10, 3) := by decide +kernel
theorem dX2_levelAxes_19 : decode cX2_levelAxes 19 = .ok (.iload_n 2, 1) := by decide +kernel
theorem dX2_levelAxes_20 : decode cX2_levelAxes 20 = .ok (.invokevirtual 124, 3) := by decide +kernel
theorem dX2_levelAxes_23 : decode cX2_levelAxes 23 = .ok (.ifCond .ne 6, 3) := by decide +kernel
theorem dX2_levelAxes_26 : decode cX2_levelAxes 26 = .ok (.iinc 1 1, 3) := by decide +kernel
theorem dX2_levelAxes_29 : decode cX2_levelAxes 29 = .ok (.iinc 2 1, 3) := by decide +kernel
theorem dX2_levelAxes_32 : decode cX2_levelAxes 32 = .ok (.goto (-28), 3) := by decide +kernel
theorem dX2_levelAxes_35 : decode cX2_levelAxes 35 = .ok (.iload_n 1, 1) := by decide +kernel
theorem dX2_levelAxes_36 : decode cX2_levelAxes 36 = .ok (.ireturn, 1) := by decide +kernel
set_option maxRecDepth 20000 in
theorem ggX2_bestAxis_X0_size : GoodIn wsX2_bestAxis wsX0_size := goodIn_r _ [10, 11, 31, 32] (by decide +kernel) (by decide +kernel)
set_option maxRecDepth 20000 in
theorem gX2_bestAxis_X0_size : GoodIn wsX2_bestAxis (wsV RX2 44 RX0 yX0_size wsX0_size) := goodIn_app (goodIn_of _ (by decide +kernel)) ggX2_bestAxis_X0_size
set_option maxRecDepth 20000 in
theorem ggX2_bestAxis_X0_tiltOn : GoodIn wsX2_bestAxis wsX0_tiltOn := goodIn_r _ [15, 11, 16, 17, 18, 9, 19, 20, 21, 22, 23, 24, 31, 32] (by decide +kernel) (by decide +kernel)
set_option maxRecDepth 20000 in
theorem gX2_bestAxis_X0_tiltOn : GoodIn wsX2_bestAxis (wsV RX2 124 RX0 yX0_tiltOn wsX0_tiltOn) := goodIn_app (goodIn_of _ (by decide +kernel)) ggX2_bestAxis_X0_tiltOn
theorem dX2_bestAxis_0 : decode cX2_bestAxis 0 = .ok (.iconst 0, 1) := by decide +kernel
theorem dX2_bestAxis_1 : decode cX2_bestAxis 1 = .ok (.istore_n 1, 1) := by decide +kernel
theorem dX2_bestAxis_2 : decode cX2_bestAxis 2 = .ok (.iconst 1, 1) := by decide +kernel
theorem dX2_bestAxis_3 : decode cX2_bestAxis 3 = .ok (.istore_n 2, 1) := by decide +kernel
theorem dX2_bestAxis_4 : decode cX2_bestAxis 4 = .ok (.iload_n 2, 1) := by decide +kernel
theorem dX2_bestAxis_5 : decode cX2_bestAxis 5 = .ok (.aload_n 0, 1) := by decide +kernel
theorem dX2_bestAxis_6 : decode cX2_bestAxis 6 = .ok (.getfield 10, 3) := by decide +kernel
theorem dX2_bestAxis_9 : decode cX2_bestAxis 9 = .ok (.invokevirtual 44, 3) := by decide +kernel
theorem dX2_bestAxis_12 : decode cX2_bestAxis 12 = .ok (.if_icmp .ge 36, 3) := by decide +kernel
theorem dX2_bestAxis_15 : decode cX2_bestAxis 15 = .ok (.aload_n 0, 1) := by decide +kernel
theorem dX2_bestAxis_16 : decode cX2_bestAxis 16 = .ok (.getfield 10, 3) := by decide +kernel
theorem dX2_bestAxis_19 : decode cX2_bestAxis 19 = .ok (.iload_n 2, 1) := by decide +kernel
theorem dX2_bestAxis_20 : decode cX2_bestAxis 20 = .ok (.invokevirtual 124, 3) := by decide +kernel
theorem dX2_bestAxis_23 : decode cX2_bestAxis 23 = .ok (.invokestatic 72, 3) := by decide +kernel
theorem dX2_bestAxis_26 : decode cX2_bestAxis 26 = .ok (.aload_n 0, 1) := by decide +kernel
theorem dX2_bestAxis_27 : decode cX2_bestAxis 27 = .ok (.getfield 10, 3) := by decide +kernel
theorem dX2_bestAxis_30 : decode cX2_bestAxis 30 = .ok (.iload_n 1, 1) := by decide +kernel
theorem dX2_bestAxis_31 : decode cX2_bestAxis 31 = .ok (.invokevirtual 124, 3) := by decide +kernel
theorem dX2_bestAxis_34 : decode cX2_bestAxis 34 = .ok (.invokestatic 72, 3) := by decide +kernel
theorem dX2_bestAxis_37 : decode cX2_bestAxis 37 = .ok (.if_icmp .ge 5, 3) := by decide +kernel
theorem dX2_bestAxis_40 : decode cX2_bestAxis 40 = .ok (.iload_n 2, 1) := by decide +kernel
theorem dX2_bestAxis_41 : decode cX2_bestAxis 41 = .ok (.istore_n 1, 1) := by decide +kernel
theorem dX2_bestAxis_42 : decode cX2_bestAxis 42 = .ok (.iinc 2 1, 3) := by decide +kernel
theorem dX2_bestAxis_45 : decode cX2_bestAxis 45 = .ok (.goto (-41), 3) := by decide +kernel
theorem dX2_bestAxis_48 : decode cX2_bestAxis 48 = .ok (.iload_n 1, 1) := by decide +kernel
theorem dX2_bestAxis_49 : decode cX2_bestAxis 49 = .ok (.ireturn, 1) := by decide +kernel
set_option maxRecDepth 20000 in
theorem ggX2_numberIn_X2_keptRing : GoodIn wsX2_numberIn wsX2_keptRing := goodIn_ca (goodIn_r _ [5, 6, 7, 8, 9, 26, 27, 28, 29, 30, 31] (by decide +kernel) (by decide +kernel)) (goodIn_sub (fun _ h => List.mem_cons_of_mem _ (List.mem_append_right _ h)) (by decide +kernel))
set_option maxRecDepth 20000 in
theorem gX2_numberIn_X2_keptRing : GoodIn wsX2_numberIn (wsV RX2 85 RX2 yX2_keptRing wsX2_keptRing) := goodIn_app (goodIn_of _ (by decide +kernel)) ggX2_numberIn_X2_keptRing
set_option maxRecDepth 20000 in
theorem ggX2_numberIn_X2_requirePlace : GoodIn wsX2_numberIn wsX2_requirePlace := goodIn_ca (goodIn_r _ [13, 6, 7, 14, 15, 16, 17, 18, 19, 20, 26, 27, 28, 29, 30, 31, 32, 33] (by decide +kernel) (by decide +kernel)) (goodIn_sub (fun _ h => List.mem_cons_of_mem _ (List.mem_append_right _ h)) (by decide +kernel))
set_option maxRecDepth 20000 in
theorem gX2_numberIn_X2_requirePlace : GoodIn wsX2_numberIn (wsV RX2 52 RX2 yX2_requirePlace wsX2_requirePlace) := goodIn_app (goodIn_of _ (by decide +kernel)) ggX2_numberIn_X2_requirePlace
set_option maxRecDepth 20000 in
theorem ggX2_numberIn_X0_at : GoodIn wsX2_numberIn wsX0_at := goodIn_r _ [24, 25, 32, 33] (by decide +kernel) (by decide +kernel)
set_option maxRecDepth 20000 in
theorem gX2_numberIn_X0_at : GoodIn wsX2_numberIn (wsV RX2 58 RX0 yX0_at wsX0_at) := goodIn_app (goodIn_of _ (by decide +kernel)) ggX2_numberIn_X0_at
theorem dX2_numberIn_0 : decode cX2_numberIn 0 = .ok (.aload_n 0, 1) := by decide +kernel
theorem dX2_numberIn_1 : decode cX2_numberIn 1 = .ok (.iload_n 1, 1) := by decide +kernel
theorem dX2_numberIn_2 : decode cX2_numberIn 2 = .ok (.invokevirtual 85, 3) := by decide +kernel
theorem dX2_numberIn_5 : decode cX2_numberIn 5 = .ok (.astore_n 3, 1) := by decide +kernel
theorem dX2_numberIn_6 : decode cX2_numberIn 6 = .ok (.aload_n 0, 1) := by decide +kernel
theorem dX2_numberIn_7 : decode cX2_numberIn 7 = .ok (.iload_n 2, 1) := by decide +kernel
theorem dX2_numberIn_8 : decode cX2_numberIn 8 = .ok (.invokevirtual 52, 3) := by decide +kernel
theorem dX2_numberIn_11 : decode cX2_numberIn 11 = .ok (.aload_n 3, 1) := by decide +kernel
theorem dX2_numberIn_12 : decode cX2_numberIn 12 = .ok (.iload_n 2, 1) := by decide +kernel
theorem dX2_numberIn_13 : decode cX2_numberIn 13 = .ok (.invokevirtual 58, 3) := by decide +kernel
theorem dX2_numberIn_16 : decode cX2_numberIn 16 = .ok (.ireturn, 1) := by decide +kernel
set_option maxRecDepth 20000 in
theorem ggX2_differences_X2_keptRing : GoodIn wsX2_differences wsX2_keptRing := goodIn_ca (goodIn_r _ [6, 7, 8, 9, 10, 22, 23, 24, 25, 26, 27] (by decide +kernel) (by decide +kernel)) (goodIn_sub (fun _ h => List.mem_cons_of_mem _ (List.mem_append_right _ h)) (by decide +kernel))
set_option maxRecDepth 20000 in
theorem gX2_differences_X2_keptRing : GoodIn wsX2_differences (wsV RX2 85 RX2 yX2_keptRing wsX2_keptRing) := goodIn_app (goodIn_of _ (by decide +kernel)) ggX2_differences_X2_keptRing
set_option maxRecDepth 20000 in
theorem ggX2_differences_X0_differencesFrom : GoodIn wsX2_differences wsX0_differencesFrom := goodIn_r _ [15, 16, 17, 18, 19, 14, 20, 21, 28, 29] (by decide +kernel) (by decide +kernel)
set_option maxRecDepth 20000 in
theorem gX2_differences_X0_differencesFrom : GoodIn wsX2_differences (wsV RX2 127 RX0 yX0_differencesFrom wsX0_differencesFrom) := goodIn_app (goodIn_of _ (by decide +kernel)) ggX2_differences_X0_differencesFrom
theorem dX2_differences_0 : decode cX2_differences 0 = .ok (.aload_n 0, 1) := by decide +kernel
theorem dX2_differences_1 : decode cX2_differences 1 = .ok (.getfield 10, 3) := by decide +kernel
theorem dX2_differences_4 : decode cX2_differences 4 = .ok (.aload_n 0, 1) := by decide +kernel
theorem dX2_differences_5 : decode cX2_differences 5 = .ok (.iload_n 1, 1) := by decide +kernel
theorem dX2_differences_6 : decode cX2_differences 6 = .ok (.invokevirtual 85, 3) := by decide +kernel
theorem dX2_differences_9 : decode cX2_differences 9 = .ok (.invokevirtual 127, 3) := by decide +kernel
theorem dX2_differences_12 : decode cX2_differences 12 = .ok (.ireturn, 1) := by decide +kernel
set_option maxRecDepth 20000 in
theorem ggX2_canReach_X2_keptRing : GoodIn wsX2_canReach wsX2_keptRing := goodIn_ca (goodIn_r _ [6, 7, 8, 9, 10, 34, 35, 36, 37, 38, 39] (by decide +kernel) (by decide +kernel)) (goodIn_sub (fun _ h => List.mem_cons_of_mem _ (List.mem_append_right _ h)) (by decide +kernel))
set_option maxRecDepth 20000 in
theorem gX2_canReach_X2_keptRing : GoodIn wsX2_canReach (wsV RX2 85 RX2 yX2_keptRing wsX2_keptRing) := goodIn_app (goodIn_of _ (by decide +kernel)) ggX2_canReach_X2_keptRing
set_option maxRecDepth 20000 in
theorem ggX2_canReach_X0_canBecome : GoodIn wsX2_canReach wsX0_canBecome := goodIn_r _ [15, 16, 17, 18, 14, 19, 20, 21, 22, 23, 24, 25, 26, 27, 28, 29, 30, 31, 32, 33, 40, 41] (by decide +kernel) (by decide +kernel)
set_option maxRecDepth 20000 in
theorem gX2_canReach_X0_canBecome : GoodIn wsX2_canReach (wsV RX2 130 RX0 yX0_canBecome wsX0_canBecome) := goodIn_app (goodIn_of _ (by decide +kernel)) ggX2_canReach_X0_canBecome
theorem dX2_canReach_0 : decode cX2_canReach 0 = .ok (.aload_n 0, 1) := by decide +kernel
theorem dX2_canReach_1 : decode cX2_canReach 1 = .ok (.getfield 10, 3) := by decide +kernel
theorem dX2_canReach_4 : decode cX2_canReach 4 = .ok (.aload_n 0, 1) := by decide +kernel
theorem dX2_canReach_5 : decode cX2_canReach 5 = .ok (.iload_n 1, 1) := by decide +kernel
theorem dX2_canReach_6 : decode cX2_canReach 6 = .ok (.invokevirtual 85, 3) := by decide +kernel
theorem dX2_canReach_9 : decode cX2_canReach 9 = .ok (.invokevirtual 130, 3) := by decide +kernel
theorem dX2_canReach_12 : decode cX2_canReach 12 = .ok (.ireturn, 1) := by decide +kernel
set_option maxRecDepth 20000 in
theorem ggX2_reachable_X2_keptRing : GoodIn wsX2_reachable wsX2_keptRing := goodIn_ca (goodIn_r _ [7, 8, 9, 1, 10, 34, 35, 36, 37, 38, 39] (by decide +kernel) (by decide +kernel)) (goodIn_sub (fun _ h => List.mem_cons_of_mem _ (List.mem_append_right _ h)) (by decide +kernel))
set_option maxRecDepth 20000 in
theorem gX2_reachable_X2_keptRing : GoodIn wsX2_reachable (wsV RX2 85 RX2 yX2_keptRing wsX2_keptRing) := goodIn_app (goodIn_of _ (by decide +kernel)) ggX2_reachable_X2_keptRing
set_option maxRecDepth 20000 in
theorem ggX2_reachable_X0_canBecome : GoodIn wsX2_reachable wsX0_canBecome := goodIn_r _ [15, 16, 17, 18, 14, 19, 20, 21, 22, 23, 24, 25, 26, 27, 28, 29, 30, 31, 32, 33, 40, 41] (by decide +kernel) (by decide +kernel)
set_option maxRecDepth 20000 in
theorem gX2_reachable_X0_canBecome : GoodIn wsX2_reachable (wsV RX2 130 RX0 yX0_canBecome wsX0_canBecome) := goodIn_app (goodIn_of _ (by decide +kernel)) ggX2_reachable_X0_canBecome
theorem dX2_reachable_0 : decode cX2_reachable 0 = .ok (.iconst 0, 1) := by decide +kernel
theorem dX2_reachable_1 : decode cX2_reachable 1 = .ok (.istore_n 1, 1) := by decide +kernel
theorem dX2_reachable_2 : decode cX2_reachable 2 = .ok (.iconst 0, 1) := by decide +kernel
theorem dX2_reachable_3 : decode cX2_reachable 3 = .ok (.istore_n 2, 1) := by decide +kernel
theorem dX2_reachable_4 : decode cX2_reachable 4 = .ok (.iload_n 2, 1) := by decide +kernel
theorem dX2_reachable_5 : decode cX2_reachable 5 = .ok (.aload_n 0, 1) := by decide +kernel
theorem dX2_reachable_6 : decode cX2_reachable 6 = .ok (.getfield 20, 3) := by decide +kernel
theorem dX2_reachable_9 : decode cX2_reachable 9 = .ok (.if_icmp .ge 27, 3) := by decide +kernel
theorem dX2_reachable_12 : decode cX2_reachable 12 = .ok (.aload_n 0, 1) := by decide +kernel
theorem dX2_reachable_13 : decode cX2_reachable 13 = .ok (.getfield 10, 3) := by decide +kernel
theorem dX2_reachable_16 : decode cX2_reachable 16 = .ok (.aload_n 0, 1) := by decide +kernel
theorem dX2_reachable_17 : decode cX2_reachable 17 = .ok (.iload_n 2, 1) := by decide +kernel
theorem dX2_reachable_18 : decode cX2_reachable 18 = .ok (.invokevirtual 85, 3) := by decide +kernel
theorem dX2_reachable_21 : decode cX2_reachable 21 = .ok (.invokevirtual 130, 3) := by decide +kernel
theorem dX2_reachable_24 : decode cX2_reachable 24 = .ok (.ifCond .eq 6, 3) := by decide +kernel
theorem dX2_reachable_27 : decode cX2_reachable 27 = .ok (.iinc 1 1, 3) := by decide +kernel
theorem dX2_reachable_30 : decode cX2_reachable 30 = .ok (.iinc 2 1, 3) := by decide +kernel
theorem dX2_reachable_33 : decode cX2_reachable 33 = .ok (.goto (-29), 3) := by decide +kernel
theorem dX2_reachable_36 : decode cX2_reachable 36 = .ok (.iload_n 1, 1) := by decide +kernel
theorem dX2_reachable_37 : decode cX2_reachable 37 = .ok (.ireturn, 1) := by decide +kernel
set_option maxRecDepth 20000 in
theorem ggX2_tipsTo_X2_keptRing : GoodIn wsX2_tipsTo wsX2_keptRing := goodIn_ca (goodIn_r _ [7, 8, 9, 10, 11, 66, 67, 68, 69, 70, 71] (by decide +kernel) (by decide +kernel)) (goodIn_sub (fun _ h => List.mem_cons_of_mem _ (List.mem_append_left _ (List.mem_append_right _ h))) (by decide +kernel))
set_option maxRecDepth 20000 in
theorem gX2_tipsTo_X2_keptRing : GoodIn wsX2_tipsTo (wsV RX2 85 RX2 yX2_keptRing wsX2_keptRing) := goodIn_app (goodIn_of _ (by decide +kernel)) ggX2_tipsTo_X2_keptRing
set_option maxRecDepth 20000 in
theorem ggX2_tipsTo_X2_requirePlace : GoodIn wsX2_tipsTo wsX2_requirePlace := goodIn_ca (goodIn_r _ [15, 8, 9, 2, 16, 17, 18, 19, 20, 21, 66, 67, 68, 69, 70, 71, 72, 73] (by decide +kernel) (by decide +kernel)) (goodIn_sub (fun _ h => List.mem_cons_of_mem _ (List.mem_append_left _ (List.mem_append_right _ h))) (by decide +kernel))
set_option maxRecDepth 20000 in
theorem gX2_tipsTo_X2_requirePlace : GoodIn wsX2_tipsTo (wsV RX2 52 RX2 yX2_requirePlace wsX2_requirePlace) := goodIn_app (goodIn_of _ (by decide +kernel)) ggX2_tipsTo_X2_requirePlace
set_option maxRecDepth 20000 in
theorem ggX2_tipsTo_X2_requireWayTo : GoodIn wsX2_tipsTo wsX2_requireWayTo := goodIn_ca (goodIn_r _ [25, 26, 27, 2, 28, 29, 30, 19, 31, 32, 33, 34, 35, 21, 36, 37, 38, 39, 40, 41, 42, 43, 44, 45, 46, 47, 48, 66, 67, 68, 69, 70, 71, 72, 73] (by decide +kernel) (by decide +kernel)) (goodIn_sub (fun _ h => List.mem_cons_of_mem _ (List.mem_append_right _ h)) (by decide +kernel))
set_option maxRecDepth 20000 in
theorem gX2_tipsTo_X2_requireWayTo : GoodIn wsX2_tipsTo (wsV RX2 98 RX2 yX2_requireWayTo wsX2_requireWayTo) := goodIn_app (goodIn_of _ (by decide +kernel)) ggX2_tipsTo_X2_requireWayTo
set_option maxRecDepth 20000 in
theorem ggX2_tipsTo_X1_find : GoodIn wsX2_tipsTo wsX1_find := goodIn_r _ [53, 54, 55, 56, 17, 18, 19, 20, 21, 57, 58, 59, 52, 60, 61, 37, 38, 39, 40, 74, 75, 72, 73] (by decide +kernel) (by decide +kernel)
set_option maxRecDepth 20000 in
theorem gX2_tipsTo_X1_find : GoodIn wsX2_tipsTo (wsV RX2 134 RX1 yX1_find wsX1_find) := goodIn_app (goodIn_of _ (by decide +kernel)) ggX2_tipsTo_X1_find
set_option maxRecDepth 20000 in
theorem ggX2_tipsTo_X1_tipsAt : GoodIn wsX2_tipsTo wsX1_tipsAt := goodIn_r _ [65, 55, 74, 75] (by decide +kernel) (by decide +kernel)
set_option maxRecDepth 20000 in
theorem gX2_tipsTo_X1_tipsAt : GoodIn wsX2_tipsTo (wsV RX2 138 RX1 yX1_tipsAt wsX1_tipsAt) := goodIn_app (goodIn_of _ (by decide +kernel)) ggX2_tipsTo_X1_tipsAt
theorem dX2_tipsTo_0 : decode cX2_tipsTo 0 = .ok (.aload_n 0, 1) := by decide +kernel
theorem dX2_tipsTo_1 : decode cX2_tipsTo 1 = .ok (.iload_n 1, 1) := by decide +kernel
theorem dX2_tipsTo_2 : decode cX2_tipsTo 2 = .ok (.invokevirtual 85, 3) := by decide +kernel
theorem dX2_tipsTo_5 : decode cX2_tipsTo 5 = .ok (.astore_n 3, 1) := by decide +kernel
theorem dX2_tipsTo_6 : decode cX2_tipsTo 6 = .ok (.aload_n 0, 1) := by decide +kernel
theorem dX2_tipsTo_7 : decode cX2_tipsTo 7 = .ok (.iload_n 2, 1) := by decide +kernel
theorem dX2_tipsTo_8 : decode cX2_tipsTo 8 = .ok (.invokevirtual 52, 3) := by decide +kernel
theorem dX2_tipsTo_11 : decode cX2_tipsTo 11 = .ok (.aload_n 0, 1) := by decide +kernel
theorem dX2_tipsTo_12 : decode cX2_tipsTo 12 = .ok (.aload_n 3, 1) := by decide +kernel
theorem dX2_tipsTo_13 : decode cX2_tipsTo 13 = .ok (.invokevirtual 98, 3) := by decide +kernel
theorem dX2_tipsTo_16 : decode cX2_tipsTo 16 = .ok (.aload_n 0, 1) := by decide +kernel
theorem dX2_tipsTo_17 : decode cX2_tipsTo 17 = .ok (.getfield 33, 3) := by decide +kernel
theorem dX2_tipsTo_20 : decode cX2_tipsTo 20 = .ok (.aload_n 0, 1) := by decide +kernel
theorem dX2_tipsTo_21 : decode cX2_tipsTo 21 = .ok (.getfield 10, 3) := by decide +kernel
theorem dX2_tipsTo_24 : decode cX2_tipsTo 24 = .ok (.aload_n 3, 1) := by decide +kernel
theorem dX2_tipsTo_25 : decode cX2_tipsTo 25 = .ok (.invokevirtual 134, 3) := by decide +kernel
theorem dX2_tipsTo_28 : decode cX2_tipsTo 28 = .ok (.aload_n 0, 1) := by decide +kernel
theorem dX2_tipsTo_29 : decode cX2_tipsTo 29 = .ok (.getfield 33, 3) := by decide +kernel
theorem dX2_tipsTo_32 : decode cX2_tipsTo 32 = .ok (.iload_n 2, 1) := by decide +kernel
theorem dX2_tipsTo_33 : decode cX2_tipsTo 33 = .ok (.invokevirtual 138, 3) := by decide +kernel
theorem dX2_tipsTo_36 : decode cX2_tipsTo 36 = .ok (.ireturn, 1) := by decide +kernel
set_option maxRecDepth 20000 in
theorem ggX2_fewestTips_X2_keptRing : GoodIn wsX2_fewestTips wsX2_keptRing := goodIn_ca (goodIn_r _ [5, 6, 7, 8, 9, 74, 75, 76, 77, 78, 79] (by decide +kernel) (by decide +kernel)) (goodIn_sub (fun _ h => List.mem_cons_of_mem _ (List.mem_append_right _ h)) (by decide +kernel))
set_option maxRecDepth 20000 in
theorem gX2_fewestTips_X2_keptRing : GoodIn wsX2_fewestTips (wsV RX2 85 RX2 yX2_keptRing wsX2_keptRing) := goodIn_app (goodIn_of _ (by decide +kernel)) ggX2_fewestTips_X2_keptRing
set_option maxRecDepth 20000 in
theorem ggX2_fewestTips_X2_fewestTo : GoodIn wsX2_fewestTips wsX2_fewestTo := goodIn_r _ [13, 14, 15, 16, 17, 18, 19, 20, 21, 22, 23, 24, 25, 26, 27, 28, 29, 30, 31, 32, 33, 34, 35, 36, 37, 38, 39, 40, 41, 42, 43, 44, 45, 46, 47, 48, 49, 50, 51, 52, 53, 54, 55, 56, 57, 58, 59, 60, 61, 62, 63, 64, 65, 66, 67, 68, 69, 70, 71, 72, 73, 74, 75, 76, 77, 78, 79, 80, 81, 82, 83] (by decide +kernel) (by decide +kernel)
set_option maxRecDepth 20000 in
theorem gX2_fewestTips_X2_fewestTo : GoodIn wsX2_fewestTips (wsV RX2 101 RX2 yX2_fewestTo wsX2_fewestTo) := goodIn_app (goodIn_of _ (by decide +kernel)) ggX2_fewestTips_X2_fewestTo
theorem dX2_fewestTips_0 : decode cX2_fewestTips 0 = .ok (.aload_n 0, 1) := by decide +kernel
theorem dX2_fewestTips_1 : decode cX2_fewestTips 1 = .ok (.aload_n 0, 1) := by decide +kernel
theorem dX2_fewestTips_2 : decode cX2_fewestTips 2 = .ok (.iload_n 1, 1) := by decide +kernel
theorem dX2_fewestTips_3 : decode cX2_fewestTips 3 = .ok (.invokevirtual 85, 3) := by decide +kernel
theorem dX2_fewestTips_6 : decode cX2_fewestTips 6 = .ok (.invokevirtual 101, 3) := by decide +kernel
theorem dX2_fewestTips_9 : decode cX2_fewestTips 9 = .ok (.ireturn, 1) := by decide +kernel
set_option maxRecDepth 20000 in
theorem ggX2_nearestTarget_X2_keptRing : GoodIn wsX2_nearestTarget wsX2_keptRing := goodIn_ca (goodIn_r _ [6, 7, 8, 1, 9, 74, 75, 76, 77, 78, 79] (by decide +kernel) (by decide +kernel)) (goodIn_sub (fun _ h => List.mem_cons_of_mem _ (List.mem_append_right _ h)) (by decide +kernel))
set_option maxRecDepth 20000 in
theorem gX2_nearestTarget_X2_keptRing : GoodIn wsX2_nearestTarget (wsV RX2 85 RX2 yX2_keptRing wsX2_keptRing) := goodIn_app (goodIn_of _ (by decide +kernel)) ggX2_nearestTarget_X2_keptRing
set_option maxRecDepth 20000 in
theorem ggX2_nearestTarget_X2_fewestTo : GoodIn wsX2_nearestTarget wsX2_fewestTo := goodIn_r _ [13, 14, 15, 16, 17, 18, 19, 20, 21, 22, 23, 24, 25, 26, 27, 28, 29, 30, 31, 32, 33, 34, 35, 36, 37, 38, 39, 40, 41, 42, 43, 44, 45, 46, 47, 48, 49, 50, 51, 52, 53, 54, 55, 56, 57, 58, 59, 60, 61, 62, 63, 64, 65, 66, 67, 68, 69, 70, 71, 72, 73, 74, 75, 76, 77, 78, 79, 80, 81, 82, 83] (by decide +kernel) (by decide +kernel)
set_option maxRecDepth 20000 in
theorem gX2_nearestTarget_X2_fewestTo : GoodIn wsX2_nearestTarget (wsV RX2 101 RX2 yX2_fewestTo wsX2_fewestTo) := goodIn_app (goodIn_of _ (by decide +kernel)) ggX2_nearestTarget_X2_fewestTo
theorem dX2_nearestTarget_0 : decode cX2_nearestTarget 0 = .ok (.iconst (-1), 1) := by decide +kernel
theorem dX2_nearestTarget_1 : decode cX2_nearestTarget 1 = .ok (.istore_n 1, 1) := by decide +kernel
theorem dX2_nearestTarget_2 : decode cX2_nearestTarget 2 = .ok (.iconst (-1), 1) := by decide +kernel
theorem dX2_nearestTarget_3 : decode cX2_nearestTarget 3 = .ok (.istore_n 2, 1) := by decide +kernel
theorem dX2_nearestTarget_4 : decode cX2_nearestTarget 4 = .ok (.iconst 0, 1) := by decide +kernel
theorem dX2_nearestTarget_5 : decode cX2_nearestTarget 5 = .ok (.istore_n 3, 1) := by decide +kernel
theorem dX2_nearestTarget_6 : decode cX2_nearestTarget 6 = .ok (.iload_n 3, 1) := by decide +kernel
theorem dX2_nearestTarget_7 : decode cX2_nearestTarget 7 = .ok (.aload_n 0, 1) := by decide +kernel
theorem dX2_nearestTarget_8 : decode cX2_nearestTarget 8 = .ok (.getfield 20, 3) := by decide +kernel
theorem dX2_nearestTarget_11 : decode cX2_nearestTarget 11 = .ok (.if_icmp .ge 40, 3) := by decide +kernel
theorem dX2_nearestTarget_14 : decode cX2_nearestTarget 14 = .ok (.aload_n 0, 1) := by decide +kernel
theorem dX2_nearestTarget_15 : decode cX2_nearestTarget 15 = .ok (.aload_n 0, 1) := by decide +kernel
theorem dX2_nearestTarget_16 : decode cX2_nearestTarget 16 = .ok (.iload_n 3, 1) := by decide +kernel
theorem dX2_nearestTarget_17 : decode cX2_nearestTarget 17 = .ok (.invokevirtual 85, 3) := by decide +kernel
theorem dX2_nearestTarget_20 : decode cX2_nearestTarget 20 = .ok (.invokevirtual 101, 3) := by decide +kernel
theorem dX2_nearestTarget_23 : decode cX2_nearestTarget 23 = .ok (.istore 4, 2) := by decide +kernel
theorem dX2_nearestTarget_25 : decode cX2_nearestTarget 25 = .ok (.iload 4, 2) := by decide +kernel
theorem dX2_nearestTarget_27 : decode cX2_nearestTarget 27 = .ok (.ifCond .lt 18, 3) := by decide +kernel
theorem dX2_nearestTarget_30 : decode cX2_nearestTarget 30 = .ok (.iload_n 1, 1) := by decide +kernel
theorem dX2_nearestTarget_31 : decode cX2_nearestTarget 31 = .ok (.ifCond .lt 9, 3) := by decide +kernel
theorem dX2_nearestTarget_34 : decode cX2_nearestTarget 34 = .ok (.iload 4, 2) := by decide +kernel
theorem dX2_nearestTarget_36 : decode cX2_nearestTarget 36 = .ok (.iload_n 2, 1) := by decide +kernel
theorem dX2_nearestTarget_37 : decode cX2_nearestTarget 37 = .ok (.if_icmp .ge 8, 3) := by decide +kernel
theorem dX2_nearestTarget_40 : decode cX2_nearestTarget 40 = .ok (.iload_n 3, 1) := by decide +kernel
theorem dX2_nearestTarget_41 : decode cX2_nearestTarget 41 = .ok (.istore_n 1, 1) := by decide +kernel
theorem dX2_nearestTarget_42 : decode cX2_nearestTarget 42 = .ok (.iload 4, 2) := by decide +kernel
theorem dX2_nearestTarget_44 : decode cX2_nearestTarget 44 = .ok (.istore_n 2, 1) := by decide +kernel
theorem dX2_nearestTarget_45 : decode cX2_nearestTarget 45 = .ok (.iinc 3 1, 3) := by decide +kernel
theorem dX2_nearestTarget_48 : decode cX2_nearestTarget 48 = .ok (.goto (-42), 3) := by decide +kernel
theorem dX2_nearestTarget_51 : decode cX2_nearestTarget 51 = .ok (.iload_n 1, 1) := by decide +kernel
theorem dX2_nearestTarget_52 : decode cX2_nearestTarget 52 = .ok (.ireturn, 1) := by decide +kernel
set_option maxRecDepth 20000 in
theorem ggX2_stepsToRest_X2_tryToRest : GoodIn wsX2_stepsToRest wsX2_tryToRest := goodIn_r _ [5, 6, 7, 8, 9, 10, 11, 12, 13, 14, 15, 16, 17, 18, 19, 20, 21, 22, 23, 24, 25, 26, 27, 28, 29, 30, 31, 32, 33, 34, 35, 36, 37, 38, 39, 40, 41, 42, 43, 44, 45, 46, 47, 48, 49, 50, 51, 52, 53, 54, 55] (by decide +kernel) (by decide +kernel)
set_option maxRecDepth 20000 in
theorem gX2_stepsToRest_X2_tryToRest : GoodIn wsX2_stepsToRest (wsV RX2 141 RX2 yX2_tryToRest wsX2_tryToRest) := goodIn_app (goodIn_of _ (by decide +kernel)) ggX2_stepsToRest_X2_tryToRest
theorem dX2_stepsToRest_0 : decode cX2_stepsToRest 0 = .ok (.aload_n 0, 1) := by decide +kernel
theorem dX2_stepsToRest_1 : decode cX2_stepsToRest 1 = .ok (.invokevirtual 141, 3) := by decide +kernel
theorem dX2_stepsToRest_4 : decode cX2_stepsToRest 4 = .ok (.ireturn, 1) := by decide +kernel
set_option maxRecDepth 20000 in
theorem ggX2_spreadAtRest_X2_tryToRest : GoodIn wsX2_spreadAtRest wsX2_tryToRest := goodIn_r _ [6, 1, 7, 8, 9, 10, 11, 12, 13, 14, 15, 16, 17, 18, 19, 20, 21, 22, 23, 24, 25, 26, 27, 28, 29, 30, 31, 32, 33, 34, 35, 36, 37, 38, 39, 40, 41, 42, 43, 44, 45, 46, 47, 60, 61, 62, 63, 64, 65, 66, 67] (by decide +kernel) (by decide +kernel)
set_option maxRecDepth 20000 in
theorem gX2_spreadAtRest_X2_tryToRest : GoodIn wsX2_spreadAtRest (wsV RX2 141 RX2 yX2_tryToRest wsX2_tryToRest) := goodIn_app (goodIn_of _ (by decide +kernel)) ggX2_spreadAtRest_X2_tryToRest
set_option maxRecDepth 20000 in
theorem ggX2_spreadAtRest_X0_span : GoodIn wsX2_spreadAtRest wsX0_span := goodIn_r _ [51, 13, 52, 53, 54, 55, 15, 16, 17, 11, 18, 14, 56, 57, 58, 59, 66, 67] (by decide +kernel) (by decide +kernel)
set_option maxRecDepth 20000 in
theorem gX2_spreadAtRest_X0_span : GoodIn wsX2_spreadAtRest (wsV RX2 111 RX0 yX0_span wsX0_span) := goodIn_app (goodIn_of _ (by decide +kernel)) ggX2_spreadAtRest_X0_span
theorem dX2_spreadAtRest_0 : decode cX2_spreadAtRest 0 = .ok (.aload_n 0, 1) := by decide +kernel
theorem dX2_spreadAtRest_1 : decode cX2_spreadAtRest 1 = .ok (.invokevirtual 141, 3) := by decide +kernel
theorem dX2_spreadAtRest_4 : decode cX2_spreadAtRest 4 = .ok (.ifCond .ge 7, 3) := by decide +kernel
theorem dX2_spreadAtRest_7 : decode cX2_spreadAtRest 7 = .ok (.iconst (-1), 1) := by decide +kernel
theorem dX2_spreadAtRest_8 : decode cX2_spreadAtRest 8 = .ok (.goto 10, 3) := by decide +kernel
theorem dX2_spreadAtRest_11 : decode cX2_spreadAtRest 11 = .ok (.aload_n 0, 1) := by decide +kernel
theorem dX2_spreadAtRest_12 : decode cX2_spreadAtRest 12 = .ok (.getfield 27, 3) := by decide +kernel
theorem dX2_spreadAtRest_15 : decode cX2_spreadAtRest 15 = .ok (.invokevirtual 111, 3) := by decide +kernel
theorem dX2_spreadAtRest_18 : decode cX2_spreadAtRest 18 = .ok (.ireturn, 1) := by decide +kernel
set_option maxRecDepth 20000 in
theorem ggX2_spreadWith_X2_requirePlace : GoodIn wsX2_spreadWith wsX2_requirePlace := goodIn_ca (goodIn_r _ [5, 6, 7, 8, 9, 10, 11, 12, 13, 14, 63, 64, 65, 66, 67, 68, 69, 70] (by decide +kernel) (by decide +kernel)) (goodIn_sub (fun _ h => List.mem_cons_of_mem _ (List.mem_append_left _ (List.mem_append_right _ h))) (by decide +kernel))
set_option maxRecDepth 20000 in
theorem gX2_spreadWith_X2_requirePlace : GoodIn wsX2_spreadWith (wsV RX2 52 RX2 yX2_requirePlace wsX2_requirePlace) := goodIn_app (goodIn_of _ (by decide +kernel)) ggX2_spreadWith_X2_requirePlace
set_option maxRecDepth 20000 in
theorem ggX2_spreadWith_X2_requireTimes : GoodIn wsX2_spreadWith wsX2_requireTimes := goodIn_ca (goodIn_r _ [18, 19, 20] (by decide +kernel) (by decide +kernel)) (goodIn_sub (fun _ h => List.mem_cons_of_mem _ (List.mem_append_right _ h)) (by decide +kernel))
set_option maxRecDepth 20000 in
theorem gX2_spreadWith_X2_requireTimes : GoodIn wsX2_spreadWith (wsV RX2 66 RX2 yX2_requireTimes wsX2_requireTimes) := goodIn_app (goodIn_of _ (by decide +kernel)) ggX2_spreadWith_X2_requireTimes
set_option maxRecDepth 20000 in
theorem ggX2_spreadWith_X2_spanAfter : GoodIn wsX2_spreadWith wsX2_spanAfter := goodIn_r _ [24, 25, 8, 26, 27, 28, 12, 29, 14, 30, 31, 32, 33, 34, 35, 36, 37, 38, 39, 40, 41, 42, 43, 44, 45, 46, 47, 48, 49, 50, 51, 52, 53, 54, 55, 56, 57, 58, 59, 60, 61, 62, 63, 64, 65, 66, 67, 68, 69, 70] (by decide +kernel) (by decide +kernel)
set_option maxRecDepth 20000 in
theorem gX2_spreadWith_X2_spanAfter : GoodIn wsX2_spreadWith (wsV RX2 144 RX2 yX2_spanAfter wsX2_spanAfter) := goodIn_app (goodIn_of _ (by decide +kernel)) ggX2_spreadWith_X2_spanAfter
theorem dX2_spreadWith_0 : decode cX2_spreadWith 0 = .ok (.aload_n 0, 1) := by decide +kernel
theorem dX2_spreadWith_1 : decode cX2_spreadWith 1 = .ok (.iload_n 1, 1) := by decide +kernel
theorem dX2_spreadWith_2 : decode cX2_spreadWith 2 = .ok (.invokevirtual 52, 3) := by decide +kernel
theorem dX2_spreadWith_5 : decode cX2_spreadWith 5 = .ok (.aload_n 0, 1) := by decide +kernel
theorem dX2_spreadWith_6 : decode cX2_spreadWith 6 = .ok (.iload_n 2, 1) := by decide +kernel
theorem dX2_spreadWith_7 : decode cX2_spreadWith 7 = .ok (.invokevirtual 66, 3) := by decide +kernel
theorem dX2_spreadWith_10 : decode cX2_spreadWith 10 = .ok (.aload_n 0, 1) := by decide +kernel
theorem dX2_spreadWith_11 : decode cX2_spreadWith 11 = .ok (.iload_n 1, 1) := by decide +kernel
theorem dX2_spreadWith_12 : decode cX2_spreadWith 12 = .ok (.iload_n 2, 1) := by decide +kernel
theorem dX2_spreadWith_13 : decode cX2_spreadWith 13 = .ok (.invokevirtual 144, 3) := by decide +kernel
theorem dX2_spreadWith_16 : decode cX2_spreadWith 16 = .ok (.ireturn, 1) := by decide +kernel
set_option maxRecDepth 20000 in
theorem ggX2_bestPlace_X0_span : GoodIn wsX2_bestPlace wsX0_span := goodIn_r _ [10, 11, 12, 3, 4, 5, 13, 14, 15, 9, 16, 17, 18, 19, 20, 21, 58, 59] (by decide +kernel) (by decide +kernel)
set_option maxRecDepth 20000 in
theorem gX2_bestPlace_X0_span : GoodIn wsX2_bestPlace (wsV RX2 111 RX0 yX0_span wsX0_span) := goodIn_app (goodIn_of _ (by decide +kernel)) ggX2_bestPlace_X0_span
set_option maxRecDepth 20000 in
theorem ggX2_bestPlace_X0_size : GoodIn wsX2_bestPlace wsX0_size := goodIn_r _ [25, 11, 58, 59] (by decide +kernel) (by decide +kernel)
set_option maxRecDepth 20000 in
theorem gX2_bestPlace_X0_size : GoodIn wsX2_bestPlace (wsV RX2 44 RX0 yX0_size wsX0_size) := goodIn_app (goodIn_of _ (by decide +kernel)) ggX2_bestPlace_X0_size
set_option maxRecDepth 20000 in
theorem ggX2_bestPlace_X2_spanAfter : GoodIn wsX2_bestPlace wsX2_spanAfter := goodIn_r _ [30, 31, 1, 32, 33, 34, 9, 35, 11, 17, 13, 14, 15, 16, 36, 37, 38, 39, 40, 41, 42, 43, 44, 45, 46, 47, 48, 49, 50, 51, 6, 7, 8, 10, 12, 3, 4, 5, 18, 19, 20, 21, 52, 53, 54, 55, 56, 57, 58, 59] (by decide +kernel) (by decide +kernel)
set_option maxRecDepth 20000 in
theorem gX2_bestPlace_X2_spanAfter : GoodIn wsX2_bestPlace (wsV RX2 144 RX2 yX2_spanAfter wsX2_spanAfter) := goodIn_app (goodIn_of _ (by decide +kernel)) ggX2_bestPlace_X2_spanAfter
theorem dX2_bestPlace_0 : decode cX2_bestPlace 0 = .ok (.iconst (-1), 1) := by decide +kernel
theorem dX2_bestPlace_1 : decode cX2_bestPlace 1 = .ok (.istore_n 1, 1) := by decide +kernel
theorem dX2_bestPlace_2 : decode cX2_bestPlace 2 = .ok (.aload_n 0, 1) := by decide +kernel
theorem dX2_bestPlace_3 : decode cX2_bestPlace 3 = .ok (.getfield 10, 3) := by decide +kernel
theorem dX2_bestPlace_6 : decode cX2_bestPlace 6 = .ok (.invokevirtual 111, 3) := by decide +kernel
theorem dX2_bestPlace_9 : decode cX2_bestPlace 9 = .ok (.istore_n 2, 1) := by decide +kernel
theorem dX2_bestPlace_10 : decode cX2_bestPlace 10 = .ok (.iconst 0, 1) := by decide +kernel
theorem dX2_bestPlace_11 : decode cX2_bestPlace 11 = .ok (.istore_n 3, 1) := by decide +kernel
theorem dX2_bestPlace_12 : decode cX2_bestPlace 12 = .ok (.iload_n 3, 1) := by decide +kernel
theorem dX2_bestPlace_13 : decode cX2_bestPlace 13 = .ok (.aload_n 0, 1) := by decide +kernel
theorem dX2_bestPlace_14 : decode cX2_bestPlace 14 = .ok (.getfield 10, 3) := by decide +kernel
theorem dX2_bestPlace_17 : decode cX2_bestPlace 17 = .ok (.invokevirtual 44, 3) := by decide +kernel
theorem dX2_bestPlace_20 : decode cX2_bestPlace 20 = .ok (.if_icmp .ge 37, 3) := by decide +kernel
theorem dX2_bestPlace_23 : decode cX2_bestPlace 23 = .ok (.aload_n 0, 1) := by decide +kernel
theorem dX2_bestPlace_24 : decode cX2_bestPlace 24 = .ok (.iload_n 3, 1) := by decide +kernel
theorem dX2_bestPlace_25 : decode cX2_bestPlace 25 = .ok (.iconst 1, 1) := by decide +kernel
theorem dX2_bestPlace_26 : decode cX2_bestPlace 26 = .ok (.invokevirtual 144, 3) := by decide +kernel
theorem dX2_bestPlace_29 : decode cX2_bestPlace 29 = .ok (.aload_n 0, 1) := by decide +kernel
theorem dX2_bestPlace_30 : decode cX2_bestPlace 30 = .ok (.iload_n 3, 1) := by decide +kernel
theorem dX2_bestPlace_31 : decode cX2_bestPlace 31 = .ok (.iconst (-1), 1) := by decide +kernel
theorem dX2_bestPlace_32 : decode cX2_bestPlace 32 = .ok (.invokevirtual 144, 3) := by decide +kernel
theorem dX2_bestPlace_35 : decode cX2_bestPlace 35 = .ok (.invokestatic 148, 3) := by decide +kernel
theorem dX2_bestPlace_38 : decode cX2_bestPlace 38 = .ok (.istore 4, 2) := by decide +kernel
theorem dX2_bestPlace_40 : decode cX2_bestPlace 40 = .ok (.iload 4, 2) := by decide +kernel
theorem dX2_bestPlace_42 : decode cX2_bestPlace 42 = .ok (.iload_n 2, 1) := by decide +kernel
theorem dX2_bestPlace_43 : decode cX2_bestPlace 43 = .ok (.if_icmp .ge 8, 3) := by decide +kernel
theorem dX2_bestPlace_46 : decode cX2_bestPlace 46 = .ok (.iload_n 3, 1) := by decide +kernel
theorem dX2_bestPlace_47 : decode cX2_bestPlace 47 = .ok (.istore_n 1, 1) := by decide +kernel
theorem dX2_bestPlace_48 : decode cX2_bestPlace 48 = .ok (.iload 4, 2) := by decide +kernel
theorem dX2_bestPlace_50 : decode cX2_bestPlace 50 = .ok (.istore_n 2, 1) := by decide +kernel
theorem dX2_bestPlace_51 : decode cX2_bestPlace 51 = .ok (.iinc 3 1, 3) := by decide +kernel
theorem dX2_bestPlace_54 : decode cX2_bestPlace 54 = .ok (.goto (-42), 3) := by decide +kernel
theorem dX2_bestPlace_57 : decode cX2_bestPlace 57 = .ok (.iload_n 1, 1) := by decide +kernel
theorem dX2_bestPlace_58 : decode cX2_bestPlace 58 = .ok (.ireturn, 1) := by decide +kernel
set_option maxRecDepth 20000 in
theorem ggX2_placeFor_X2_requireNumber : GoodIn wsX2_placeFor wsX2_requireNumber := goodIn_ca (goodIn_r _ [6, 7, 8] (by decide +kernel) (by decide +kernel)) (goodIn_sub (fun _ h => List.mem_cons_of_mem _ (List.mem_append_left _ (List.mem_append_right _ h))) (by decide +kernel))
set_option maxRecDepth 20000 in
theorem gX2_placeFor_X2_requireNumber : GoodIn wsX2_placeFor (wsV RX2 55 RX2 yX2_requireNumber wsX2_requireNumber) := goodIn_app (goodIn_of _ (by decide +kernel)) ggX2_placeFor_X2_requireNumber
set_option maxRecDepth 20000 in
theorem ggX2_placeFor_X2_keptRing : GoodIn wsX2_placeFor wsX2_keptRing := goodIn_ca (goodIn_r _ [12, 13, 14, 1, 15, 58, 59, 60, 61, 62, 63] (by decide +kernel) (by decide +kernel)) (goodIn_sub (fun _ h => List.mem_cons_of_mem _ (List.mem_append_right _ h)) (by decide +kernel))
set_option maxRecDepth 20000 in
theorem gX2_placeFor_X2_keptRing : GoodIn wsX2_placeFor (wsV RX2 85 RX2 yX2_keptRing wsX2_keptRing) := goodIn_app (goodIn_of _ (by decide +kernel)) ggX2_placeFor_X2_keptRing
set_option maxRecDepth 20000 in
theorem ggX2_placeFor_X2_firstPlaceFor : GoodIn wsX2_placeFor wsX2_firstPlaceFor := goodIn_r _ [19, 20, 21, 22, 23, 24, 25, 26, 27, 28, 29, 30, 31, 32, 33, 34, 35, 36, 37, 38, 39, 40, 41, 42, 43, 44, 45, 46, 47, 48, 49, 50, 51, 52, 53, 54, 55, 56, 57, 58, 59, 60, 61, 62, 63, 64, 65] (by decide +kernel) (by decide +kernel)
set_option maxRecDepth 20000 in
theorem gX2_placeFor_X2_firstPlaceFor : GoodIn wsX2_placeFor (wsV RX2 151 RX2 yX2_firstPlaceFor wsX2_firstPlaceFor) := goodIn_app (goodIn_of _ (by decide +kernel)) ggX2_placeFor_X2_firstPlaceFor
theorem dX2_placeFor_0 : decode cX2_placeFor 0 = .ok (.aload_n 0, 1) := by decide +kernel
theorem dX2_placeFor_1 : decode cX2_placeFor 1 = .ok (.iload_n 1, 1) := by decide +kernel
theorem dX2_placeFor_2 : decode cX2_placeFor 2 = .ok (.invokevirtual 55, 3) := by decide +kernel
theorem dX2_placeFor_5 : decode cX2_placeFor 5 = .ok (.aload_n 0, 1) := by decide +kernel
theorem dX2_placeFor_6 : decode cX2_placeFor 6 = .ok (.getfield 20, 3) := by decide +kernel
theorem dX2_placeFor_9 : decode cX2_placeFor 9 = .ok (.ifCond .ne 7, 3) := by decide +kernel
theorem dX2_placeFor_12 : decode cX2_placeFor 12 = .ok (.iconst (-1), 1) := by decide +kernel
theorem dX2_placeFor_13 : decode cX2_placeFor 13 = .ok (.goto 13, 3) := by decide +kernel
theorem dX2_placeFor_16 : decode cX2_placeFor 16 = .ok (.aload_n 0, 1) := by decide +kernel
theorem dX2_placeFor_17 : decode cX2_placeFor 17 = .ok (.iload_n 1, 1) := by decide +kernel
theorem dX2_placeFor_18 : decode cX2_placeFor 18 = .ok (.aload_n 0, 1) := by decide +kernel
theorem dX2_placeFor_19 : decode cX2_placeFor 19 = .ok (.iconst 0, 1) := by decide +kernel
theorem dX2_placeFor_20 : decode cX2_placeFor 20 = .ok (.invokevirtual 85, 3) := by decide +kernel
theorem dX2_placeFor_23 : decode cX2_placeFor 23 = .ok (.invokevirtual 151, 3) := by decide +kernel
theorem dX2_placeFor_26 : decode cX2_placeFor 26 = .ok (.ireturn, 1) := by decide +kernel
set_option maxRecDepth 20000 in
theorem ggX2_meanNumber_X0_size : GoodIn wsX2_meanNumber wsX0_size := goodIn_r _ [6, 7, 23, 24] (by decide +kernel) (by decide +kernel)
set_option maxRecDepth 20000 in
theorem gX2_meanNumber_X0_size : GoodIn wsX2_meanNumber (wsV RX2 44 RX0 yX0_size wsX0_size) := goodIn_app (goodIn_of _ (by decide +kernel)) ggX2_meanNumber_X0_size
set_option maxRecDepth 20000 in
theorem ggX2_meanNumber_X0_total : GoodIn wsX2_meanNumber wsX0_total := goodIn_r _ [11, 7, 12, 13, 14, 5, 15, 16, 23, 24] (by decide +kernel) (by decide +kernel)
set_option maxRecDepth 20000 in
theorem gX2_meanNumber_X0_total : GoodIn wsX2_meanNumber (wsV RX2 105 RX0 yX0_total wsX0_total) := goodIn_app (goodIn_of _ (by decide +kernel)) ggX2_meanNumber_X0_total
theorem dX2_meanNumber_0 : decode cX2_meanNumber 0 = .ok (.aload_n 0, 1) := by decide +kernel
theorem dX2_meanNumber_1 : decode cX2_meanNumber 1 = .ok (.getfield 10, 3) := by decide +kernel
theorem dX2_meanNumber_4 : decode cX2_meanNumber 4 = .ok (.invokevirtual 44, 3) := by decide +kernel
theorem dX2_meanNumber_7 : decode cX2_meanNumber 7 = .ok (.istore_n 1, 1) := by decide +kernel
theorem dX2_meanNumber_8 : decode cX2_meanNumber 8 = .ok (.iload_n 1, 1) := by decide +kernel
theorem dX2_meanNumber_9 : decode cX2_meanNumber 9 = .ok (.ifCond .le 17, 3) := by decide +kernel
theorem dX2_meanNumber_12 : decode cX2_meanNumber 12 = .ok (.aload_n 0, 1) := by decide +kernel
theorem dX2_meanNumber_13 : decode cX2_meanNumber 13 = .ok (.getfield 10, 3) := by decide +kernel
theorem dX2_meanNumber_16 : decode cX2_meanNumber 16 = .ok (.invokevirtual 105, 3) := by decide +kernel
theorem dX2_meanNumber_19 : decode cX2_meanNumber 19 = .ok (.i2d, 1) := by decide +kernel
theorem dX2_meanNumber_20 : decode cX2_meanNumber 20 = .ok (.iload_n 1, 1) := by decide +kernel
theorem dX2_meanNumber_21 : decode cX2_meanNumber 21 = .ok (.i2d, 1) := by decide +kernel
theorem dX2_meanNumber_22 : decode cX2_meanNumber 22 = .ok (.ddiv, 1) := by decide +kernel
theorem dX2_meanNumber_23 : decode cX2_meanNumber 23 = .ok (.goto 4, 3) := by decide +kernel
theorem dX2_meanNumber_26 : decode cX2_meanNumber 26 = .ok (.dconst 0, 1) := by decide +kernel
theorem dX2_meanNumber_27 : decode cX2_meanNumber 27 = .ok (.dreturn, 1) := by decide +kernel
set_option maxRecDepth 20000 in
theorem ggX2_digest_X2_places : GoodIn wsX2_digest wsX2_places := goodIn_r _ [6, 7, 8, 9, 10, 11, 12, 13, 235, 236, 237, 238, 239, 240, 241, 242] (by decide +kernel) (by decide +kernel)
set_option maxRecDepth 20000 in
theorem gX2_digest_X2_places : GoodIn wsX2_digest (wsV RX2 157 RX2 yX2_places wsX2_places) := goodIn_app (goodIn_of _ (by decide +kernel)) ggX2_digest_X2_places
set_option maxRecDepth 20000 in
theorem ggX2_digest_X2_mixed : GoodIn wsX2_digest wsX2_mixed := goodIn_r _ [16, 17] (by decide +kernel) (by decide +kernel)
set_option maxRecDepth 20000 in
theorem gX2_digest_X2_mixed : GoodIn wsX2_digest (va_wsS RX2 160 yX2_mixed wsX2_mixed) := goodIn_app (goodIn_of _ (by decide +kernel)) ggX2_digest_X2_mixed
set_option maxRecDepth 20000 in
theorem ggX2_digest_X2_targets : GoodIn wsX2_digest wsX2_targets := goodIn_r _ [21, 22, 235, 236, 237, 238, 239, 240] (by decide +kernel) (by decide +kernel)
set_option maxRecDepth 20000 in
theorem gX2_digest_X2_targets : GoodIn wsX2_digest (wsV RX2 164 RX2 yX2_targets wsX2_targets) := goodIn_app (goodIn_of _ (by decide +kernel)) ggX2_digest_X2_targets
set_option maxRecDepth 20000 in
theorem ggX2_digest_X2_tips : GoodIn wsX2_digest wsX2_tips := goodIn_r _ [26, 27, 235, 236, 237, 238, 239, 240] (by decide +kernel) (by decide +kernel)
set_option maxRecDepth 20000 in
theorem gX2_digest_X2_tips : GoodIn wsX2_digest (wsV RX2 167 RX2 yX2_tips wsX2_tips) := goodIn_app (goodIn_of _ (by decide +kernel)) ggX2_digest_X2_tips
set_option maxRecDepth 20000 in
theorem ggX2_digest_X2_sum : GoodIn wsX2_digest wsX2_sum := goodIn_r _ [31, 7, 32, 33, 34, 11, 35, 13, 36, 37, 38, 39, 40, 235, 236, 237, 238, 239, 240, 241, 242] (by decide +kernel) (by decide +kernel)
set_option maxRecDepth 20000 in
theorem gX2_digest_X2_sum : GoodIn wsX2_digest (wsV RX2 170 RX2 yX2_sum wsX2_sum) := goodIn_app (goodIn_of _ (by decide +kernel)) ggX2_digest_X2_sum
set_option maxRecDepth 20000 in
theorem ggX2_digest_X2_moment : GoodIn wsX2_digest wsX2_moment := goodIn_r _ [44, 7, 45, 46, 47, 11, 48, 13, 36, 37, 38, 39, 40, 49, 50, 51, 52, 235, 236, 237, 238, 239, 240, 241, 242] (by decide +kernel) (by decide +kernel)
set_option maxRecDepth 20000 in
theorem gX2_digest_X2_moment : GoodIn wsX2_digest (wsV RX2 173 RX2 yX2_moment wsX2_moment) := goodIn_app (goodIn_of _ (by decide +kernel)) ggX2_digest_X2_moment
set_option maxRecDepth 20000 in
theorem ggX2_digest_X2_spread : GoodIn wsX2_digest wsX2_spread := goodIn_r _ [56, 7, 57, 58, 59, 11, 60, 13, 61, 62, 63, 64, 36, 37, 38, 39, 40, 65, 66, 67, 68, 235, 236, 237, 238, 239, 240, 241, 242] (by decide +kernel) (by decide +kernel)
set_option maxRecDepth 20000 in
theorem gX2_digest_X2_spread : GoodIn wsX2_digest (wsV RX2 176 RX2 yX2_spread wsX2_spread) := goodIn_app (goodIn_of _ (by decide +kernel)) ggX2_digest_X2_spread
set_option maxRecDepth 20000 in
theorem ggX2_digest_X2_highest : GoodIn wsX2_digest wsX2_highest := goodIn_r _ [72, 7, 73, 66, 67, 11, 68, 13, 36, 37, 38, 39, 40, 235, 236, 237, 238, 239, 240, 241, 242] (by decide +kernel) (by decide +kernel)
set_option maxRecDepth 20000 in
theorem gX2_digest_X2_highest : GoodIn wsX2_digest (wsV RX2 179 RX2 yX2_highest wsX2_highest) := goodIn_app (goodIn_of _ (by decide +kernel)) ggX2_digest_X2_highest
set_option maxRecDepth 20000 in
theorem ggX2_digest_X2_steepPlaces : GoodIn wsX2_digest wsX2_steepPlaces := goodIn_r _ [77, 7, 8, 9, 10, 11, 12, 13, 78, 79, 80, 81, 36, 37, 38, 39, 40, 82, 83, 84, 85, 235, 236, 237, 238, 239, 240, 241, 242] (by decide +kernel) (by decide +kernel)
set_option maxRecDepth 20000 in
theorem gX2_digest_X2_steepPlaces : GoodIn wsX2_digest (wsV RX2 182 RX2 yX2_steepPlaces wsX2_steepPlaces) := goodIn_app (goodIn_of _ (by decide +kernel)) ggX2_digest_X2_steepPlaces
set_option maxRecDepth 20000 in
theorem ggX2_digest_X2_nextToTip : GoodIn wsX2_digest wsX2_nextToTip := goodIn_r _ [89, 7, 90, 91, 92, 11, 93, 13, 94, 79, 80, 81, 36, 37, 38, 39, 40, 82, 83, 84, 85, 235, 236, 237, 238, 239, 240, 241, 242] (by decide +kernel) (by decide +kernel)
set_option maxRecDepth 20000 in
theorem gX2_digest_X2_nextToTip : GoodIn wsX2_digest (wsV RX2 185 RX2 yX2_nextToTip wsX2_nextToTip) := goodIn_app (goodIn_of _ (by decide +kernel)) ggX2_digest_X2_nextToTip
set_option maxRecDepth 20000 in
theorem ggX2_digest_X2_levelAxes : GoodIn wsX2_digest wsX2_levelAxes := goodIn_r _ [98, 7, 8, 9, 10, 11, 12, 13, 99, 100, 101, 102, 82, 83, 84, 85, 36, 37, 38, 39, 40, 235, 236, 237, 238, 239, 240, 241, 242] (by decide +kernel) (by decide +kernel)
set_option maxRecDepth 20000 in
theorem gX2_digest_X2_levelAxes : GoodIn wsX2_digest (wsV RX2 188 RX2 yX2_levelAxes wsX2_levelAxes) := goodIn_app (goodIn_of _ (by decide +kernel)) ggX2_digest_X2_levelAxes
set_option maxRecDepth 20000 in
theorem ggX2_digest_X2_bestAxis : GoodIn wsX2_digest wsX2_bestAxis := goodIn_r _ [106, 7, 107, 108, 63, 109, 8, 9, 10, 11, 12, 13, 99, 100, 101, 102, 82, 83, 84, 85, 36, 37, 38, 39, 40, 235, 236, 237, 238, 239, 240, 241, 242] (by decide +kernel) (by decide +kernel)
set_option maxRecDepth 20000 in
theorem gX2_digest_X2_bestAxis : GoodIn wsX2_digest (wsV RX2 191 RX2 yX2_bestAxis wsX2_bestAxis) := goodIn_app (goodIn_of _ (by decide +kernel)) ggX2_digest_X2_bestAxis
set_option maxRecDepth 20000 in
theorem ggX2_digest_X2_reachable : GoodIn wsX2_digest wsX2_reachable := goodIn_ca (goodIn_r _ [113, 22, 7, 114, 115, 116, 5, 117, 118, 119, 120, 121, 122, 123, 11, 124, 125, 33, 34, 35, 13, 36, 37, 38, 39, 40, 126, 46, 47, 48, 49, 50, 51, 52, 235, 236, 237, 238, 239, 240, 241, 242] (by decide +kernel) (by decide +kernel)) (goodIn_sub (fun _ h => List.mem_cons_of_mem _ (List.mem_append_left _ (List.mem_append_right _ h))) (by decide +kernel))
set_option maxRecDepth 20000 in
theorem gX2_digest_X2_reachable : GoodIn wsX2_digest (wsV RX2 194 RX2 yX2_reachable wsX2_reachable) := goodIn_app (goodIn_of _ (by decide +kernel)) ggX2_digest_X2_reachable
set_option maxRecDepth 20000 in
theorem ggX2_digest_X2_nearestTarget : GoodIn wsX2_digest wsX2_nearestTarget := goodIn_ca (goodIn_r _ [130, 22, 114, 115, 116, 5, 117, 118, 119, 120, 131, 132, 133, 134, 7, 135, 121, 122, 123, 11, 124, 125, 33, 34, 35, 13, 36, 37, 38, 39, 40, 126, 46, 47, 48, 49, 50, 51, 52, 136, 137, 138, 139, 140, 141, 142, 143, 9, 10, 12, 144, 145, 146, 147, 148, 149, 150, 151, 152, 153, 62, 63, 64, 154, 155, 156, 157, 158, 159, 160, 161, 162, 108, 109, 235, 236, 237, 238, 239, 240, 241, 242, 243, 244] (by decide +kernel) (by decide +kernel)) (goodIn_sub (fun _ h => List.mem_cons_of_mem _ (List.mem_append_left _ (List.mem_append_right _ h))) (by decide +kernel))
set_option maxRecDepth 20000 in
theorem gX2_digest_X2_nearestTarget : GoodIn wsX2_digest (wsV RX2 197 RX2 yX2_nearestTarget wsX2_nearestTarget) := goodIn_app (goodIn_of _ (by decide +kernel)) ggX2_digest_X2_nearestTarget
set_option maxRecDepth 20000 in
theorem ggX2_digest_X2_stepsToRest : GoodIn wsX2_digest wsX2_stepsToRest := goodIn_r _ [166, 167, 168, 169, 5, 170, 171, 7, 172, 173, 174, 11, 175, 13, 40, 36, 37, 38, 39, 176, 177, 178, 179, 180, 181, 182, 183, 184, 91, 92, 93, 94, 79, 80, 81, 82, 83, 84, 85, 185, 186, 187, 188, 189, 190, 191, 192, 90, 235, 236, 237, 238, 239, 240, 241, 242] (by decide +kernel) (by decide +kernel)
set_option maxRecDepth 20000 in
theorem gX2_digest_X2_stepsToRest : GoodIn wsX2_digest (wsV RX2 200 RX2 yX2_stepsToRest wsX2_stepsToRest) := goodIn_app (goodIn_of _ (by decide +kernel)) ggX2_digest_X2_stepsToRest
set_option maxRecDepth 20000 in
theorem ggX2_digest_X2_spreadAtRest : GoodIn wsX2_digest wsX2_spreadAtRest := goodIn_r _ [196, 171, 167, 168, 169, 5, 170, 7, 172, 173, 174, 11, 175, 13, 40, 36, 37, 38, 39, 176, 177, 178, 179, 180, 181, 182, 183, 184, 91, 92, 93, 94, 79, 80, 81, 82, 83, 84, 85, 185, 186, 187, 188, 189, 190, 191, 192, 90, 57, 58, 59, 60, 61, 62, 63, 64, 65, 66, 67, 68, 235, 236, 237, 238, 239, 240, 241, 242] (by decide +kernel) (by decide +kernel)
set_option maxRecDepth 20000 in
theorem gX2_digest_X2_spreadAtRest : GoodIn wsX2_digest (wsV RX2 203 RX2 yX2_spreadAtRest wsX2_spreadAtRest) := goodIn_app (goodIn_of _ (by decide +kernel)) ggX2_digest_X2_spreadAtRest
set_option maxRecDepth 20000 in
theorem ggX2_digest_X2_bestPlace : GoodIn wsX2_digest wsX2_bestPlace := goodIn_r _ [200, 7, 201, 62, 63, 64, 57, 58, 59, 11, 60, 13, 61, 36, 37, 38, 39, 40, 65, 66, 67, 68, 8, 9, 10, 12, 202, 203, 204, 5, 205, 171, 172, 173, 174, 175, 176, 177, 178, 179, 206, 186, 187, 188, 189, 190, 191, 192, 82, 83, 84, 85, 235, 236, 237, 238, 239, 240, 241, 242] (by decide +kernel) (by decide +kernel)
set_option maxRecDepth 20000 in
theorem gX2_digest_X2_bestPlace : GoodIn wsX2_digest (wsV RX2 206 RX2 yX2_bestPlace wsX2_bestPlace) := goodIn_app (goodIn_of _ (by decide +kernel)) ggX2_digest_X2_bestPlace
set_option maxRecDepth 20000 in
theorem ggX2_digest_X2_placeFor : GoodIn wsX2_digest wsX2_placeFor := goodIn_ca (goodIn_ca (goodIn_r _ [210, 22, 211, 212, 213, 5, 214, 215, 216, 114, 115, 116, 117, 118, 119, 120, 217, 218, 219, 220, 7, 171, 8, 9, 10, 11, 12, 13, 172, 173, 174, 175, 40, 36, 37, 38, 39, 176, 177, 178, 179, 221, 121, 122, 123, 124, 125, 33, 34, 35, 126, 46, 47, 48, 49, 50, 51, 52, 235, 236, 237, 238, 239, 240, 241, 242] (by decide +kernel) (by decide +kernel)) (goodIn_sub (fun _ h => List.mem_cons_of_mem _ (List.mem_append_right _ h)) (by decide +kernel))) (goodIn_sub (fun _ h => List.mem_cons_of_mem _ (List.mem_append_left _ (List.mem_append_right _ h))) (by decide +kernel))
set_option maxRecDepth 20000 in
theorem gX2_digest_X2_placeFor : GoodIn wsX2_digest (wsV RX2 209 RX2 yX2_placeFor wsX2_placeFor) := goodIn_app (goodIn_of _ (by decide +kernel)) ggX2_digest_X2_placeFor
set_option maxRecDepth 20000 in
theorem ggX2_digest_X2_mixedWithPlaces : GoodIn wsX2_digest wsX2_mixedWithPlaces := goodIn_r _ [225, 7, 8, 9, 10, 11, 12, 13, 226, 37, 38, 39, 40, 14, 15, 5, 16, 17, 78, 79, 80, 81, 36, 82, 83, 84, 85, 99, 100, 101, 102, 235, 236, 237, 238, 239, 240, 241, 242] (by decide +kernel) (by decide +kernel)
set_option maxRecDepth 20000 in
theorem gX2_digest_X2_mixedWithPlaces : GoodIn wsX2_digest (wsV RX2 212 RX2 yX2_mixedWithPlaces wsX2_mixedWithPlaces) := goodIn_app (goodIn_of _ (by decide +kernel)) ggX2_digest_X2_mixedWithPlaces
set_option maxRecDepth 20000 in
theorem ggX2_digest_X2_mixedWithTargets : GoodIn wsX2_digest wsX2_mixedWithTargets := goodIn_ca (goodIn_r _ [230, 22, 7, 114, 115, 116, 5, 117, 118, 119, 120, 231, 232, 233, 11, 234, 13, 36, 37, 38, 39, 40, 14, 15, 16, 17, 121, 122, 123, 124, 125, 33, 34, 35, 126, 46, 47, 48, 49, 50, 51, 52, 131, 132, 133, 134, 135, 136, 137, 138, 139, 140, 141, 142, 143, 9, 10, 12, 144, 145, 146, 147, 148, 149, 150, 151, 152, 153, 62, 63, 64, 154, 155, 156, 157, 158, 159, 160, 161, 162, 108, 109, 235, 236, 237, 238, 239, 240, 241, 242, 243, 244] (by decide +kernel) (by decide +kernel)) (goodIn_sub (fun _ h => List.mem_cons_of_mem _ (List.mem_append_left _ (List.mem_append_right _ h))) (by decide +kernel))
set_option maxRecDepth 20000 in
theorem gX2_digest_X2_mixedWithTargets : GoodIn wsX2_digest (wsV RX2 216 RX2 yX2_mixedWithTargets wsX2_mixedWithTargets) := goodIn_app (goodIn_of _ (by decide +kernel)) ggX2_digest_X2_mixedWithTargets
theorem dX2_digest_0 : decode cX2_digest 0 = .ok (.ldc2_w 155, 3) := by decide +kernel
theorem dX2_digest_3 : decode cX2_digest 3 = .ok (.lstore_n 1, 1) := by decide +kernel
theorem dX2_digest_4 : decode cX2_digest 4 = .ok (.lload_n 1, 1) := by decide +kernel
theorem dX2_digest_5 : decode cX2_digest 5 = .ok (.aload_n 0, 1) := by decide +kernel
theorem dX2_digest_6 : decode cX2_digest 6 = .ok (.invokevirtual 157, 3) := by decide +kernel
theorem dX2_digest_9 : decode cX2_digest 9 = .ok (.i2l, 1) := by decide +kernel
theorem dX2_digest_10 : decode cX2_digest 10 = .ok (.invokestatic 160, 3) := by decide +kernel
theorem dX2_digest_13 : decode cX2_digest 13 = .ok (.lstore_n 1, 1) := by decide +kernel
theorem dX2_digest_14 : decode cX2_digest 14 = .ok (.lload_n 1, 1) := by decide +kernel
theorem dX2_digest_15 : decode cX2_digest 15 = .ok (.aload_n 0, 1) := by decide +kernel
theorem dX2_digest_16 : decode cX2_digest 16 = .ok (.invokevirtual 164, 3) := by decide +kernel
theorem dX2_digest_19 : decode cX2_digest 19 = .ok (.i2l, 1) := by decide +kernel
theorem dX2_digest_20 : decode cX2_digest 20 = .ok (.invokestatic 160, 3) := by decide +kernel
theorem dX2_digest_23 : decode cX2_digest 23 = .ok (.lstore_n 1, 1) := by decide +kernel
theorem dX2_digest_24 : decode cX2_digest 24 = .ok (.lload_n 1, 1) := by decide +kernel
theorem dX2_digest_25 : decode cX2_digest 25 = .ok (.aload_n 0, 1) := by decide +kernel
theorem dX2_digest_26 : decode cX2_digest 26 = .ok (.invokevirtual 167, 3) := by decide +kernel
theorem dX2_digest_29 : decode cX2_digest 29 = .ok (.i2l, 1) := by decide +kernel
theorem dX2_digest_30 : decode cX2_digest 30 = .ok (.invokestatic 160, 3) := by decide +kernel
theorem dX2_digest_33 : decode cX2_digest 33 = .ok (.lstore_n 1, 1) := by decide +kernel
theorem dX2_digest_34 : decode cX2_digest 34 = .ok (.lload_n 1, 1) := by decide +kernel
theorem dX2_digest_35 : decode cX2_digest 35 = .ok (.aload_n 0, 1) := by decide +kernel
theorem dX2_digest_36 : decode cX2_digest 36 = .ok (.invokevirtual 170, 3) := by decide +kernel
theorem dX2_digest_39 : decode cX2_digest 39 = .ok (.i2l, 1) := by decide +kernel
theorem dX2_digest_40 : decode cX2_digest 40 = .ok (.invokestatic 160, 3) := by decide +kernel
theorem dX2_digest_43 : decode cX2_digest 43 = .ok (.lstore_n 1, 1) := by decide +kernel
theorem dX2_digest_44 : decode cX2_digest 44 = .ok (.lload_n 1, 1) := by decide +kernel
theorem dX2_digest_45 : decode cX2_digest 45 = .ok (.aload_n 0, 1) := by decide +kernel
theorem dX2_digest_46 : decode cX2_digest 46 = .ok (.invokevirtual 173, 3) := by decide +kernel
theorem dX2_digest_49 : decode cX2_digest 49 = .ok (.i2l, 1) := by decide +kernel
theorem dX2_digest_50 : decode cX2_digest 50 = .ok (.invokestatic 160, 3) := by decide +kernel
theorem dX2_digest_53 : decode cX2_digest 53 = .ok (.lstore_n 1, 1) := by decide +kernel
theorem dX2_digest_54 : decode cX2_digest 54 = .ok (.lload_n 1, 1) := by decide +kernel
theorem dX2_digest_55 : decode cX2_digest 55 = .ok (.aload_n 0, 1) := by decide +kernel
theorem dX2_digest_56 : decode cX2_digest 56 = .ok (.invokevirtual 176, 3) := by decide +kernel
theorem dX2_digest_59 : decode cX2_digest 59 = .ok (.i2l, 1) := by decide +kernel
theorem dX2_digest_60 : decode cX2_digest 60 = .ok (.invokestatic 160, 3) := by decide +kernel
theorem dX2_digest_63 : decode cX2_digest 63 = .ok (.lstore_n 1, 1) := by decide +kernel
theorem dX2_digest_64 : decode cX2_digest 64 = .ok (.lload_n 1, 1) := by decide +kernel
theorem dX2_digest_65 : decode cX2_digest 65 = .ok (.aload_n 0, 1) := by decide +kernel
theorem dX2_digest_66 : decode cX2_digest 66 = .ok (.invokevirtual 179, 3) := by decide +kernel
theorem dX2_digest_69 : decode cX2_digest 69 = .ok (.i2l, 1) := by decide +kernel
theorem dX2_digest_70 : decode cX2_digest 70 = .ok (.invokestatic 160, 3) := by decide +kernel
theorem dX2_digest_73 : decode cX2_digest 73 = .ok (.lstore_n 1, 1) := by decide +kernel
theorem dX2_digest_74 : decode cX2_digest 74 = .ok (.lload_n 1, 1) := by decide +kernel
theorem dX2_digest_75 : decode cX2_digest 75 = .ok (.aload_n 0, 1) := by decide +kernel
theorem dX2_digest_76 : decode cX2_digest 76 = .ok (.invokevirtual 182, 3) := by decide +kernel
theorem dX2_digest_79 : decode cX2_digest 79 = .ok (.i2l, 1) := by decide +kernel
theorem dX2_digest_80 : decode cX2_digest 80 = .ok (.invokestatic 160, 3) := by decide +kernel
theorem dX2_digest_83 : decode cX2_digest 83 = .ok (.lstore_n 1, 1) := by decide +kernel
theorem dX2_digest_84 : decode cX2_digest 84 = .ok (.lload_n 1, 1) := by decide +kernel
theorem dX2_digest_85 : decode cX2_digest 85 = .ok (.aload_n 0, 1) := by decide +kernel
theorem dX2_digest_86 : decode cX2_digest 86 = .ok (.invokevirtual 185, 3) := by decide +kernel
theorem dX2_digest_89 : decode cX2_digest 89 = .ok (.i2l, 1) := by decide +kernel
theorem dX2_digest_90 : decode cX2_digest 90 = .ok (.invokestatic 160, 3) := by decide +kernel
theorem dX2_digest_93 : decode cX2_digest 93 = .ok (.lstore_n 1, 1) := by decide +kernel
theorem dX2_digest_94 : decode cX2_digest 94 = .ok (.lload_n 1, 1) := by decide +kernel
theorem dX2_digest_95 : decode cX2_digest 95 = .ok (.aload_n 0, 1) := by decide +kernel
theorem dX2_digest_96 : decode cX2_digest 96 = .ok (.invokevirtual 188, 3) := by decide +kernel
theorem dX2_digest_99 : decode cX2_digest 99 = .ok (.i2l, 1) := by decide +kernel
theorem dX2_digest_100 : decode cX2_digest 100 = .ok (.invokestatic 160, 3) := by decide +kernel
theorem dX2_digest_103 : decode cX2_digest 103 = .ok (.lstore_n 1, 1) := by decide +kernel
theorem dX2_digest_104 : decode cX2_digest 104 = .ok (.lload_n 1, 1) := by decide +kernel
theorem dX2_digest_105 : decode cX2_digest 105 = .ok (.aload_n 0, 1) := by decide +kernel
theorem dX2_digest_106 : decode cX2_digest 106 = .ok (.invokevirtual 191, 3) := by decide +kernel
theorem dX2_digest_109 : decode cX2_digest 109 = .ok (.i2l, 1) := by decide +kernel
theorem dX2_digest_110 : decode cX2_digest 110 = .ok (.invokestatic 160, 3) := by decide +kernel
theorem dX2_digest_113 : decode cX2_digest 113 = .ok (.lstore_n 1, 1) := by decide +kernel
theorem dX2_digest_114 : decode cX2_digest 114 = .ok (.lload_n 1, 1) := by decide +kernel
theorem dX2_digest_115 : decode cX2_digest 115 = .ok (.aload_n 0, 1) := by decide +kernel
theorem dX2_digest_116 : decode cX2_digest 116 = .ok (.invokevirtual 194, 3) := by decide +kernel
theorem dX2_digest_119 : decode cX2_digest 119 = .ok (.i2l, 1) := by decide +kernel
theorem dX2_digest_120 : decode cX2_digest 120 = .ok (.invokestatic 160, 3) := by decide +kernel
theorem dX2_digest_123 : decode cX2_digest 123 = .ok (.lstore_n 1, 1) := by decide +kernel
theorem dX2_digest_124 : decode cX2_digest 124 = .ok (.lload_n 1, 1) := by decide +kernel
theorem dX2_digest_125 : decode cX2_digest 125 = .ok (.aload_n 0, 1) := by decide +kernel
theorem dX2_digest_126 : decode cX2_digest 126 = .ok (.invokevirtual 197, 3) := by decide +kernel
theorem dX2_digest_129 : decode cX2_digest 129 = .ok (.i2l, 1) := by decide +kernel
theorem dX2_digest_130 : decode cX2_digest 130 = .ok (.invokestatic 160, 3) := by decide +kernel
theorem dX2_digest_133 : decode cX2_digest 133 = .ok (.lstore_n 1, 1) := by decide +kernel
theorem dX2_digest_134 : decode cX2_digest 134 = .ok (.lload_n 1, 1) := by decide +kernel
theorem dX2_digest_135 : decode cX2_digest 135 = .ok (.aload_n 0, 1) := by decide +kernel
theorem dX2_digest_136 : decode cX2_digest 136 = .ok (.invokevirtual 200, 3) := by decide +kernel
theorem dX2_digest_139 : decode cX2_digest 139 = .ok (.i2l, 1) := by decide +kernel
theorem dX2_digest_140 : decode cX2_digest 140 = .ok (.invokestatic 160, 3) := by decide +kernel
theorem dX2_digest_143 : decode cX2_digest 143 = .ok (.lstore_n 1, 1) := by decide +kernel
theorem dX2_digest_144 : decode cX2_digest 144 = .ok (.lload_n 1, 1) := by decide +kernel
theorem dX2_digest_145 : decode cX2_digest 145 = .ok (.aload_n 0, 1) := by decide +kernel
theorem dX2_digest_146 : decode cX2_digest 146 = .ok (.invokevirtual 203, 3) := by decide +kernel
theorem dX2_digest_149 : decode cX2_digest 149 = .ok (.i2l, 1) := by decide +kernel
theorem dX2_digest_150 : decode cX2_digest 150 = .ok (.invokestatic 160, 3) := by decide +kernel
theorem dX2_digest_153 : decode cX2_digest 153 = .ok (.lstore_n 1, 1) := by decide +kernel
theorem dX2_digest_154 : decode cX2_digest 154 = .ok (.lload_n 1, 1) := by decide +kernel
theorem dX2_digest_155 : decode cX2_digest 155 = .ok (.aload_n 0, 1) := by decide +kernel
theorem dX2_digest_156 : decode cX2_digest 156 = .ok (.invokevirtual 206, 3) := by decide +kernel
theorem dX2_digest_159 : decode cX2_digest 159 = .ok (.i2l, 1) := by decide +kernel
theorem dX2_digest_160 : decode cX2_digest 160 = .ok (.invokestatic 160, 3) := by decide +kernel
theorem dX2_digest_163 : decode cX2_digest 163 = .ok (.lstore_n 1, 1) := by decide +kernel
theorem dX2_digest_164 : decode cX2_digest 164 = .ok (.lload_n 1, 1) := by decide +kernel
theorem dX2_digest_165 : decode cX2_digest 165 = .ok (.aload_n 0, 1) := by decide +kernel
theorem dX2_digest_166 : decode cX2_digest 166 = .ok (.iconst 0, 1) := by decide +kernel
theorem dX2_digest_167 : decode cX2_digest 167 = .ok (.invokevirtual 209, 3) := by decide +kernel
theorem dX2_digest_170 : decode cX2_digest 170 = .ok (.i2l, 1) := by decide +kernel
theorem dX2_digest_171 : decode cX2_digest 171 = .ok (.invokestatic 160, 3) := by decide +kernel
theorem dX2_digest_174 : decode cX2_digest 174 = .ok (.lstore_n 1, 1) := by decide +kernel
theorem dX2_digest_175 : decode cX2_digest 175 = .ok (.aload_n 0, 1) := by decide +kernel
theorem dX2_digest_176 : decode cX2_digest 176 = .ok (.aload_n 0, 1) := by decide +kernel
theorem dX2_digest_177 : decode cX2_digest 177 = .ok (.lload_n 1, 1) := by decide +kernel
theorem dX2_digest_178 : decode cX2_digest 178 = .ok (.invokevirtual 212, 3) := by decide +kernel
theorem dX2_digest_181 : decode cX2_digest 181 = .ok (.invokevirtual 216, 3) := by decide +kernel
theorem dX2_digest_184 : decode cX2_digest 184 = .ok (.lreturn, 1) := by decide +kernel
set_option maxRecDepth 20000 in
theorem ggX2_mixedWithPlaces_X0_size : GoodIn wsX2_mixedWithPlaces wsX0_size := goodIn_r _ [6, 7, 37, 38] (by decide +kernel) (by decide +kernel)
set_option maxRecDepth 20000 in
theorem gX2_mixedWithPlaces_X0_size : GoodIn wsX2_mixedWithPlaces (wsV RX2 44 RX0 yX0_size wsX0_size) := goodIn_app (goodIn_of _ (by decide +kernel)) ggX2_mixedWithPlaces_X0_size
set_option maxRecDepth 20000 in
theorem ggX2_mixedWithPlaces_X0_at : GoodIn wsX2_mixedWithPlaces wsX0_at := goodIn_r _ [11, 12, 37, 38] (by decide +kernel) (by decide +kernel)
set_option maxRecDepth 20000 in
theorem gX2_mixedWithPlaces_X0_at : GoodIn wsX2_mixedWithPlaces (wsV RX2 58 RX0 yX0_at wsX0_at) := goodIn_app (goodIn_of _ (by decide +kernel)) ggX2_mixedWithPlaces_X0_at
set_option maxRecDepth 20000 in
theorem ggX2_mixedWithPlaces_X2_mixed : GoodIn wsX2_mixedWithPlaces wsX2_mixed := goodIn_r _ [16, 17] (by decide +kernel) (by decide +kernel)
set_option maxRecDepth 20000 in
theorem gX2_mixedWithPlaces_X2_mixed : GoodIn wsX2_mixedWithPlaces (va_wsS RX2 160 yX2_mixed wsX2_mixed) := goodIn_app (goodIn_of _ (by decide +kernel)) ggX2_mixedWithPlaces_X2_mixed
set_option maxRecDepth 20000 in
theorem ggX2_mixedWithPlaces_X0_steepAt : GoodIn wsX2_mixedWithPlaces wsX0_steepAt := goodIn_r _ [21, 22, 9, 10, 5, 11, 12, 23, 24, 25, 26, 7, 37, 38] (by decide +kernel) (by decide +kernel)
set_option maxRecDepth 20000 in
theorem gX2_mixedWithPlaces_X0_steepAt : GoodIn wsX2_mixedWithPlaces (wsV RX2 117 RX0 yX0_steepAt wsX0_steepAt) := goodIn_app (goodIn_of _ (by decide +kernel)) ggX2_mixedWithPlaces_X0_steepAt
set_option maxRecDepth 20000 in
theorem ggX2_mixedWithPlaces_X0_tiltOn : GoodIn wsX2_mixedWithPlaces wsX0_tiltOn := goodIn_r _ [30, 7, 23, 24, 25, 5, 26, 22, 9, 10, 11, 12, 37, 38] (by decide +kernel) (by decide +kernel)
set_option maxRecDepth 20000 in
theorem gX2_mixedWithPlaces_X0_tiltOn : GoodIn wsX2_mixedWithPlaces (wsV RX2 124 RX0 yX0_tiltOn wsX0_tiltOn) := goodIn_app (goodIn_of _ (by decide +kernel)) ggX2_mixedWithPlaces_X0_tiltOn
theorem dX2_mixedWithPlaces_0 : decode cX2_mixedWithPlaces 0 = .ok (.lload_n 1, 1) := by decide +kernel
theorem dX2_mixedWithPlaces_1 : decode cX2_mixedWithPlaces 1 = .ok (.lstore_n 3, 1) := by decide +kernel
theorem dX2_mixedWithPlaces_2 : decode cX2_mixedWithPlaces 2 = .ok (.iconst 0, 1) := by decide +kernel
theorem dX2_mixedWithPlaces_3 : decode cX2_mixedWithPlaces 3 = .ok (.istore 5, 2) := by decide +kernel
theorem dX2_mixedWithPlaces_5 : decode cX2_mixedWithPlaces 5 = .ok (.iload 5, 2) := by decide +kernel
theorem dX2_mixedWithPlaces_7 : decode cX2_mixedWithPlaces 7 = .ok (.aload_n 0, 1) := by decide +kernel
theorem dX2_mixedWithPlaces_8 : decode cX2_mixedWithPlaces 8 = .ok (.getfield 10, 3) := by decide +kernel
theorem dX2_mixedWithPlaces_11 : decode cX2_mixedWithPlaces 11 = .ok (.invokevirtual 44, 3) := by decide +kernel
theorem dX2_mixedWithPlaces_14 : decode cX2_mixedWithPlaces 14 = .ok (.if_icmp .ge 61, 3) := by decide +kernel
theorem dX2_mixedWithPlaces_17 : decode cX2_mixedWithPlaces 17 = .ok (.lload_n 3, 1) := by decide +kernel
theorem dX2_mixedWithPlaces_18 : decode cX2_mixedWithPlaces 18 = .ok (.aload_n 0, 1) := by decide +kernel
theorem dX2_mixedWithPlaces_19 : decode cX2_mixedWithPlaces 19 = .ok (.getfield 10, 3) := by decide +kernel
theorem dX2_mixedWithPlaces_22 : decode cX2_mixedWithPlaces 22 = .ok (.iload 5, 2) := by decide +kernel
theorem dX2_mixedWithPlaces_24 : decode cX2_mixedWithPlaces 24 = .ok (.invokevirtual 58, 3) := by decide +kernel
theorem dX2_mixedWithPlaces_27 : decode cX2_mixedWithPlaces 27 = .ok (.i2l, 1) := by decide +kernel
theorem dX2_mixedWithPlaces_28 : decode cX2_mixedWithPlaces 28 = .ok (.invokestatic 160, 3) := by decide +kernel
theorem dX2_mixedWithPlaces_31 : decode cX2_mixedWithPlaces 31 = .ok (.lstore_n 3, 1) := by decide +kernel
theorem dX2_mixedWithPlaces_32 : decode cX2_mixedWithPlaces 32 = .ok (.lload_n 3, 1) := by decide +kernel
theorem dX2_mixedWithPlaces_33 : decode cX2_mixedWithPlaces 33 = .ok (.aload_n 0, 1) := by decide +kernel
theorem dX2_mixedWithPlaces_34 : decode cX2_mixedWithPlaces 34 = .ok (.getfield 10, 3) := by decide +kernel
theorem dX2_mixedWithPlaces_37 : decode cX2_mixedWithPlaces 37 = .ok (.iload 5, 2) := by decide +kernel
theorem dX2_mixedWithPlaces_39 : decode cX2_mixedWithPlaces 39 = .ok (.invokevirtual 117, 3) := by decide +kernel
theorem dX2_mixedWithPlaces_42 : decode cX2_mixedWithPlaces 42 = .ok (.ifCond .eq 7, 3) := by decide +kernel
theorem dX2_mixedWithPlaces_45 : decode cX2_mixedWithPlaces 45 = .ok (.lconst 1, 1) := by decide +kernel
theorem dX2_mixedWithPlaces_46 : decode cX2_mixedWithPlaces 46 = .ok (.goto 4, 3) := by decide +kernel
theorem dX2_mixedWithPlaces_49 : decode cX2_mixedWithPlaces 49 = .ok (.lconst 0, 1) := by decide +kernel
theorem dX2_mixedWithPlaces_50 : decode cX2_mixedWithPlaces 50 = .ok (.invokestatic 160, 3) := by decide +kernel
theorem dX2_mixedWithPlaces_53 : decode cX2_mixedWithPlaces 53 = .ok (.lstore_n 3, 1) := by decide +kernel
theorem dX2_mixedWithPlaces_54 : decode cX2_mixedWithPlaces 54 = .ok (.lload_n 3, 1) := by decide +kernel
theorem dX2_mixedWithPlaces_55 : decode cX2_mixedWithPlaces 55 = .ok (.aload_n 0, 1) := by decide +kernel
theorem dX2_mixedWithPlaces_56 : decode cX2_mixedWithPlaces 56 = .ok (.getfield 10, 3) := by decide +kernel
theorem dX2_mixedWithPlaces_59 : decode cX2_mixedWithPlaces 59 = .ok (.iload 5, 2) := by decide +kernel
theorem dX2_mixedWithPlaces_61 : decode cX2_mixedWithPlaces 61 = .ok (.invokevirtual 124, 3) := by decide +kernel
theorem dX2_mixedWithPlaces_64 : decode cX2_mixedWithPlaces 64 = .ok (.i2l, 1) := by decide +kernel
theorem dX2_mixedWithPlaces_65 : decode cX2_mixedWithPlaces 65 = .ok (.invokestatic 160, 3) := by decide +kernel
theorem dX2_mixedWithPlaces_68 : decode cX2_mixedWithPlaces 68 = .ok (.lstore_n 3, 1) := by decide +kernel
theorem dX2_mixedWithPlaces_69 : decode cX2_mixedWithPlaces 69 = .ok (.iinc 5 1, 3) := by decide +kernel
theorem dX2_mixedWithPlaces_72 : decode cX2_mixedWithPlaces 72 = .ok (.goto (-67), 3) := by decide +kernel
theorem dX2_mixedWithPlaces_75 : decode cX2_mixedWithPlaces 75 = .ok (.lload_n 3, 1) := by decide +kernel
theorem dX2_mixedWithPlaces_76 : decode cX2_mixedWithPlaces 76 = .ok (.lreturn, 1) := by decide +kernel
set_option maxRecDepth 20000 in
theorem ggX2_mixedWithTargets_X2_keptRing : GoodIn wsX2_mixedWithTargets wsX2_keptRing := goodIn_ca (goodIn_r _ [7, 8, 9, 1, 10, 82, 83, 84, 85, 86, 87] (by decide +kernel) (by decide +kernel)) (goodIn_sub (fun _ h => List.mem_cons_of_mem _ (List.mem_append_right _ h)) (by decide +kernel))
set_option maxRecDepth 20000 in
theorem gX2_mixedWithTargets_X2_keptRing : GoodIn wsX2_mixedWithTargets (wsV RX2 85 RX2 yX2_keptRing wsX2_keptRing) := goodIn_app (goodIn_of _ (by decide +kernel)) ggX2_mixedWithTargets_X2_keptRing
set_option maxRecDepth 20000 in
theorem ggX2_mixedWithTargets_X0_differencesFrom : GoodIn wsX2_mixedWithTargets wsX0_differencesFrom := goodIn_r _ [15, 16, 17, 18, 19, 14, 20, 21, 88, 89] (by decide +kernel) (by decide +kernel)
set_option maxRecDepth 20000 in
theorem gX2_mixedWithTargets_X0_differencesFrom : GoodIn wsX2_mixedWithTargets (wsV RX2 127 RX0 yX0_differencesFrom wsX0_differencesFrom) := goodIn_app (goodIn_of _ (by decide +kernel)) ggX2_mixedWithTargets_X0_differencesFrom
set_option maxRecDepth 20000 in
theorem ggX2_mixedWithTargets_X2_mixed : GoodIn wsX2_mixedWithTargets wsX2_mixed := goodIn_r _ [24, 25] (by decide +kernel) (by decide +kernel)
set_option maxRecDepth 20000 in
theorem gX2_mixedWithTargets_X2_mixed : GoodIn wsX2_mixedWithTargets (va_wsS RX2 160 yX2_mixed wsX2_mixed) := goodIn_app (goodIn_of _ (by decide +kernel)) ggX2_mixedWithTargets_X2_mixed
set_option maxRecDepth 20000 in
theorem ggX2_mixedWithTargets_X0_canBecome : GoodIn wsX2_mixedWithTargets wsX0_canBecome := goodIn_r _ [29, 30, 31, 32, 14, 33, 16, 17, 18, 19, 20, 21, 34, 35, 36, 37, 38, 39, 40, 41, 88, 89] (by decide +kernel) (by decide +kernel)
set_option maxRecDepth 20000 in
theorem gX2_mixedWithTargets_X0_canBecome : GoodIn wsX2_mixedWithTargets (wsV RX2 130 RX0 yX0_canBecome wsX0_canBecome) := goodIn_app (goodIn_of _ (by decide +kernel)) ggX2_mixedWithTargets_X0_canBecome
set_option maxRecDepth 20000 in
theorem ggX2_mixedWithTargets_X2_fewestTo : GoodIn wsX2_mixedWithTargets wsX2_fewestTo := goodIn_r _ [45, 2, 46, 26, 27, 28, 14, 29, 30, 31, 32, 33, 16, 17, 18, 19, 20, 21, 34, 35, 36, 37, 38, 39, 40, 41, 47, 48, 49, 50, 51, 52, 53, 54, 55, 56, 57, 58, 59, 60, 61, 62, 63, 64, 65, 66, 67, 68, 69, 70, 71, 72, 73, 74, 75, 76, 77, 78, 79, 80, 81, 82, 83, 84, 85, 86, 87, 88, 89, 90, 91] (by decide +kernel) (by decide +kernel)
set_option maxRecDepth 20000 in
theorem gX2_mixedWithTargets_X2_fewestTo : GoodIn wsX2_mixedWithTargets (wsV RX2 101 RX2 yX2_fewestTo wsX2_fewestTo) := goodIn_app (goodIn_of _ (by decide +kernel)) ggX2_mixedWithTargets_X2_fewestTo
theorem dX2_mixedWithTargets_0 : decode cX2_mixedWithTargets 0 = .ok (.lload_n 1, 1) := by decide +kernel
theorem dX2_mixedWithTargets_1 : decode cX2_mixedWithTargets 1 = .ok (.lstore_n 3, 1) := by decide +kernel
theorem dX2_mixedWithTargets_2 : decode cX2_mixedWithTargets 2 = .ok (.iconst 0, 1) := by decide +kernel
theorem dX2_mixedWithTargets_3 : decode cX2_mixedWithTargets 3 = .ok (.istore 5, 2) := by decide +kernel
theorem dX2_mixedWithTargets_5 : decode cX2_mixedWithTargets 5 = .ok (.iload 5, 2) := by decide +kernel
theorem dX2_mixedWithTargets_7 : decode cX2_mixedWithTargets 7 = .ok (.aload_n 0, 1) := by decide +kernel
theorem dX2_mixedWithTargets_8 : decode cX2_mixedWithTargets 8 = .ok (.getfield 20, 3) := by decide +kernel
theorem dX2_mixedWithTargets_11 : decode cX2_mixedWithTargets 11 = .ok (.if_icmp .ge 66, 3) := by decide +kernel
theorem dX2_mixedWithTargets_14 : decode cX2_mixedWithTargets 14 = .ok (.aload_n 0, 1) := by decide +kernel
theorem dX2_mixedWithTargets_15 : decode cX2_mixedWithTargets 15 = .ok (.iload 5, 2) := by decide +kernel
theorem dX2_mixedWithTargets_17 : decode cX2_mixedWithTargets 17 = .ok (.invokevirtual 85, 3) := by decide +kernel
theorem dX2_mixedWithTargets_20 : decode cX2_mixedWithTargets 20 = .ok (.astore 6, 2) := by decide +kernel
theorem dX2_mixedWithTargets_22 : decode cX2_mixedWithTargets 22 = .ok (.lload_n 3, 1) := by decide +kernel
theorem dX2_mixedWithTargets_23 : decode cX2_mixedWithTargets 23 = .ok (.aload_n 0, 1) := by decide +kernel
theorem dX2_mixedWithTargets_24 : decode cX2_mixedWithTargets 24 = .ok (.getfield 10, 3) := by decide +kernel
theorem dX2_mixedWithTargets_27 : decode cX2_mixedWithTargets 27 = .ok (.aload 6, 2) := by decide +kernel
theorem dX2_mixedWithTargets_29 : decode cX2_mixedWithTargets 29 = .ok (.invokevirtual 127, 3) := by decide +kernel
theorem dX2_mixedWithTargets_32 : decode cX2_mixedWithTargets 32 = .ok (.i2l, 1) := by decide +kernel
theorem dX2_mixedWithTargets_33 : decode cX2_mixedWithTargets 33 = .ok (.invokestatic 160, 3) := by decide +kernel
theorem dX2_mixedWithTargets_36 : decode cX2_mixedWithTargets 36 = .ok (.lstore_n 3, 1) := by decide +kernel
theorem dX2_mixedWithTargets_37 : decode cX2_mixedWithTargets 37 = .ok (.lload_n 3, 1) := by decide +kernel
theorem dX2_mixedWithTargets_38 : decode cX2_mixedWithTargets 38 = .ok (.aload_n 0, 1) := by decide +kernel
theorem dX2_mixedWithTargets_39 : decode cX2_mixedWithTargets 39 = .ok (.getfield 10, 3) := by decide +kernel
theorem dX2_mixedWithTargets_42 : decode cX2_mixedWithTargets 42 = .ok (.aload 6, 2) := by decide +kernel
theorem dX2_mixedWithTargets_44 : decode cX2_mixedWithTargets 44 = .ok (.invokevirtual 130, 3) := by decide +kernel
theorem dX2_mixedWithTargets_47 : decode cX2_mixedWithTargets 47 = .ok (.ifCond .eq 7, 3) := by decide +kernel
theorem dX2_mixedWithTargets_50 : decode cX2_mixedWithTargets 50 = .ok (.lconst 1, 1) := by decide +kernel
theorem dX2_mixedWithTargets_51 : decode cX2_mixedWithTargets 51 = .ok (.goto 4, 3) := by decide +kernel
theorem dX2_mixedWithTargets_54 : decode cX2_mixedWithTargets 54 = .ok (.lconst 0, 1) := by decide +kernel
theorem dX2_mixedWithTargets_55 : decode cX2_mixedWithTargets 55 = .ok (.invokestatic 160, 3) := by decide +kernel
theorem dX2_mixedWithTargets_58 : decode cX2_mixedWithTargets 58 = .ok (.lstore_n 3, 1) := by decide +kernel
theorem dX2_mixedWithTargets_59 : decode cX2_mixedWithTargets 59 = .ok (.lload_n 3, 1) := by decide +kernel
theorem dX2_mixedWithTargets_60 : decode cX2_mixedWithTargets 60 = .ok (.aload_n 0, 1) := by decide +kernel
theorem dX2_mixedWithTargets_61 : decode cX2_mixedWithTargets 61 = .ok (.aload 6, 2) := by decide +kernel
theorem dX2_mixedWithTargets_63 : decode cX2_mixedWithTargets 63 = .ok (.invokevirtual 101, 3) := by decide +kernel
theorem dX2_mixedWithTargets_66 : decode cX2_mixedWithTargets 66 = .ok (.i2l, 1) := by decide +kernel
theorem dX2_mixedWithTargets_67 : decode cX2_mixedWithTargets 67 = .ok (.invokestatic 160, 3) := by decide +kernel
theorem dX2_mixedWithTargets_70 : decode cX2_mixedWithTargets 70 = .ok (.lstore_n 3, 1) := by decide +kernel
theorem dX2_mixedWithTargets_71 : decode cX2_mixedWithTargets 71 = .ok (.iinc 5 1, 3) := by decide +kernel
theorem dX2_mixedWithTargets_74 : decode cX2_mixedWithTargets 74 = .ok (.goto (-69), 3) := by decide +kernel
theorem dX2_mixedWithTargets_77 : decode cX2_mixedWithTargets 77 = .ok (.lload_n 3, 1) := by decide +kernel
theorem dX2_mixedWithTargets_78 : decode cX2_mixedWithTargets 78 = .ok (.lreturn, 1) := by decide +kernel
theorem dX2_mixed_0 : decode cX2_mixed 0 = .ok (.lload_n 0, 1) := by decide +kernel
theorem dX2_mixed_1 : decode cX2_mixed 1 = .ok (.ldc2_w 219, 3) := by decide +kernel
theorem dX2_mixed_4 : decode cX2_mixed 4 = .ok (.lmul, 1) := by decide +kernel
theorem dX2_mixed_5 : decode cX2_mixed 5 = .ok (.lload_n 2, 1) := by decide +kernel
theorem dX2_mixed_6 : decode cX2_mixed 6 = .ok (.ladd, 1) := by decide +kernel
theorem dX2_mixed_7 : decode cX2_mixed 7 = .ok (.lreturn, 1) := by decide +kernel
set_option maxRecDepth 20000 in
theorem ggX2_requirePlace_X0_size : GoodIn wsX2_requirePlace wsX0_size := goodIn_r _ [8, 9, 16, 17] (by decide +kernel) (by decide +kernel)
set_option maxRecDepth 20000 in
theorem gX2_requirePlace_X0_size : GoodIn wsX2_requirePlace (wsV RX2 44 RX0 yX0_size wsX0_size) := goodIn_app (goodIn_of _ (by decide +kernel)) ggX2_requirePlace_X0_size
theorem dX2_requirePlace_0 : decode cX2_requirePlace 0 = .ok (.iload_n 1, 1) := by decide +kernel
theorem dX2_requirePlace_1 : decode cX2_requirePlace 1 = .ok (.ifCond .lt 14, 3) := by decide +kernel
theorem dX2_requirePlace_4 : decode cX2_requirePlace 4 = .ok (.iload_n 1, 1) := by decide +kernel
theorem dX2_requirePlace_5 : decode cX2_requirePlace 5 = .ok (.aload_n 0, 1) := by decide +kernel
theorem dX2_requirePlace_6 : decode cX2_requirePlace 6 = .ok (.getfield 10, 3) := by decide +kernel
theorem dX2_requirePlace_9 : decode cX2_requirePlace 9 = .ok (.invokevirtual 44, 3) := by decide +kernel
theorem dX2_requirePlace_12 : decode cX2_requirePlace 12 = .ok (.if_icmp .lt 13, 3) := by decide +kernel
theorem dX2_requirePlace_15 : decode cX2_requirePlace 15 = .ok (.new 221, 3) := by decide +kernel
theorem dX2_requirePlace_18 : decode cX2_requirePlace 18 = .ok (.dup, 1) := by decide +kernel
theorem dX2_requirePlace_19 : decode cX2_requirePlace 19 = .ok (.ldc 223, 2) := by decide +kernel
theorem dX2_requirePlace_21 : decode cX2_requirePlace 21 = .ok (.invokespecial 225, 3) := by decide +kernel
theorem dX2_requirePlace_24 : decode cX2_requirePlace 24 = .ok (.athrow, 1) := by decide +kernel
theorem dX2_requirePlace_25 : decode cX2_requirePlace 25 = .ok (.return_, 1) := by decide +kernel
theorem dX2_requireNumber_0 : decode cX2_requireNumber 0 = .ok (.iload_n 1, 1) := by decide +kernel
theorem dX2_requireNumber_1 : decode cX2_requireNumber 1 = .ok (.sipush (-999), 3) := by decide +kernel
theorem dX2_requireNumber_4 : decode cX2_requireNumber 4 = .ok (.if_icmp .lt 10, 3) := by decide +kernel
theorem dX2_requireNumber_7 : decode cX2_requireNumber 7 = .ok (.iload_n 1, 1) := by decide +kernel
theorem dX2_requireNumber_8 : decode cX2_requireNumber 8 = .ok (.sipush 999, 3) := by decide +kernel
theorem dX2_requireNumber_11 : decode cX2_requireNumber 11 = .ok (.if_icmp .le 13, 3) := by decide +kernel
theorem dX2_requireNumber_14 : decode cX2_requireNumber 14 = .ok (.new 37, 3) := by decide +kernel
theorem dX2_requireNumber_17 : decode cX2_requireNumber 17 = .ok (.dup, 1) := by decide +kernel
theorem dX2_requireNumber_18 : decode cX2_requireNumber 18 = .ok (.ldc 226, 2) := by decide +kernel
theorem dX2_requireNumber_20 : decode cX2_requireNumber 20 = .ok (.invokespecial 41, 3) := by decide +kernel
theorem dX2_requireNumber_23 : decode cX2_requireNumber 23 = .ok (.athrow, 1) := by decide +kernel
theorem dX2_requireNumber_24 : decode cX2_requireNumber 24 = .ok (.return_, 1) := by decide +kernel
theorem dX2_requireTimes_0 : decode cX2_requireTimes 0 = .ok (.iload_n 1, 1) := by decide +kernel
theorem dX2_requireTimes_1 : decode cX2_requireTimes 1 = .ok (.bipush (-50), 2) := by decide +kernel
theorem dX2_requireTimes_3 : decode cX2_requireTimes 3 = .ok (.if_icmp .lt 9, 3) := by decide +kernel
theorem dX2_requireTimes_6 : decode cX2_requireTimes 6 = .ok (.iload_n 1, 1) := by decide +kernel
theorem dX2_requireTimes_7 : decode cX2_requireTimes 7 = .ok (.bipush 50, 2) := by decide +kernel
theorem dX2_requireTimes_9 : decode cX2_requireTimes 9 = .ok (.if_icmp .le 13, 3) := by decide +kernel
theorem dX2_requireTimes_12 : decode cX2_requireTimes 12 = .ok (.new 37, 3) := by decide +kernel
theorem dX2_requireTimes_15 : decode cX2_requireTimes 15 = .ok (.dup, 1) := by decide +kernel
theorem dX2_requireTimes_16 : decode cX2_requireTimes 16 = .ok (.ldc 228, 2) := by decide +kernel
theorem dX2_requireTimes_18 : decode cX2_requireTimes 18 = .ok (.invokespecial 41, 3) := by decide +kernel
theorem dX2_requireTimes_21 : decode cX2_requireTimes 21 = .ok (.athrow, 1) := by decide +kernel
theorem dX2_requireTimes_22 : decode cX2_requireTimes 22 = .ok (.return_, 1) := by decide +kernel
set_option maxRecDepth 20000 in
theorem ggX2_requireWayTo_X0_canBecome : GoodIn wsX2_requireWayTo wsX0_canBecome := goodIn_r _ [8, 9, 10, 11, 7, 12, 13, 14, 15, 16, 17, 18, 19, 20, 21, 22, 23, 24, 25, 26, 33, 34] (by decide +kernel) (by decide +kernel)
set_option maxRecDepth 20000 in
theorem gX2_requireWayTo_X0_canBecome : GoodIn wsX2_requireWayTo (wsV RX2 130 RX0 yX0_canBecome wsX0_canBecome) := goodIn_app (goodIn_of _ (by decide +kernel)) ggX2_requireWayTo_X0_canBecome
theorem dX2_requireWayTo_0 : decode cX2_requireWayTo 0 = .ok (.aload_n 0, 1) := by decide +kernel
theorem dX2_requireWayTo_1 : decode cX2_requireWayTo 1 = .ok (.getfield 10, 3) := by decide +kernel
theorem dX2_requireWayTo_4 : decode cX2_requireWayTo 4 = .ok (.aload_n 1, 1) := by decide +kernel
theorem dX2_requireWayTo_5 : decode cX2_requireWayTo 5 = .ok (.invokevirtual 130, 3) := by decide +kernel
theorem dX2_requireWayTo_8 : decode cX2_requireWayTo 8 = .ok (.ifCond .ne 13, 3) := by decide +kernel
theorem dX2_requireWayTo_11 : decode cX2_requireWayTo 11 = .ok (.new 80, 3) := by decide +kernel
theorem dX2_requireWayTo_14 : decode cX2_requireWayTo 14 = .ok (.dup, 1) := by decide +kernel
theorem dX2_requireWayTo_15 : decode cX2_requireWayTo 15 = .ok (.ldc 230, 2) := by decide +kernel
theorem dX2_requireWayTo_17 : decode cX2_requireWayTo 17 = .ok (.invokespecial 84, 3) := by decide +kernel
theorem dX2_requireWayTo_20 : decode cX2_requireWayTo 20 = .ok (.athrow, 1) := by decide +kernel
theorem dX2_requireWayTo_21 : decode cX2_requireWayTo 21 = .ok (.return_, 1) := by decide +kernel
theorem dX2_keptRing_0 : decode cX2_keptRing 0 = .ok (.iload_n 1, 1) := by decide +kernel
theorem dX2_keptRing_1 : decode cX2_keptRing 1 = .ok (.ifCond .lt 20, 3) := by decide +kernel
theorem dX2_keptRing_4 : decode cX2_keptRing 4 = .ok (.iload_n 1, 1) := by decide +kernel
theorem dX2_keptRing_5 : decode cX2_keptRing 5 = .ok (.aload_n 0, 1) := by decide +kernel
theorem dX2_keptRing_6 : decode cX2_keptRing 6 = .ok (.getfield 20, 3) := by decide +kernel
theorem dX2_keptRing_9 : decode cX2_keptRing 9 = .ok (.if_icmp .ge 12, 3) := by decide +kernel
theorem dX2_keptRing_12 : decode cX2_keptRing 12 = .ok (.iload_n 1, 1) := by decide +kernel
theorem dX2_keptRing_13 : decode cX2_keptRing 13 = .ok (.aload_n 0, 1) := by decide +kernel
theorem dX2_keptRing_14 : decode cX2_keptRing 14 = .ok (.getfield 16, 3) := by decide +kernel
theorem dX2_keptRing_17 : decode cX2_keptRing 17 = .ok (.arraylength, 1) := by decide +kernel
theorem dX2_keptRing_18 : decode cX2_keptRing 18 = .ok (.if_icmp .lt 13, 3) := by decide +kernel
theorem dX2_keptRing_21 : decode cX2_keptRing 21 = .ok (.new 221, 3) := by decide +kernel
theorem dX2_keptRing_24 : decode cX2_keptRing 24 = .ok (.dup, 1) := by decide +kernel
theorem dX2_keptRing_25 : decode cX2_keptRing 25 = .ok (.ldc 232, 2) := by decide +kernel
theorem dX2_keptRing_27 : decode cX2_keptRing 27 = .ok (.invokespecial 225, 3) := by decide +kernel
theorem dX2_keptRing_30 : decode cX2_keptRing 30 = .ok (.athrow, 1) := by decide +kernel
theorem dX2_keptRing_31 : decode cX2_keptRing 31 = .ok (.aload_n 0, 1) := by decide +kernel
theorem dX2_keptRing_32 : decode cX2_keptRing 32 = .ok (.getfield 16, 3) := by decide +kernel
theorem dX2_keptRing_35 : decode cX2_keptRing 35 = .ok (.iload_n 1, 1) := by decide +kernel
theorem dX2_keptRing_36 : decode cX2_keptRing 36 = .ok (.aaload, 1) := by decide +kernel
theorem dX2_keptRing_37 : decode cX2_keptRing 37 = .ok (.astore_n 2, 1) := by decide +kernel
theorem dX2_keptRing_38 : decode cX2_keptRing 38 = .ok (.aload_n 2, 1) := by decide +kernel
theorem dX2_keptRing_39 : decode cX2_keptRing 39 = .ok (.ifnonnull 13, 3) := by decide +kernel
theorem dX2_keptRing_42 : decode cX2_keptRing 42 = .ok (.new 221, 3) := by decide +kernel
theorem dX2_keptRing_45 : decode cX2_keptRing 45 = .ok (.dup, 1) := by decide +kernel
theorem dX2_keptRing_46 : decode cX2_keptRing 46 = .ok (.ldc 232, 2) := by decide +kernel
theorem dX2_keptRing_48 : decode cX2_keptRing 48 = .ok (.invokespecial 225, 3) := by decide +kernel
theorem dX2_keptRing_51 : decode cX2_keptRing 51 = .ok (.athrow, 1) := by decide +kernel
theorem dX2_keptRing_52 : decode cX2_keptRing 52 = .ok (.aload_n 2, 1) := by decide +kernel
theorem dX2_keptRing_53 : decode cX2_keptRing 53 = .ok (.areturn, 1) := by decide +kernel
set_option maxRecDepth 20000 in
theorem ggX2_fewestTo_X0_canBecome : GoodIn wsX2_fewestTo wsX0_canBecome := goodIn_r _ [7, 8, 9, 10, 6, 11, 12, 13, 14, 15, 16, 17, 18, 19, 20, 21, 22, 23, 24, 25, 67, 68] (by decide +kernel) (by decide +kernel)
set_option maxRecDepth 20000 in
theorem gX2_fewestTo_X0_canBecome : GoodIn wsX2_fewestTo (wsV RX2 130 RX0 yX0_canBecome wsX0_canBecome) := goodIn_app (goodIn_of _ (by decide +kernel)) ggX2_fewestTo_X0_canBecome
set_option maxRecDepth 20000 in
theorem ggX2_fewestTo_X1_find : GoodIn wsX2_fewestTo wsX1_find := goodIn_r _ [30, 31, 32, 33, 34, 35, 6, 36, 12, 37, 38, 39, 29, 40, 41, 14, 15, 16, 17, 69, 70, 67, 68] (by decide +kernel) (by decide +kernel)
set_option maxRecDepth 20000 in
theorem gX2_fewestTo_X1_find : GoodIn wsX2_fewestTo (wsV RX2 134 RX1 yX1_find wsX1_find) := goodIn_app (goodIn_of _ (by decide +kernel)) ggX2_fewestTo_X1_find
set_option maxRecDepth 20000 in
theorem ggX2_fewestTo_X1_fewest : GoodIn wsX2_fewestTo wsX1_fewest := goodIn_r _ [45, 31, 46, 47, 48, 49, 50, 51, 52, 29, 53, 32, 54, 55, 56, 57, 58, 59, 60, 69, 70] (by decide +kernel) (by decide +kernel)
set_option maxRecDepth 20000 in
theorem gX2_fewestTo_X1_fewest : GoodIn wsX2_fewestTo (wsV RX2 234 RX1 yX1_fewest wsX1_fewest) := goodIn_app (goodIn_of _ (by decide +kernel)) ggX2_fewestTo_X1_fewest
theorem dX2_fewestTo_0 : decode cX2_fewestTo 0 = .ok (.aload_n 0, 1) := by decide +kernel
theorem dX2_fewestTo_1 : decode cX2_fewestTo 1 = .ok (.getfield 10, 3) := by decide +kernel
theorem dX2_fewestTo_4 : decode cX2_fewestTo 4 = .ok (.aload_n 1, 1) := by decide +kernel
theorem dX2_fewestTo_5 : decode cX2_fewestTo 5 = .ok (.invokevirtual 130, 3) := by decide +kernel
theorem dX2_fewestTo_8 : decode cX2_fewestTo 8 = .ok (.ifCond .ne 5, 3) := by decide +kernel
theorem dX2_fewestTo_11 : decode cX2_fewestTo 11 = .ok (.iconst (-1), 1) := by decide +kernel
theorem dX2_fewestTo_12 : decode cX2_fewestTo 12 = .ok (.ireturn, 1) := by decide +kernel
theorem dX2_fewestTo_13 : decode cX2_fewestTo 13 = .ok (.aload_n 0, 1) := by decide +kernel
theorem dX2_fewestTo_14 : decode cX2_fewestTo 14 = .ok (.getfield 33, 3) := by decide +kernel
theorem dX2_fewestTo_17 : decode cX2_fewestTo 17 = .ok (.aload_n 0, 1) := by decide +kernel
theorem dX2_fewestTo_18 : decode cX2_fewestTo 18 = .ok (.getfield 10, 3) := by decide +kernel
theorem dX2_fewestTo_21 : decode cX2_fewestTo 21 = .ok (.aload_n 1, 1) := by decide +kernel
theorem dX2_fewestTo_22 : decode cX2_fewestTo 22 = .ok (.invokevirtual 134, 3) := by decide +kernel
theorem dX2_fewestTo_25 : decode cX2_fewestTo 25 = .ok (.aload_n 0, 1) := by decide +kernel
theorem dX2_fewestTo_26 : decode cX2_fewestTo 26 = .ok (.getfield 33, 3) := by decide +kernel
theorem dX2_fewestTo_29 : decode cX2_fewestTo 29 = .ok (.invokevirtual 234, 3) := by decide +kernel
theorem dX2_fewestTo_32 : decode cX2_fewestTo 32 = .ok (.ireturn, 1) := by decide +kernel
set_option maxRecDepth 20000 in
theorem ggX2_tryToRest_X0_copyFrom : GoodIn wsX2_tryToRest wsX0_copyFrom := goodIn_r _ [7, 8, 9, 10, 11, 12, 6, 13, 14, 15, 16, 17, 49, 50] (by decide +kernel) (by decide +kernel)
set_option maxRecDepth 20000 in
theorem gX2_tryToRest_X0_copyFrom : GoodIn wsX2_tryToRest (wsV RX2 89 RX0 yX0_copyFrom wsX0_copyFrom) := goodIn_app (goodIn_of _ (by decide +kernel)) ggX2_tryToRest_X0_copyFrom
set_option maxRecDepth 20000 in
theorem ggX2_tryToRest_X0_settleBy : GoodIn wsX2_tryToRest wsX0_settleBy := goodIn_r _ [21, 22, 23, 24, 6, 25, 8, 26, 27, 28, 29, 10, 11, 12, 13, 9, 30, 31, 32, 33, 34, 35, 36, 37, 38, 39, 40, 41, 14, 15, 16, 17, 49, 50] (by decide +kernel) (by decide +kernel)
set_option maxRecDepth 20000 in
theorem gX2_tryToRest_X0_settleBy : GoodIn wsX2_tryToRest (wsV RX2 95 RX0 yX0_settleBy wsX0_settleBy) := goodIn_app (goodIn_of _ (by decide +kernel)) ggX2_tryToRest_X0_settleBy
set_option maxRecDepth 20000 in
theorem ggX2_tryToRest_X0_firstSteep : GoodIn wsX2_tryToRest wsX0_firstSteep := goodIn_r _ [25, 8, 26, 27, 28, 6, 29, 10, 11, 12, 13, 9, 30, 31, 32, 33, 49, 50] (by decide +kernel) (by decide +kernel)
set_option maxRecDepth 20000 in
theorem gX2_tryToRest_X0_firstSteep : GoodIn wsX2_tryToRest (wsV RX2 121 RX0 yX0_firstSteep wsX0_firstSteep) := goodIn_app (goodIn_of _ (by decide +kernel)) ggX2_tryToRest_X0_firstSteep
theorem dX2_tryToRest_0 : decode cX2_tryToRest 0 = .ok (.aload_n 0, 1) := by decide +kernel
theorem dX2_tryToRest_1 : decode cX2_tryToRest 1 = .ok (.getfield 27, 3) := by decide +kernel
theorem dX2_tryToRest_4 : decode cX2_tryToRest 4 = .ok (.aload_n 0, 1) := by decide +kernel
theorem dX2_tryToRest_5 : decode cX2_tryToRest 5 = .ok (.getfield 10, 3) := by decide +kernel
theorem dX2_tryToRest_8 : decode cX2_tryToRest 8 = .ok (.invokevirtual 89, 3) := by decide +kernel
theorem dX2_tryToRest_11 : decode cX2_tryToRest 11 = .ok (.aload_n 0, 1) := by decide +kernel
theorem dX2_tryToRest_12 : decode cX2_tryToRest 12 = .ok (.getfield 27, 3) := by decide +kernel
theorem dX2_tryToRest_15 : decode cX2_tryToRest 15 = .ok (.sipush 300, 3) := by decide +kernel
theorem dX2_tryToRest_18 : decode cX2_tryToRest 18 = .ok (.invokevirtual 95, 3) := by decide +kernel
theorem dX2_tryToRest_21 : decode cX2_tryToRest 21 = .ok (.istore_n 1, 1) := by decide +kernel
theorem dX2_tryToRest_22 : decode cX2_tryToRest 22 = .ok (.aload_n 0, 1) := by decide +kernel
theorem dX2_tryToRest_23 : decode cX2_tryToRest 23 = .ok (.getfield 27, 3) := by decide +kernel
theorem dX2_tryToRest_26 : decode cX2_tryToRest 26 = .ok (.invokevirtual 121, 3) := by decide +kernel
theorem dX2_tryToRest_29 : decode cX2_tryToRest 29 = .ok (.ifCond .ge 7, 3) := by decide +kernel
theorem dX2_tryToRest_32 : decode cX2_tryToRest 32 = .ok (.iload_n 1, 1) := by decide +kernel
theorem dX2_tryToRest_33 : decode cX2_tryToRest 33 = .ok (.goto 4, 3) := by decide +kernel
theorem dX2_tryToRest_36 : decode cX2_tryToRest 36 = .ok (.iconst (-1), 1) := by decide +kernel
theorem dX2_tryToRest_37 : decode cX2_tryToRest 37 = .ok (.ireturn, 1) := by decide +kernel
set_option maxRecDepth 20000 in
theorem ggX2_spanAfter_X0_copyFrom : GoodIn wsX2_spanAfter wsX0_copyFrom := goodIn_r _ [7, 8, 9, 10, 11, 12, 6, 13, 14, 15, 16, 17, 48, 49] (by decide +kernel) (by decide +kernel)
set_option maxRecDepth 20000 in
theorem gX2_spanAfter_X0_copyFrom : GoodIn wsX2_spanAfter (wsV RX2 89 RX0 yX0_copyFrom wsX0_copyFrom) := goodIn_app (goodIn_of _ (by decide +kernel)) ggX2_spanAfter_X0_copyFrom
set_option maxRecDepth 20000 in
theorem ggX2_spanAfter_X0_tipBy : GoodIn wsX2_spanAfter wsX0_tipBy := goodIn_r _ [21, 22, 23, 24, 6, 25, 10, 11, 12, 13, 9, 14, 15, 16, 17, 26, 27, 28, 29, 8, 48, 49] (by decide +kernel) (by decide +kernel)
set_option maxRecDepth 20000 in
theorem gX2_spanAfter_X0_tipBy : GoodIn wsX2_spanAfter (wsV RX2 69 RX0 yX0_tipBy wsX0_tipBy) := goodIn_app (goodIn_of _ (by decide +kernel)) ggX2_spanAfter_X0_tipBy
set_option maxRecDepth 20000 in
theorem ggX2_spanAfter_X0_span : GoodIn wsX2_spanAfter wsX0_span := goodIn_r _ [33, 8, 34, 35, 36, 37, 10, 11, 12, 6, 13, 9, 38, 39, 40, 41, 48, 49] (by decide +kernel) (by decide +kernel)
set_option maxRecDepth 20000 in
theorem gX2_spanAfter_X0_span : GoodIn wsX2_spanAfter (wsV RX2 111 RX0 yX0_span wsX0_span) := goodIn_app (goodIn_of _ (by decide +kernel)) ggX2_spanAfter_X0_span
theorem dX2_spanAfter_0 : decode cX2_spanAfter 0 = .ok (.aload_n 0, 1) := by decide +kernel
theorem dX2_spanAfter_1 : decode cX2_spanAfter 1 = .ok (.getfield 27, 3) := by decide +kernel
theorem dX2_spanAfter_4 : decode cX2_spanAfter 4 = .ok (.aload_n 0, 1) := by decide +kernel
theorem dX2_spanAfter_5 : decode cX2_spanAfter 5 = .ok (.getfield 10, 3) := by decide +kernel
theorem dX2_spanAfter_8 : decode cX2_spanAfter 8 = .ok (.invokevirtual 89, 3) := by decide +kernel
theorem dX2_spanAfter_11 : decode cX2_spanAfter 11 = .ok (.aload_n 0, 1) := by decide +kernel
theorem dX2_spanAfter_12 : decode cX2_spanAfter 12 = .ok (.getfield 27, 3) := by decide +kernel
theorem dX2_spanAfter_15 : decode cX2_spanAfter 15 = .ok (.iload_n 1, 1) := by decide +kernel
theorem dX2_spanAfter_16 : decode cX2_spanAfter 16 = .ok (.iload_n 2, 1) := by decide +kernel
theorem dX2_spanAfter_17 : decode cX2_spanAfter 17 = .ok (.invokevirtual 69, 3) := by decide +kernel
theorem dX2_spanAfter_20 : decode cX2_spanAfter 20 = .ok (.aload_n 0, 1) := by decide +kernel
theorem dX2_spanAfter_21 : decode cX2_spanAfter 21 = .ok (.getfield 27, 3) := by decide +kernel
theorem dX2_spanAfter_24 : decode cX2_spanAfter 24 = .ok (.invokevirtual 111, 3) := by decide +kernel
theorem dX2_spanAfter_27 : decode cX2_spanAfter 27 = .ok (.ireturn, 1) := by decide +kernel
set_option maxRecDepth 20000 in
theorem ggX2_firstPlaceFor_X0_size : GoodIn wsX2_firstPlaceFor wsX0_size := goodIn_r _ [7, 8, 45, 46] (by decide +kernel) (by decide +kernel)
set_option maxRecDepth 20000 in
theorem gX2_firstPlaceFor_X0_size : GoodIn wsX2_firstPlaceFor (wsV RX2 44 RX0 yX0_size wsX0_size) := goodIn_app (goodIn_of _ (by decide +kernel)) ggX2_firstPlaceFor_X0_size
set_option maxRecDepth 20000 in
theorem ggX2_firstPlaceFor_X0_copyFrom : GoodIn wsX2_firstPlaceFor wsX0_copyFrom := goodIn_r _ [12, 8, 13, 14, 15, 16, 6, 17, 18, 19, 20, 21, 45, 46] (by decide +kernel) (by decide +kernel)
set_option maxRecDepth 20000 in
theorem gX2_firstPlaceFor_X0_copyFrom : GoodIn wsX2_firstPlaceFor (wsV RX2 89 RX0 yX0_copyFrom wsX0_copyFrom) := goodIn_app (goodIn_of _ (by decide +kernel)) ggX2_firstPlaceFor_X0_copyFrom
set_option maxRecDepth 20000 in
theorem ggX2_firstPlaceFor_X0_write : GoodIn wsX2_firstPlaceFor wsX0_write := goodIn_r _ [21, 13, 45, 46] (by decide +kernel) (by decide +kernel)
set_option maxRecDepth 20000 in
theorem gX2_firstPlaceFor_X0_write : GoodIn wsX2_firstPlaceFor (wsV RX2 62 RX0 yX0_write wsX0_write) := goodIn_app (goodIn_of _ (by decide +kernel)) ggX2_firstPlaceFor_X0_write
set_option maxRecDepth 20000 in
theorem ggX2_firstPlaceFor_X0_canBecome : GoodIn wsX2_firstPlaceFor wsX0_canBecome := goodIn_r _ [26, 27, 28, 29, 6, 30, 8, 14, 15, 16, 17, 13, 31, 32, 33, 34, 35, 36, 37, 38, 45, 46] (by decide +kernel) (by decide +kernel)
set_option maxRecDepth 20000 in
theorem gX2_firstPlaceFor_X0_canBecome : GoodIn wsX2_firstPlaceFor (wsV RX2 130 RX0 yX0_canBecome wsX0_canBecome) := goodIn_app (goodIn_of _ (by decide +kernel)) ggX2_firstPlaceFor_X0_canBecome
theorem dX2_firstPlaceFor_0 : decode cX2_firstPlaceFor 0 = .ok (.iconst 0, 1) := by decide +kernel
theorem dX2_firstPlaceFor_1 : decode cX2_firstPlaceFor 1 = .ok (.istore_n 3, 1) := by decide +kernel
theorem dX2_firstPlaceFor_2 : decode cX2_firstPlaceFor 2 = .ok (.iload_n 3, 1) := by decide +kernel
theorem dX2_firstPlaceFor_3 : decode cX2_firstPlaceFor 3 = .ok (.aload_n 0, 1) := by decide +kernel
theorem dX2_firstPlaceFor_4 : decode cX2_firstPlaceFor 4 = .ok (.getfield 10, 3) := by decide +kernel
theorem dX2_firstPlaceFor_7 : decode cX2_firstPlaceFor 7 = .ok (.invokevirtual 44, 3) := by decide +kernel
theorem dX2_firstPlaceFor_10 : decode cX2_firstPlaceFor 10 = .ok (.if_icmp .ge 42, 3) := by decide +kernel
theorem dX2_firstPlaceFor_13 : decode cX2_firstPlaceFor 13 = .ok (.aload_n 0, 1) := by decide +kernel
theorem dX2_firstPlaceFor_14 : decode cX2_firstPlaceFor 14 = .ok (.getfield 27, 3) := by decide +kernel
theorem dX2_firstPlaceFor_17 : decode cX2_firstPlaceFor 17 = .ok (.aload_n 0, 1) := by decide +kernel
theorem dX2_firstPlaceFor_18 : decode cX2_firstPlaceFor 18 = .ok (.getfield 10, 3) := by decide +kernel
theorem dX2_firstPlaceFor_21 : decode cX2_firstPlaceFor 21 = .ok (.invokevirtual 89, 3) := by decide +kernel
theorem dX2_firstPlaceFor_24 : decode cX2_firstPlaceFor 24 = .ok (.aload_n 0, 1) := by decide +kernel
theorem dX2_firstPlaceFor_25 : decode cX2_firstPlaceFor 25 = .ok (.getfield 27, 3) := by decide +kernel
theorem dX2_firstPlaceFor_28 : decode cX2_firstPlaceFor 28 = .ok (.iload_n 3, 1) := by decide +kernel
theorem dX2_firstPlaceFor_29 : decode cX2_firstPlaceFor 29 = .ok (.iload_n 1, 1) := by decide +kernel
theorem dX2_firstPlaceFor_30 : decode cX2_firstPlaceFor 30 = .ok (.invokevirtual 62, 3) := by decide +kernel
theorem dX2_firstPlaceFor_33 : decode cX2_firstPlaceFor 33 = .ok (.aload_n 0, 1) := by decide +kernel
theorem dX2_firstPlaceFor_34 : decode cX2_firstPlaceFor 34 = .ok (.getfield 27, 3) := by decide +kernel
theorem dX2_firstPlaceFor_37 : decode cX2_firstPlaceFor 37 = .ok (.aload_n 2, 1) := by decide +kernel
theorem dX2_firstPlaceFor_38 : decode cX2_firstPlaceFor 38 = .ok (.invokevirtual 130, 3) := by decide +kernel
theorem dX2_firstPlaceFor_41 : decode cX2_firstPlaceFor 41 = .ok (.ifCond .eq 5, 3) := by decide +kernel
theorem dX2_firstPlaceFor_44 : decode cX2_firstPlaceFor 44 = .ok (.iload_n 3, 1) := by decide +kernel
theorem dX2_firstPlaceFor_45 : decode cX2_firstPlaceFor 45 = .ok (.ireturn, 1) := by decide +kernel
theorem dX2_firstPlaceFor_46 : decode cX2_firstPlaceFor 46 = .ok (.iinc 3 1, 3) := by decide +kernel
theorem dX2_firstPlaceFor_49 : decode cX2_firstPlaceFor 49 = .ok (.goto (-47), 3) := by decide +kernel
theorem dX2_firstPlaceFor_52 : decode cX2_firstPlaceFor 52 = .ok (.iconst (-1), 1) := by decide +kernel
theorem dX2_firstPlaceFor_53 : decode cX2_firstPlaceFor 53 = .ok (.ireturn, 1) := by decide +kernel
theorem dX3_init_0 : decode cX3_init 0 = .ok (.aload_n 0, 1) := by decide +kernel
theorem dX3_init_1 : decode cX3_init 1 = .ok (.invokespecial 1, 3) := by decide +kernel
theorem dX3_init_4 : decode cX3_init 4 = .ok (.aload_n 0, 1) := by decide +kernel
theorem dX3_init_5 : decode cX3_init 5 = .ok (.bipush 6, 2) := by decide +kernel
theorem dX3_init_7 : decode cX3_init 7 = .ok (.putfield 7, 3) := by decide +kernel
theorem dX3_init_10 : decode cX3_init 10 = .ok (.aload_n 0, 1) := by decide +kernel
theorem dX3_init_11 : decode cX3_init 11 = .ok (.bipush 12, 2) := by decide +kernel
theorem dX3_init_13 : decode cX3_init 13 = .ok (.newarray .int, 2) := by decide +kernel
theorem dX3_init_15 : decode cX3_init 15 = .ok (.putfield 13, 3) := by decide +kernel
theorem dX3_init_18 : decode cX3_init 18 = .ok (.aload_n 0, 1) := by decide +kernel
theorem dX3_init_19 : decode cX3_init 19 = .ok (.bipush 12, 2) := by decide +kernel
theorem dX3_init_21 : decode cX3_init 21 = .ok (.newarray .int, 2) := by decide +kernel
theorem dX3_init_23 : decode cX3_init 23 = .ok (.putfield 17, 3) := by decide +kernel
theorem dX3_init_26 : decode cX3_init 26 = .ok (.aload_n 0, 1) := by decide +kernel
theorem dX3_init_27 : decode cX3_init 27 = .ok (.bipush 72, 2) := by decide +kernel
theorem dX3_init_29 : decode cX3_init 29 = .ok (.newarray .int, 2) := by decide +kernel
theorem dX3_init_31 : decode cX3_init 31 = .ok (.putfield 20, 3) := by decide +kernel
theorem dX3_init_34 : decode cX3_init 34 = .ok (.aload_n 0, 1) := by decide +kernel
theorem dX3_init_35 : decode cX3_init 35 = .ok (.bipush 14, 2) := by decide +kernel
theorem dX3_init_37 : decode cX3_init 37 = .ok (.newarray .int, 2) := by decide +kernel
theorem dX3_init_39 : decode cX3_init 39 = .ok (.putfield 23, 3) := by decide +kernel
theorem dX3_init_42 : decode cX3_init 42 = .ok (.return_, 1) := by decide +kernel
theorem dX3_thrown_0 : decode cX3_thrown 0 = .ok (.aload_n 0, 1) := by decide +kernel
theorem dX3_thrown_1 : decode cX3_thrown 1 = .ok (.getfield 26, 3) := by decide +kernel
theorem dX3_thrown_4 : decode cX3_thrown 4 = .ok (.ireturn, 1) := by decide +kernel
theorem dX3_no_0 : decode cX3_no 0 = .ok (.aload_n 0, 1) := by decide +kernel
theorem dX3_no_1 : decode cX3_no 1 = .ok (.iload_n 1, 1) := by decide +kernel
theorem dX3_no_2 : decode cX3_no 2 = .ok (.putfield 26, 3) := by decide +kernel
theorem dX3_no_5 : decode cX3_no 5 = .ok (.iconst 0, 1) := by decide +kernel
theorem dX3_no_6 : decode cX3_no 6 = .ok (.ireturn, 1) := by decide +kernel
theorem dX3_isNot_0 : decode cX3_isNot 0 = .ok (.aload_n 0, 1) := by decide +kernel
theorem dX3_isNot_1 : decode cX3_isNot 1 = .ok (.iload_n 1, 1) := by decide +kernel
theorem dX3_isNot_2 : decode cX3_isNot 2 = .ok (.putfield 26, 3) := by decide +kernel
theorem dX3_isNot_5 : decode cX3_isNot 5 = .ok (.iconst 0, 1) := by decide +kernel
theorem dX3_isNot_6 : decode cX3_isNot 6 = .ok (.ireturn, 1) := by decide +kernel
theorem dX3_ok_0 : decode cX3_ok 0 = .ok (.aload_n 0, 1) := by decide +kernel
theorem dX3_ok_1 : decode cX3_ok 1 = .ok (.iconst 0, 1) := by decide +kernel
theorem dX3_ok_2 : decode cX3_ok 2 = .ok (.putfield 26, 3) := by decide +kernel
theorem dX3_ok_5 : decode cX3_ok 5 = .ok (.iload_n 1, 1) := by decide +kernel
theorem dX3_ok_6 : decode cX3_ok 6 = .ok (.ireturn, 1) := by decide +kernel
theorem dX3_isIn_0 : decode cX3_isIn 0 = .ok (.iload_n 0, 1) := by decide +kernel
theorem dX3_isIn_1 : decode cX3_isIn 1 = .ok (.iload_n 1, 1) := by decide +kernel
theorem dX3_isIn_2 : decode cX3_isIn 2 = .ok (.if_icmp .lt 12, 3) := by decide +kernel
theorem dX3_isIn_5 : decode cX3_isIn 5 = .ok (.iload_n 0, 1) := by decide +kernel
theorem dX3_isIn_6 : decode cX3_isIn 6 = .ok (.iload_n 2, 1) := by decide +kernel
theorem dX3_isIn_7 : decode cX3_isIn 7 = .ok (.if_icmp .gt 7, 3) := by decide +kernel
theorem dX3_isIn_10 : decode cX3_isIn 10 = .ok (.iconst 1, 1) := by decide +kernel
theorem dX3_isIn_11 : decode cX3_isIn 11 = .ok (.goto 4, 3) := by decide +kernel
theorem dX3_isIn_14 : decode cX3_isIn 14 = .ok (.iconst 0, 1) := by decide +kernel
theorem dX3_isIn_15 : decode cX3_isIn 15 = .ok (.ireturn, 1) := by decide +kernel
set_option maxRecDepth 20000 in
theorem ggX3_isPlace_X3_isIn : GoodIn wsX3_isPlace wsX3_isIn := goodIn_r _ [5] (by decide +kernel) (by decide +kernel)
set_option maxRecDepth 20000 in
theorem gX3_isPlace_X3_isIn : GoodIn wsX3_isPlace (va_wsS RX3 29 yX3_isIn wsX3_isIn) := goodIn_app (goodIn_of _ (by decide +kernel)) ggX3_isPlace_X3_isIn
theorem dX3_isPlace_0 : decode cX3_isPlace 0 = .ok (.iload_n 1, 1) := by decide +kernel
theorem dX3_isPlace_1 : decode cX3_isPlace 1 = .ok (.iconst 0, 1) := by decide +kernel
theorem dX3_isPlace_2 : decode cX3_isPlace 2 = .ok (.aload_n 0, 1) := by decide +kernel
theorem dX3_isPlace_3 : decode cX3_isPlace 3 = .ok (.getfield 7, 3) := by decide +kernel
theorem dX3_isPlace_6 : decode cX3_isPlace 6 = .ok (.iconst 1, 1) := by decide +kernel
theorem dX3_isPlace_7 : decode cX3_isPlace 7 = .ok (.isub, 1) := by decide +kernel
theorem dX3_isPlace_8 : decode cX3_isPlace 8 = .ok (.invokestatic 29, 3) := by decide +kernel
theorem dX3_isPlace_11 : decode cX3_isPlace 11 = .ok (.ireturn, 1) := by decide +kernel
set_option maxRecDepth 20000 in
theorem ggX3_isTarget_X3_isIn : GoodIn wsX3_isTarget wsX3_isIn := goodIn_r _ [5] (by decide +kernel) (by decide +kernel)
set_option maxRecDepth 20000 in
theorem gX3_isTarget_X3_isIn : GoodIn wsX3_isTarget (va_wsS RX3 29 yX3_isIn wsX3_isIn) := goodIn_app (goodIn_of _ (by decide +kernel)) ggX3_isTarget_X3_isIn
theorem dX3_isTarget_0 : decode cX3_isTarget 0 = .ok (.iload_n 1, 1) := by decide +kernel
theorem dX3_isTarget_1 : decode cX3_isTarget 1 = .ok (.iconst 0, 1) := by decide +kernel
theorem dX3_isTarget_2 : decode cX3_isTarget 2 = .ok (.aload_n 0, 1) := by decide +kernel
theorem dX3_isTarget_3 : decode cX3_isTarget 3 = .ok (.getfield 33, 3) := by decide +kernel
theorem dX3_isTarget_6 : decode cX3_isTarget 6 = .ok (.iconst 1, 1) := by decide +kernel
theorem dX3_isTarget_7 : decode cX3_isTarget 7 = .ok (.isub, 1) := by decide +kernel
theorem dX3_isTarget_8 : decode cX3_isTarget 8 = .ok (.invokestatic 29, 3) := by decide +kernel
theorem dX3_isTarget_11 : decode cX3_isTarget 11 = .ok (.ireturn, 1) := by decide +kernel
theorem dX3_on_0 : decode cX3_on 0 = .ok (.iload_n 1, 1) := by decide +kernel
theorem dX3_on_1 : decode cX3_on 1 = .ok (.iload_n 2, 1) := by decide +kernel
theorem dX3_on_2 : decode cX3_on 2 = .ok (.iadd, 1) := by decide +kernel
theorem dX3_on_3 : decode cX3_on 3 = .ok (.aload_n 0, 1) := by decide +kernel
theorem dX3_on_4 : decode cX3_on 4 = .ok (.getfield 7, 3) := by decide +kernel
theorem dX3_on_7 : decode cX3_on 7 = .ok (.iadd, 1) := by decide +kernel
theorem dX3_on_8 : decode cX3_on 8 = .ok (.aload_n 0, 1) := by decide +kernel
theorem dX3_on_9 : decode cX3_on 9 = .ok (.getfield 7, 3) := by decide +kernel
theorem dX3_on_12 : decode cX3_on 12 = .ok (.irem, 1) := by decide +kernel
theorem dX3_on_13 : decode cX3_on 13 = .ok (.ireturn, 1) := by decide +kernel
set_option maxRecDepth 20000 in
theorem ggX3_lean_X3_on : GoodIn wsX3_lean wsX3_on := goodIn_r _ [5, 6, 7, 8, 9, 10, 11, 12, 13, 14] (by decide +kernel) (by decide +kernel)
set_option maxRecDepth 20000 in
theorem gX3_lean_X3_on : GoodIn wsX3_lean (wsV RX3 36 RX3 yX3_on wsX3_on) := goodIn_app (goodIn_of _ (by decide +kernel)) ggX3_lean_X3_on
theorem dX3_lean_0 : decode cX3_lean 0 = .ok (.aload_n 1, 1) := by decide +kernel
theorem dX3_lean_1 : decode cX3_lean 1 = .ok (.iload_n 2, 1) := by decide +kernel
theorem dX3_lean_2 : decode cX3_lean 2 = .ok (.dup2, 1) := by decide +kernel
theorem dX3_lean_3 : decode cX3_lean 3 = .ok (.iaload, 1) := by decide +kernel
theorem dX3_lean_4 : decode cX3_lean 4 = .ok (.iconst 2, 1) := by decide +kernel
theorem dX3_lean_5 : decode cX3_lean 5 = .ok (.iload_n 3, 1) := by decide +kernel
theorem dX3_lean_6 : decode cX3_lean 6 = .ok (.imul, 1) := by decide +kernel
theorem dX3_lean_7 : decode cX3_lean 7 = .ok (.isub, 1) := by decide +kernel
theorem dX3_lean_8 : decode cX3_lean 8 = .ok (.iastore, 1) := by decide +kernel
theorem dX3_lean_9 : decode cX3_lean 9 = .ok (.aload_n 1, 1) := by decide +kernel
theorem dX3_lean_10 : decode cX3_lean 10 = .ok (.aload_n 0, 1) := by decide +kernel
theorem dX3_lean_11 : decode cX3_lean 11 = .ok (.iload_n 2, 1) := by decide +kernel
theorem dX3_lean_12 : decode cX3_lean 12 = .ok (.iconst 1, 1) := by decide +kernel
theorem dX3_lean_13 : decode cX3_lean 13 = .ok (.invokevirtual 36, 3) := by decide +kernel
theorem dX3_lean_16 : decode cX3_lean 16 = .ok (.dup2, 1) := by decide +kernel
theorem dX3_lean_17 : decode cX3_lean 17 = .ok (.iaload, 1) := by decide +kernel
theorem dX3_lean_18 : decode cX3_lean 18 = .ok (.iload_n 3, 1) := by decide +kernel
theorem dX3_lean_19 : decode cX3_lean 19 = .ok (.iadd, 1) := by decide +kernel
theorem dX3_lean_20 : decode cX3_lean 20 = .ok (.iastore, 1) := by decide +kernel
theorem dX3_lean_21 : decode cX3_lean 21 = .ok (.aload_n 1, 1) := by decide +kernel
theorem dX3_lean_22 : decode cX3_lean 22 = .ok (.aload_n 0, 1) := by decide +kernel
theorem dX3_lean_23 : decode cX3_lean 23 = .ok (.iload_n 2, 1) := by decide +kernel
theorem dX3_lean_24 : decode cX3_lean 24 = .ok (.iconst (-1), 1) := by decide +kernel
theorem dX3_lean_25 : decode cX3_lean 25 = .ok (.invokevirtual 36, 3) := by decide +kernel
theorem dX3_lean_28 : decode cX3_lean 28 = .ok (.dup2, 1) := by decide +kernel
theorem dX3_lean_29 : decode cX3_lean 29 = .ok (.iaload, 1) := by decide +kernel
theorem dX3_lean_30 : decode cX3_lean 30 = .ok (.iload_n 3, 1) := by decide +kernel
theorem dX3_lean_31 : decode cX3_lean 31 = .ok (.iadd, 1) := by decide +kernel
theorem dX3_lean_32 : decode cX3_lean 32 = .ok (.iastore, 1) := by decide +kernel
theorem dX3_lean_33 : decode cX3_lean 33 = .ok (.return_, 1) := by decide +kernel
theorem dX3_look_0 : decode cX3_look 0 = .ok (.aload_n 0, 1) := by decide +kernel
theorem dX3_look_1 : decode cX3_look 1 = .ok (.getfield 13, 3) := by decide +kernel
theorem dX3_look_4 : decode cX3_look 4 = .ok (.iconst 0, 1) := by decide +kernel
theorem dX3_look_5 : decode cX3_look 5 = .ok (.aload_n 0, 1) := by decide +kernel
theorem dX3_look_6 : decode cX3_look 6 = .ok (.getfield 17, 3) := by decide +kernel
theorem dX3_look_9 : decode cX3_look 9 = .ok (.iconst 0, 1) := by decide +kernel
theorem dX3_look_10 : decode cX3_look 10 = .ok (.bipush 12, 2) := by decide +kernel
theorem dX3_look_12 : decode cX3_look 12 = .ok (.invokestatic 40, 3) := by decide +kernel
theorem dX3_look_15 : decode cX3_look 15 = .ok (.return_, 1) := by decide +kernel
theorem dX3_wide_0 : decode cX3_wide 0 = .ok (.aload_n 1, 1) := by decide +kernel
theorem dX3_wide_1 : decode cX3_wide 1 = .ok (.iconst 0, 1) := by decide +kernel
theorem dX3_wide_2 : decode cX3_wide 2 = .ok (.iaload, 1) := by decide +kernel
theorem dX3_wide_3 : decode cX3_wide 3 = .ok (.istore_n 2, 1) := by decide +kernel
theorem dX3_wide_4 : decode cX3_wide 4 = .ok (.aload_n 1, 1) := by decide +kernel
theorem dX3_wide_5 : decode cX3_wide 5 = .ok (.iconst 0, 1) := by decide +kernel
theorem dX3_wide_6 : decode cX3_wide 6 = .ok (.iaload, 1) := by decide +kernel
theorem dX3_wide_7 : decode cX3_wide 7 = .ok (.istore_n 3, 1) := by decide +kernel
theorem dX3_wide_8 : decode cX3_wide 8 = .ok (.iconst 1, 1) := by decide +kernel
theorem dX3_wide_9 : decode cX3_wide 9 = .ok (.istore 4, 2) := by decide +kernel
theorem dX3_wide_11 : decode cX3_wide 11 = .ok (.iload 4, 2) := by decide +kernel
theorem dX3_wide_13 : decode cX3_wide 13 = .ok (.aload_n 0, 1) := by decide +kernel
theorem dX3_wide_14 : decode cX3_wide 14 = .ok (.getfield 7, 3) := by decide +kernel
theorem dX3_wide_17 : decode cX3_wide 17 = .ok (.if_icmp .ge 27, 3) := by decide +kernel
theorem dX3_wide_20 : decode cX3_wide 20 = .ok (.iload_n 2, 1) := by decide +kernel
theorem dX3_wide_21 : decode cX3_wide 21 = .ok (.aload_n 1, 1) := by decide +kernel
theorem dX3_wide_22 : decode cX3_wide 22 = .ok (.iload 4, 2) := by decide +kernel
theorem dX3_wide_24 : decode cX3_wide 24 = .ok (.iaload, 1) := by decide +kernel
theorem dX3_wide_25 : decode cX3_wide 25 = .ok (.invokestatic 46, 3) := by decide +kernel
theorem dX3_wide_28 : decode cX3_wide 28 = .ok (.istore_n 2, 1) := by decide +kernel
theorem dX3_wide_29 : decode cX3_wide 29 = .ok (.iload_n 3, 1) := by decide +kernel
theorem dX3_wide_30 : decode cX3_wide 30 = .ok (.aload_n 1, 1) := by decide +kernel
theorem dX3_wide_31 : decode cX3_wide 31 = .ok (.iload 4, 2) := by decide +kernel
theorem dX3_wide_33 : decode cX3_wide 33 = .ok (.iaload, 1) := by decide +kernel
theorem dX3_wide_34 : decode cX3_wide 34 = .ok (.invokestatic 51, 3) := by decide +kernel
theorem dX3_wide_37 : decode cX3_wide 37 = .ok (.istore_n 3, 1) := by decide +kernel
theorem dX3_wide_38 : decode cX3_wide 38 = .ok (.iinc 4 1, 3) := by decide +kernel
theorem dX3_wide_41 : decode cX3_wide 41 = .ok (.goto (-30), 3) := by decide +kernel
theorem dX3_wide_44 : decode cX3_wide 44 = .ok (.iload_n 3, 1) := by decide +kernel
theorem dX3_wide_45 : decode cX3_wide 45 = .ok (.iload_n 2, 1) := by decide +kernel
theorem dX3_wide_46 : decode cX3_wide 46 = .ok (.isub, 1) := by decide +kernel
theorem dX3_wide_47 : decode cX3_wide 47 = .ok (.ireturn, 1) := by decide +kernel
set_option maxRecDepth 20000 in
theorem ggX3_steep_X3_on : GoodIn wsX3_steep wsX3_on := goodIn_r _ [5, 6, 7, 8, 9, 10, 11, 12, 13, 14] (by decide +kernel) (by decide +kernel)
set_option maxRecDepth 20000 in
theorem gX3_steep_X3_on : GoodIn wsX3_steep (wsV RX3 36 RX3 yX3_on wsX3_on) := goodIn_app (goodIn_of _ (by decide +kernel)) ggX3_steep_X3_on
theorem dX3_steep_0 : decode cX3_steep 0 = .ok (.iconst 2, 1) := by decide +kernel
theorem dX3_steep_1 : decode cX3_steep 1 = .ok (.aload_n 1, 1) := by decide +kernel
theorem dX3_steep_2 : decode cX3_steep 2 = .ok (.iload_n 2, 1) := by decide +kernel
theorem dX3_steep_3 : decode cX3_steep 3 = .ok (.iaload, 1) := by decide +kernel
theorem dX3_steep_4 : decode cX3_steep 4 = .ok (.imul, 1) := by decide +kernel
theorem dX3_steep_5 : decode cX3_steep 5 = .ok (.aload_n 1, 1) := by decide +kernel
theorem dX3_steep_6 : decode cX3_steep 6 = .ok (.aload_n 0, 1) := by decide +kernel
theorem dX3_steep_7 : decode cX3_steep 7 = .ok (.iload_n 2, 1) := by decide +kernel
theorem dX3_steep_8 : decode cX3_steep 8 = .ok (.iconst 1, 1) := by decide +kernel
theorem dX3_steep_9 : decode cX3_steep 9 = .ok (.invokevirtual 36, 3) := by decide +kernel
theorem dX3_steep_12 : decode cX3_steep 12 = .ok (.iaload, 1) := by decide +kernel
theorem dX3_steep_13 : decode cX3_steep 13 = .ok (.isub, 1) := by decide +kernel
theorem dX3_steep_14 : decode cX3_steep 14 = .ok (.aload_n 1, 1) := by decide +kernel
theorem dX3_steep_15 : decode cX3_steep 15 = .ok (.aload_n 0, 1) := by decide +kernel
theorem dX3_steep_16 : decode cX3_steep 16 = .ok (.iload_n 2, 1) := by decide +kernel
theorem dX3_steep_17 : decode cX3_steep 17 = .ok (.iconst (-1), 1) := by decide +kernel
theorem dX3_steep_18 : decode cX3_steep 18 = .ok (.invokevirtual 36, 3) := by decide +kernel
theorem dX3_steep_21 : decode cX3_steep 21 = .ok (.iaload, 1) := by decide +kernel
theorem dX3_steep_22 : decode cX3_steep 22 = .ok (.isub, 1) := by decide +kernel
theorem dX3_steep_23 : decode cX3_steep 23 = .ok (.iconst 3, 1) := by decide +kernel
theorem dX3_steep_24 : decode cX3_steep 24 = .ok (.if_icmp .le 7, 3) := by decide +kernel
theorem dX3_steep_27 : decode cX3_steep 27 = .ok (.iconst 1, 1) := by decide +kernel
theorem dX3_steep_28 : decode cX3_steep 28 = .ok (.goto 4, 3) := by decide +kernel
theorem dX3_steep_31 : decode cX3_steep 31 = .ok (.iconst 0, 1) := by decide +kernel
theorem dX3_steep_32 : decode cX3_steep 32 = .ok (.ireturn, 1) := by decide +kernel
set_option maxRecDepth 20000 in
theorem ggX3_firstSteep_X3_steep : GoodIn wsX3_firstSteep wsX3_steep := goodIn_r _ [6, 7, 8, 9, 5, 10, 1, 11, 12, 13, 14, 15, 16, 17, 18] (by decide +kernel) (by decide +kernel)
set_option maxRecDepth 20000 in
theorem gX3_firstSteep_X3_steep : GoodIn wsX3_firstSteep (wsV RX3 54 RX3 yX3_steep wsX3_steep) := goodIn_app (goodIn_of _ (by decide +kernel)) ggX3_firstSteep_X3_steep
theorem dX3_firstSteep_0 : decode cX3_firstSteep 0 = .ok (.iconst 0, 1) := by decide +kernel
theorem dX3_firstSteep_1 : decode cX3_firstSteep 1 = .ok (.istore_n 2, 1) := by decide +kernel
theorem dX3_firstSteep_2 : decode cX3_firstSteep 2 = .ok (.iload_n 2, 1) := by decide +kernel
theorem dX3_firstSteep_3 : decode cX3_firstSteep 3 = .ok (.aload_n 0, 1) := by decide +kernel
theorem dX3_firstSteep_4 : decode cX3_firstSteep 4 = .ok (.getfield 7, 3) := by decide +kernel
theorem dX3_firstSteep_7 : decode cX3_firstSteep 7 = .ok (.if_icmp .ge 20, 3) := by decide +kernel
theorem dX3_firstSteep_10 : decode cX3_firstSteep 10 = .ok (.aload_n 0, 1) := by decide +kernel
theorem dX3_firstSteep_11 : decode cX3_firstSteep 11 = .ok (.aload_n 1, 1) := by decide +kernel
theorem dX3_firstSteep_12 : decode cX3_firstSteep 12 = .ok (.iload_n 2, 1) := by decide +kernel
theorem dX3_firstSteep_13 : decode cX3_firstSteep 13 = .ok (.invokevirtual 54, 3) := by decide +kernel
theorem dX3_firstSteep_16 : decode cX3_firstSteep 16 = .ok (.ifCond .eq 5, 3) := by decide +kernel
theorem dX3_firstSteep_19 : decode cX3_firstSteep 19 = .ok (.iload_n 2, 1) := by decide +kernel
theorem dX3_firstSteep_20 : decode cX3_firstSteep 20 = .ok (.ireturn, 1) := by decide +kernel
theorem dX3_firstSteep_21 : decode cX3_firstSteep 21 = .ok (.iinc 2 1, 3) := by decide +kernel
theorem dX3_firstSteep_24 : decode cX3_firstSteep 24 = .ok (.goto (-22), 3) := by decide +kernel
theorem dX3_firstSteep_27 : decode cX3_firstSteep 27 = .ok (.iconst (-1), 1) := by decide +kernel
theorem dX3_firstSteep_28 : decode cX3_firstSteep 28 = .ok (.ireturn, 1) := by decide +kernel
set_option maxRecDepth 20000 in
theorem ggX3_settled_X3_firstSteep : GoodIn wsX3_settled wsX3_firstSteep := goodIn_r _ [5, 6, 7, 8, 9, 4, 10, 11, 12, 13, 14, 19, 20, 21, 22, 23, 24, 25, 26] (by decide +kernel) (by decide +kernel)
set_option maxRecDepth 20000 in
theorem gX3_settled_X3_firstSteep : GoodIn wsX3_settled (wsV RX3 58 RX3 yX3_firstSteep wsX3_firstSteep) := goodIn_app (goodIn_of _ (by decide +kernel)) ggX3_settled_X3_firstSteep
set_option maxRecDepth 20000 in
theorem ggX3_settled_X3_lean : GoodIn wsX3_settled wsX3_lean := goodIn_r _ [18, 11, 12, 13, 4, 14, 6, 19, 20, 21, 22, 23, 24, 25, 26] (by decide +kernel) (by decide +kernel)
set_option maxRecDepth 20000 in
theorem gX3_settled_X3_lean : GoodIn wsX3_settled (wsV RX3 62 RX3 yX3_lean wsX3_lean) := goodIn_app (goodIn_of _ (by decide +kernel)) ggX3_settled_X3_lean
theorem dX3_settled_0 : decode cX3_settled 0 = .ok (.iconst 0, 1) := by decide +kernel
theorem dX3_settled_1 : decode cX3_settled 1 = .ok (.istore_n 3, 1) := by decide +kernel
theorem dX3_settled_2 : decode cX3_settled 2 = .ok (.aload_n 0, 1) := by decide +kernel
theorem dX3_settled_3 : decode cX3_settled 3 = .ok (.aload_n 1, 1) := by decide +kernel
theorem dX3_settled_4 : decode cX3_settled 4 = .ok (.invokevirtual 58, 3) := by decide +kernel
theorem dX3_settled_7 : decode cX3_settled 7 = .ok (.istore 4, 2) := by decide +kernel
theorem dX3_settled_9 : decode cX3_settled 9 = .ok (.iload 4, 2) := by decide +kernel
theorem dX3_settled_11 : decode cX3_settled 11 = .ok (.iconst (-1), 1) := by decide +kernel
theorem dX3_settled_12 : decode cX3_settled 12 = .ok (.if_icmp .eq 29, 3) := by decide +kernel
theorem dX3_settled_15 : decode cX3_settled 15 = .ok (.iload_n 3, 1) := by decide +kernel
theorem dX3_settled_16 : decode cX3_settled 16 = .ok (.iload_n 2, 1) := by decide +kernel
theorem dX3_settled_17 : decode cX3_settled 17 = .ok (.if_icmp .ge 24, 3) := by decide +kernel
theorem dX3_settled_20 : decode cX3_settled 20 = .ok (.aload_n 0, 1) := by decide +kernel
theorem dX3_settled_21 : decode cX3_settled 21 = .ok (.aload_n 1, 1) := by decide +kernel
theorem dX3_settled_22 : decode cX3_settled 22 = .ok (.iload 4, 2) := by decide +kernel
theorem dX3_settled_24 : decode cX3_settled 24 = .ok (.iconst 1, 1) := by decide +kernel
theorem dX3_settled_25 : decode cX3_settled 25 = .ok (.invokevirtual 62, 3) := by decide +kernel
theorem dX3_settled_28 : decode cX3_settled 28 = .ok (.iinc 3 1, 3) := by decide +kernel
theorem dX3_settled_31 : decode cX3_settled 31 = .ok (.aload_n 0, 1) := by decide +kernel
theorem dX3_settled_32 : decode cX3_settled 32 = .ok (.aload_n 1, 1) := by decide +kernel
theorem dX3_settled_33 : decode cX3_settled 33 = .ok (.invokevirtual 58, 3) := by decide +kernel
theorem dX3_settled_36 : decode cX3_settled 36 = .ok (.istore 4, 2) := by decide +kernel
theorem dX3_settled_38 : decode cX3_settled 38 = .ok (.goto (-29), 3) := by decide +kernel
theorem dX3_settled_41 : decode cX3_settled 41 = .ok (.iload_n 3, 1) := by decide +kernel
theorem dX3_settled_42 : decode cX3_settled 42 = .ok (.ireturn, 1) := by decide +kernel
set_option maxRecDepth 20000 in
theorem ggX3_lay_X3_isIn : GoodIn wsX3_lay wsX3_isIn := goodIn_r _ [8] (by decide +kernel) (by decide +kernel)
set_option maxRecDepth 20000 in
theorem gX3_lay_X3_isIn : GoodIn wsX3_lay (va_wsS RX3 29 yX3_isIn wsX3_isIn) := goodIn_app (goodIn_of _ (by decide +kernel)) ggX3_lay_X3_isIn
set_option maxRecDepth 20000 in
theorem ggX3_lay_X3_no : GoodIn wsX3_lay wsX3_no := goodIn_r _ [12, 1, 13, 14, 15, 16, 17, 18, 19, 20] (by decide +kernel) (by decide +kernel)
set_option maxRecDepth 20000 in
theorem gX3_lay_X3_no : GoodIn wsX3_lay (wsV RX3 66 RX3 yX3_no wsX3_no) := goodIn_app (goodIn_of _ (by decide +kernel)) ggX3_lay_X3_no
theorem dX3_lay_0 : decode cX3_lay 0 = .ok (.aload_n 0, 1) := by decide +kernel
theorem dX3_lay_1 : decode cX3_lay 1 = .ok (.iconst 0, 1) := by decide +kernel
theorem dX3_lay_2 : decode cX3_lay 2 = .ok (.putfield 26, 3) := by decide +kernel
theorem dX3_lay_5 : decode cX3_lay 5 = .ok (.iload_n 1, 1) := by decide +kernel
theorem dX3_lay_6 : decode cX3_lay 6 = .ok (.iconst 3, 1) := by decide +kernel
theorem dX3_lay_7 : decode cX3_lay 7 = .ok (.bipush 12, 2) := by decide +kernel
theorem dX3_lay_9 : decode cX3_lay 9 = .ok (.invokestatic 29, 3) := by decide +kernel
theorem dX3_lay_12 : decode cX3_lay 12 = .ok (.ifCond .ne 9, 3) := by decide +kernel
theorem dX3_lay_15 : decode cX3_lay 15 = .ok (.aload_n 0, 1) := by decide +kernel
theorem dX3_lay_16 : decode cX3_lay 16 = .ok (.iconst 1, 1) := by decide +kernel
theorem dX3_lay_17 : decode cX3_lay 17 = .ok (.invokevirtual 66, 3) := by decide +kernel
theorem dX3_lay_20 : decode cX3_lay 20 = .ok (.ireturn, 1) := by decide +kernel
theorem dX3_lay_21 : decode cX3_lay 21 = .ok (.aload_n 0, 1) := by decide +kernel
theorem dX3_lay_22 : decode cX3_lay 22 = .ok (.getfield 7, 3) := by decide +kernel
theorem dX3_lay_25 : decode cX3_lay 25 = .ok (.istore_n 2, 1) := by decide +kernel
theorem dX3_lay_26 : decode cX3_lay 26 = .ok (.aload_n 0, 1) := by decide +kernel
theorem dX3_lay_27 : decode cX3_lay 27 = .ok (.iload_n 1, 1) := by decide +kernel
theorem dX3_lay_28 : decode cX3_lay 28 = .ok (.putfield 7, 3) := by decide +kernel
theorem dX3_lay_31 : decode cX3_lay 31 = .ok (.aload_n 0, 1) := by decide +kernel
theorem dX3_lay_32 : decode cX3_lay 32 = .ok (.iconst 0, 1) := by decide +kernel
theorem dX3_lay_33 : decode cX3_lay 33 = .ok (.putfield 33, 3) := by decide +kernel
theorem dX3_lay_36 : decode cX3_lay 36 = .ok (.iconst 0, 1) := by decide +kernel
theorem dX3_lay_37 : decode cX3_lay 37 = .ok (.istore_n 3, 1) := by decide +kernel
theorem dX3_lay_38 : decode cX3_lay 38 = .ok (.iload_n 3, 1) := by decide +kernel
theorem dX3_lay_39 : decode cX3_lay 39 = .ok (.bipush 12, 2) := by decide +kernel
theorem dX3_lay_41 : decode cX3_lay 41 = .ok (.if_icmp .ge 16, 3) := by decide +kernel
theorem dX3_lay_44 : decode cX3_lay 44 = .ok (.aload_n 0, 1) := by decide +kernel
theorem dX3_lay_45 : decode cX3_lay 45 = .ok (.getfield 13, 3) := by decide +kernel
theorem dX3_lay_48 : decode cX3_lay 48 = .ok (.iload_n 3, 1) := by decide +kernel
theorem dX3_lay_49 : decode cX3_lay 49 = .ok (.iconst 0, 1) := by decide +kernel
theorem dX3_lay_50 : decode cX3_lay 50 = .ok (.iastore, 1) := by decide +kernel
theorem dX3_lay_51 : decode cX3_lay 51 = .ok (.iinc 3 1, 3) := by decide +kernel
theorem dX3_lay_54 : decode cX3_lay 54 = .ok (.goto (-16), 3) := by decide +kernel
theorem dX3_lay_57 : decode cX3_lay 57 = .ok (.iload_n 2, 1) := by decide +kernel
theorem dX3_lay_58 : decode cX3_lay 58 = .ok (.ireturn, 1) := by decide +kernel
set_option maxRecDepth 20000 in
theorem ggX3_put_X3_isPlace : GoodIn wsX3_put wsX3_isPlace := goodIn_r _ [7, 8, 9, 10, 6, 11, 16, 17, 18, 19, 20, 21, 22, 23] (by decide +kernel) (by decide +kernel)
set_option maxRecDepth 20000 in
theorem gX3_put_X3_isPlace : GoodIn wsX3_put (wsV RX3 70 RX3 yX3_isPlace wsX3_isPlace) := goodIn_app (goodIn_of _ (by decide +kernel)) ggX3_put_X3_isPlace
set_option maxRecDepth 20000 in
theorem ggX3_put_X3_no : GoodIn wsX3_put wsX3_no := goodIn_r _ [15, 1, 16, 17, 18, 19, 20, 21, 22, 23] (by decide +kernel) (by decide +kernel)
set_option maxRecDepth 20000 in
theorem gX3_put_X3_no : GoodIn wsX3_put (wsV RX3 66 RX3 yX3_no wsX3_no) := goodIn_app (goodIn_of _ (by decide +kernel)) ggX3_put_X3_no
set_option maxRecDepth 20000 in
theorem ggX3_put_X3_isIn : GoodIn wsX3_put wsX3_isIn := goodIn_r _ [11] (by decide +kernel) (by decide +kernel)
set_option maxRecDepth 20000 in
theorem gX3_put_X3_isIn : GoodIn wsX3_put (va_wsS RX3 29 yX3_isIn wsX3_isIn) := goodIn_app (goodIn_of _ (by decide +kernel)) ggX3_put_X3_isIn
theorem dX3_put_0 : decode cX3_put 0 = .ok (.aload_n 0, 1) := by decide +kernel
theorem dX3_put_1 : decode cX3_put 1 = .ok (.iconst 0, 1) := by decide +kernel
theorem dX3_put_2 : decode cX3_put 2 = .ok (.putfield 26, 3) := by decide +kernel
theorem dX3_put_5 : decode cX3_put 5 = .ok (.aload_n 0, 1) := by decide +kernel
theorem dX3_put_6 : decode cX3_put 6 = .ok (.iload_n 1, 1) := by decide +kernel
theorem dX3_put_7 : decode cX3_put 7 = .ok (.invokevirtual 70, 3) := by decide +kernel
theorem dX3_put_10 : decode cX3_put 10 = .ok (.ifCond .ne 9, 3) := by decide +kernel
theorem dX3_put_13 : decode cX3_put 13 = .ok (.aload_n 0, 1) := by decide +kernel
theorem dX3_put_14 : decode cX3_put 14 = .ok (.iconst 1, 1) := by decide +kernel
theorem dX3_put_15 : decode cX3_put 15 = .ok (.invokevirtual 66, 3) := by decide +kernel
theorem dX3_put_18 : decode cX3_put 18 = .ok (.ireturn, 1) := by decide +kernel
theorem dX3_put_19 : decode cX3_put 19 = .ok (.iload_n 2, 1) := by decide +kernel
theorem dX3_put_20 : decode cX3_put 20 = .ok (.sipush (-999), 3) := by decide +kernel
theorem dX3_put_23 : decode cX3_put 23 = .ok (.sipush 999, 3) := by decide +kernel
theorem dX3_put_26 : decode cX3_put 26 = .ok (.invokestatic 29, 3) := by decide +kernel
theorem dX3_put_29 : decode cX3_put 29 = .ok (.ifCond .ne 9, 3) := by decide +kernel
theorem dX3_put_32 : decode cX3_put 32 = .ok (.aload_n 0, 1) := by decide +kernel
theorem dX3_put_33 : decode cX3_put 33 = .ok (.iconst 2, 1) := by decide +kernel
theorem dX3_put_34 : decode cX3_put 34 = .ok (.invokevirtual 66, 3) := by decide +kernel
theorem dX3_put_37 : decode cX3_put 37 = .ok (.ireturn, 1) := by decide +kernel
theorem dX3_put_38 : decode cX3_put 38 = .ok (.aload_n 0, 1) := by decide +kernel
theorem dX3_put_39 : decode cX3_put 39 = .ok (.getfield 13, 3) := by decide +kernel
theorem dX3_put_42 : decode cX3_put 42 = .ok (.iload_n 1, 1) := by decide +kernel
theorem dX3_put_43 : decode cX3_put 43 = .ok (.iaload, 1) := by decide +kernel
theorem dX3_put_44 : decode cX3_put 44 = .ok (.istore_n 3, 1) := by decide +kernel
theorem dX3_put_45 : decode cX3_put 45 = .ok (.aload_n 0, 1) := by decide +kernel
theorem dX3_put_46 : decode cX3_put 46 = .ok (.getfield 13, 3) := by decide +kernel
theorem dX3_put_49 : decode cX3_put 49 = .ok (.iload_n 1, 1) := by decide +kernel
theorem dX3_put_50 : decode cX3_put 50 = .ok (.iload_n 2, 1) := by decide +kernel
theorem dX3_put_51 : decode cX3_put 51 = .ok (.iastore, 1) := by decide +kernel
theorem dX3_put_52 : decode cX3_put 52 = .ok (.iload_n 3, 1) := by decide +kernel
theorem dX3_put_53 : decode cX3_put 53 = .ok (.ireturn, 1) := by decide +kernel
set_option maxRecDepth 20000 in
theorem ggX3_tip_X3_isPlace : GoodIn wsX3_tip wsX3_isPlace := goodIn_r _ [12, 13, 14, 15, 11, 16, 29, 30, 31, 32, 33, 34, 35, 36] (by decide +kernel) (by decide +kernel)
set_option maxRecDepth 20000 in
theorem gX3_tip_X3_isPlace : GoodIn wsX3_tip (wsV RX3 70 RX3 yX3_isPlace wsX3_isPlace) := goodIn_app (goodIn_of _ (by decide +kernel)) ggX3_tip_X3_isPlace
set_option maxRecDepth 20000 in
theorem ggX3_tip_X3_no : GoodIn wsX3_tip wsX3_no := goodIn_r _ [20, 1, 29, 30, 31, 32, 33, 34, 35, 36] (by decide +kernel) (by decide +kernel)
set_option maxRecDepth 20000 in
theorem gX3_tip_X3_no : GoodIn wsX3_tip (wsV RX3 66 RX3 yX3_no wsX3_no) := goodIn_app (goodIn_of _ (by decide +kernel)) ggX3_tip_X3_no
set_option maxRecDepth 20000 in
theorem ggX3_tip_X3_isIn : GoodIn wsX3_tip wsX3_isIn := goodIn_r _ [16] (by decide +kernel) (by decide +kernel)
set_option maxRecDepth 20000 in
theorem gX3_tip_X3_isIn : GoodIn wsX3_tip (va_wsS RX3 29 yX3_isIn wsX3_isIn) := goodIn_app (goodIn_of _ (by decide +kernel)) ggX3_tip_X3_isIn
set_option maxRecDepth 20000 in
theorem ggX3_tip_X3_lean : GoodIn wsX3_tip wsX3_lean := goodIn_r _ [24, 25, 26, 27, 11, 28, 13, 29, 30, 31, 32, 33, 34, 35, 36] (by decide +kernel) (by decide +kernel)
set_option maxRecDepth 20000 in
theorem gX3_tip_X3_lean : GoodIn wsX3_tip (wsV RX3 62 RX3 yX3_lean wsX3_lean) := goodIn_app (goodIn_of _ (by decide +kernel)) ggX3_tip_X3_lean
theorem dX3_tip_0 : decode cX3_tip 0 = .ok (.aload_n 0, 1) := by decide +kernel
theorem dX3_tip_1 : decode cX3_tip 1 = .ok (.iconst 0, 1) := by decide +kernel
theorem dX3_tip_2 : decode cX3_tip 2 = .ok (.putfield 26, 3) := by decide +kernel
theorem dX3_tip_5 : decode cX3_tip 5 = .ok (.aload_n 0, 1) := by decide +kernel
theorem dX3_tip_6 : decode cX3_tip 6 = .ok (.iload_n 1, 1) := by decide +kernel
theorem dX3_tip_7 : decode cX3_tip 7 = .ok (.invokevirtual 70, 3) := by decide +kernel
theorem dX3_tip_10 : decode cX3_tip 10 = .ok (.ifCond .ne 9, 3) := by decide +kernel
theorem dX3_tip_13 : decode cX3_tip 13 = .ok (.aload_n 0, 1) := by decide +kernel
theorem dX3_tip_14 : decode cX3_tip 14 = .ok (.iconst 1, 1) := by decide +kernel
theorem dX3_tip_15 : decode cX3_tip 15 = .ok (.invokevirtual 66, 3) := by decide +kernel
theorem dX3_tip_18 : decode cX3_tip 18 = .ok (.ireturn, 1) := by decide +kernel
theorem dX3_tip_19 : decode cX3_tip 19 = .ok (.iload_n 2, 1) := by decide +kernel
theorem dX3_tip_20 : decode cX3_tip 20 = .ok (.bipush (-50), 2) := by decide +kernel
theorem dX3_tip_22 : decode cX3_tip 22 = .ok (.bipush 50, 2) := by decide +kernel
theorem dX3_tip_24 : decode cX3_tip 24 = .ok (.invokestatic 29, 3) := by decide +kernel
theorem dX3_tip_27 : decode cX3_tip 27 = .ok (.ifCond .ne 9, 3) := by decide +kernel
theorem dX3_tip_30 : decode cX3_tip 30 = .ok (.aload_n 0, 1) := by decide +kernel
theorem dX3_tip_31 : decode cX3_tip 31 = .ok (.iconst 2, 1) := by decide +kernel
theorem dX3_tip_32 : decode cX3_tip 32 = .ok (.invokevirtual 66, 3) := by decide +kernel
theorem dX3_tip_35 : decode cX3_tip 35 = .ok (.ireturn, 1) := by decide +kernel
theorem dX3_tip_36 : decode cX3_tip 36 = .ok (.aload_n 0, 1) := by decide +kernel
theorem dX3_tip_37 : decode cX3_tip 37 = .ok (.aload_n 0, 1) := by decide +kernel
theorem dX3_tip_38 : decode cX3_tip 38 = .ok (.getfield 13, 3) := by decide +kernel
theorem dX3_tip_41 : decode cX3_tip 41 = .ok (.iload_n 1, 1) := by decide +kernel
theorem dX3_tip_42 : decode cX3_tip 42 = .ok (.iload_n 2, 1) := by decide +kernel
theorem dX3_tip_43 : decode cX3_tip 43 = .ok (.invokevirtual 62, 3) := by decide +kernel
theorem dX3_tip_46 : decode cX3_tip 46 = .ok (.aload_n 0, 1) := by decide +kernel
theorem dX3_tip_47 : decode cX3_tip 47 = .ok (.dup, 1) := by decide +kernel
theorem dX3_tip_48 : decode cX3_tip 48 = .ok (.getfield 74, 3) := by decide +kernel
theorem dX3_tip_51 : decode cX3_tip 51 = .ok (.iload_n 2, 1) := by decide +kernel
theorem dX3_tip_52 : decode cX3_tip 52 = .ok (.invokestatic 77, 3) := by decide +kernel
theorem dX3_tip_55 : decode cX3_tip 55 = .ok (.iadd, 1) := by decide +kernel
theorem dX3_tip_56 : decode cX3_tip 56 = .ok (.putfield 74, 3) := by decide +kernel
theorem dX3_tip_59 : decode cX3_tip 59 = .ok (.aload_n 0, 1) := by decide +kernel
theorem dX3_tip_60 : decode cX3_tip 60 = .ok (.getfield 13, 3) := by decide +kernel
theorem dX3_tip_63 : decode cX3_tip 63 = .ok (.iload_n 1, 1) := by decide +kernel
theorem dX3_tip_64 : decode cX3_tip 64 = .ok (.iaload, 1) := by decide +kernel
theorem dX3_tip_65 : decode cX3_tip 65 = .ok (.ireturn, 1) := by decide +kernel
set_option maxRecDepth 20000 in
theorem ggX3_turn_X3_ok : GoodIn wsX3_turn wsX3_ok := goodIn_r _ [7, 8, 9, 10, 11, 12, 13, 14, 15, 16] (by decide +kernel) (by decide +kernel)
set_option maxRecDepth 20000 in
theorem gX3_turn_X3_ok : GoodIn wsX3_turn (wsV RX3 80 RX3 yX3_ok wsX3_ok) := goodIn_app (goodIn_of _ (by decide +kernel)) ggX3_turn_X3_ok
theorem dX3_turn_0 : decode cX3_turn 0 = .ok (.aload_n 0, 1) := by decide +kernel
theorem dX3_turn_1 : decode cX3_turn 1 = .ok (.getfield 13, 3) := by decide +kernel
theorem dX3_turn_4 : decode cX3_turn 4 = .ok (.aload_n 0, 1) := by decide +kernel
theorem dX3_turn_5 : decode cX3_turn 5 = .ok (.getfield 7, 3) := by decide +kernel
theorem dX3_turn_8 : decode cX3_turn 8 = .ok (.iconst 1, 1) := by decide +kernel
theorem dX3_turn_9 : decode cX3_turn 9 = .ok (.isub, 1) := by decide +kernel
theorem dX3_turn_10 : decode cX3_turn 10 = .ok (.iaload, 1) := by decide +kernel
theorem dX3_turn_11 : decode cX3_turn 11 = .ok (.istore_n 1, 1) := by decide +kernel
theorem dX3_turn_12 : decode cX3_turn 12 = .ok (.aload_n 0, 1) := by decide +kernel
theorem dX3_turn_13 : decode cX3_turn 13 = .ok (.getfield 7, 3) := by decide +kernel
theorem dX3_turn_16 : decode cX3_turn 16 = .ok (.iconst 1, 1) := by decide +kernel
theorem dX3_turn_17 : decode cX3_turn 17 = .ok (.isub, 1) := by decide +kernel
theorem dX3_turn_18 : decode cX3_turn 18 = .ok (.istore_n 2, 1) := by decide +kernel
theorem dX3_turn_19 : decode cX3_turn 19 = .ok (.iload_n 2, 1) := by decide +kernel
theorem dX3_turn_20 : decode cX3_turn 20 = .ok (.ifCond .le 23, 3) := by decide +kernel
theorem dX3_turn_23 : decode cX3_turn 23 = .ok (.aload_n 0, 1) := by decide +kernel
theorem dX3_turn_24 : decode cX3_turn 24 = .ok (.getfield 13, 3) := by decide +kernel
theorem dX3_turn_27 : decode cX3_turn 27 = .ok (.iload_n 2, 1) := by decide +kernel
theorem dX3_turn_28 : decode cX3_turn 28 = .ok (.aload_n 0, 1) := by decide +kernel
theorem dX3_turn_29 : decode cX3_turn 29 = .ok (.getfield 13, 3) := by decide +kernel
theorem dX3_turn_32 : decode cX3_turn 32 = .ok (.iload_n 2, 1) := by decide +kernel
theorem dX3_turn_33 : decode cX3_turn 33 = .ok (.iconst 1, 1) := by decide +kernel
theorem dX3_turn_34 : decode cX3_turn 34 = .ok (.isub, 1) := by decide +kernel
theorem dX3_turn_35 : decode cX3_turn 35 = .ok (.iaload, 1) := by decide +kernel
theorem dX3_turn_36 : decode cX3_turn 36 = .ok (.iastore, 1) := by decide +kernel
theorem dX3_turn_37 : decode cX3_turn 37 = .ok (.iinc 2 (-1), 3) := by decide +kernel
theorem dX3_turn_40 : decode cX3_turn 40 = .ok (.goto (-21), 3) := by decide +kernel
theorem dX3_turn_43 : decode cX3_turn 43 = .ok (.aload_n 0, 1) := by decide +kernel
theorem dX3_turn_44 : decode cX3_turn 44 = .ok (.getfield 13, 3) := by decide +kernel
theorem dX3_turn_47 : decode cX3_turn 47 = .ok (.iconst 0, 1) := by decide +kernel
theorem dX3_turn_48 : decode cX3_turn 48 = .ok (.iload_n 1, 1) := by decide +kernel
theorem dX3_turn_49 : decode cX3_turn 49 = .ok (.iastore, 1) := by decide +kernel
theorem dX3_turn_50 : decode cX3_turn 50 = .ok (.aload_n 0, 1) := by decide +kernel
theorem dX3_turn_51 : decode cX3_turn 51 = .ok (.iload_n 1, 1) := by decide +kernel
theorem dX3_turn_52 : decode cX3_turn 52 = .ok (.invokevirtual 80, 3) := by decide +kernel
theorem dX3_turn_55 : decode cX3_turn 55 = .ok (.ireturn, 1) := by decide +kernel
set_option maxRecDepth 20000 in
theorem ggX3_keep_X3_no : GoodIn wsX3_keep wsX3_no := goodIn_r _ [13, 1, 14, 15, 16, 17, 18, 19, 20, 21] (by decide +kernel) (by decide +kernel)
set_option maxRecDepth 20000 in
theorem gX3_keep_X3_no : GoodIn wsX3_keep (wsV RX3 66 RX3 yX3_no wsX3_no) := goodIn_app (goodIn_of _ (by decide +kernel)) ggX3_keep_X3_no
theorem dX3_keep_0 : decode cX3_keep 0 = .ok (.aload_n 0, 1) := by decide +kernel
theorem dX3_keep_1 : decode cX3_keep 1 = .ok (.iconst 0, 1) := by decide +kernel
theorem dX3_keep_2 : decode cX3_keep 2 = .ok (.putfield 26, 3) := by decide +kernel
theorem dX3_keep_5 : decode cX3_keep 5 = .ok (.aload_n 0, 1) := by decide +kernel
theorem dX3_keep_6 : decode cX3_keep 6 = .ok (.getfield 33, 3) := by decide +kernel
theorem dX3_keep_9 : decode cX3_keep 9 = .ok (.bipush 6, 2) := by decide +kernel
theorem dX3_keep_11 : decode cX3_keep 11 = .ok (.if_icmp .ne 9, 3) := by decide +kernel
theorem dX3_keep_14 : decode cX3_keep 14 = .ok (.aload_n 0, 1) := by decide +kernel
theorem dX3_keep_15 : decode cX3_keep 15 = .ok (.iconst 1, 1) := by decide +kernel
theorem dX3_keep_16 : decode cX3_keep 16 = .ok (.invokevirtual 66, 3) := by decide +kernel
theorem dX3_keep_19 : decode cX3_keep 19 = .ok (.ireturn, 1) := by decide +kernel
theorem dX3_keep_20 : decode cX3_keep 20 = .ok (.aload_n 0, 1) := by decide +kernel
theorem dX3_keep_21 : decode cX3_keep 21 = .ok (.getfield 13, 3) := by decide +kernel
theorem dX3_keep_24 : decode cX3_keep 24 = .ok (.iconst 0, 1) := by decide +kernel
theorem dX3_keep_25 : decode cX3_keep 25 = .ok (.aload_n 0, 1) := by decide +kernel
theorem dX3_keep_26 : decode cX3_keep 26 = .ok (.getfield 20, 3) := by decide +kernel
theorem dX3_keep_29 : decode cX3_keep 29 = .ok (.bipush 12, 2) := by decide +kernel
theorem dX3_keep_31 : decode cX3_keep 31 = .ok (.aload_n 0, 1) := by decide +kernel
theorem dX3_keep_32 : decode cX3_keep 32 = .ok (.getfield 33, 3) := by decide +kernel
theorem dX3_keep_35 : decode cX3_keep 35 = .ok (.imul, 1) := by decide +kernel
theorem dX3_keep_36 : decode cX3_keep 36 = .ok (.bipush 12, 2) := by decide +kernel
theorem dX3_keep_38 : decode cX3_keep 38 = .ok (.invokestatic 40, 3) := by decide +kernel
theorem dX3_keep_41 : decode cX3_keep 41 = .ok (.aload_n 0, 1) := by decide +kernel
theorem dX3_keep_42 : decode cX3_keep 42 = .ok (.dup, 1) := by decide +kernel
theorem dX3_keep_43 : decode cX3_keep 43 = .ok (.getfield 33, 3) := by decide +kernel
theorem dX3_keep_46 : decode cX3_keep 46 = .ok (.iconst 1, 1) := by decide +kernel
theorem dX3_keep_47 : decode cX3_keep 47 = .ok (.iadd, 1) := by decide +kernel
theorem dX3_keep_48 : decode cX3_keep 48 = .ok (.putfield 33, 3) := by decide +kernel
theorem dX3_keep_51 : decode cX3_keep 51 = .ok (.aload_n 0, 1) := by decide +kernel
theorem dX3_keep_52 : decode cX3_keep 52 = .ok (.getfield 33, 3) := by decide +kernel
theorem dX3_keep_55 : decode cX3_keep 55 = .ok (.iconst 1, 1) := by decide +kernel
theorem dX3_keep_56 : decode cX3_keep 56 = .ok (.isub, 1) := by decide +kernel
theorem dX3_keep_57 : decode cX3_keep 57 = .ok (.ireturn, 1) := by decide +kernel
set_option maxRecDepth 20000 in
theorem ggX3_settle_X3_isIn : GoodIn wsX3_settle wsX3_isIn := goodIn_r _ [7] (by decide +kernel) (by decide +kernel)
set_option maxRecDepth 20000 in
theorem gX3_settle_X3_isIn : GoodIn wsX3_settle (va_wsS RX3 29 yX3_isIn wsX3_isIn) := goodIn_app (goodIn_of _ (by decide +kernel)) ggX3_settle_X3_isIn
set_option maxRecDepth 20000 in
theorem ggX3_settle_X3_no : GoodIn wsX3_settle wsX3_no := goodIn_r _ [11, 1, 33, 34, 35, 36, 37, 38, 39, 40] (by decide +kernel) (by decide +kernel)
set_option maxRecDepth 20000 in
theorem gX3_settle_X3_no : GoodIn wsX3_settle (wsV RX3 66 RX3 yX3_no wsX3_no) := goodIn_app (goodIn_of _ (by decide +kernel)) ggX3_settle_X3_no
set_option maxRecDepth 20000 in
theorem ggX3_settle_X3_settled : GoodIn wsX3_settle wsX3_settled := goodIn_r _ [15, 16, 17, 18, 6, 19, 20, 21, 22, 23, 24, 25, 26, 27, 28, 29, 30, 31, 32, 33, 34, 35, 36, 37, 38, 39, 40] (by decide +kernel) (by decide +kernel)
set_option maxRecDepth 20000 in
theorem gX3_settle_X3_settled : GoodIn wsX3_settle (wsV RX3 83 RX3 yX3_settled wsX3_settled) := goodIn_app (goodIn_of _ (by decide +kernel)) ggX3_settle_X3_settled
theorem dX3_settle_0 : decode cX3_settle 0 = .ok (.aload_n 0, 1) := by decide +kernel
theorem dX3_settle_1 : decode cX3_settle 1 = .ok (.iconst 0, 1) := by decide +kernel
theorem dX3_settle_2 : decode cX3_settle 2 = .ok (.putfield 26, 3) := by decide +kernel
theorem dX3_settle_5 : decode cX3_settle 5 = .ok (.iload_n 1, 1) := by decide +kernel
theorem dX3_settle_6 : decode cX3_settle 6 = .ok (.iconst 1, 1) := by decide +kernel
theorem dX3_settle_7 : decode cX3_settle 7 = .ok (.sipush 200, 3) := by decide +kernel
theorem dX3_settle_10 : decode cX3_settle 10 = .ok (.invokestatic 29, 3) := by decide +kernel
theorem dX3_settle_13 : decode cX3_settle 13 = .ok (.ifCond .ne 9, 3) := by decide +kernel
theorem dX3_settle_16 : decode cX3_settle 16 = .ok (.aload_n 0, 1) := by decide +kernel
theorem dX3_settle_17 : decode cX3_settle 17 = .ok (.iconst 1, 1) := by decide +kernel
theorem dX3_settle_18 : decode cX3_settle 18 = .ok (.invokevirtual 66, 3) := by decide +kernel
theorem dX3_settle_21 : decode cX3_settle 21 = .ok (.ireturn, 1) := by decide +kernel
theorem dX3_settle_22 : decode cX3_settle 22 = .ok (.aload_n 0, 1) := by decide +kernel
theorem dX3_settle_23 : decode cX3_settle 23 = .ok (.aload_n 0, 1) := by decide +kernel
theorem dX3_settle_24 : decode cX3_settle 24 = .ok (.getfield 13, 3) := by decide +kernel
theorem dX3_settle_27 : decode cX3_settle 27 = .ok (.iload_n 1, 1) := by decide +kernel
theorem dX3_settle_28 : decode cX3_settle 28 = .ok (.invokevirtual 83, 3) := by decide +kernel
theorem dX3_settle_31 : decode cX3_settle 31 = .ok (.istore_n 2, 1) := by decide +kernel
theorem dX3_settle_32 : decode cX3_settle 32 = .ok (.aload_n 0, 1) := by decide +kernel
theorem dX3_settle_33 : decode cX3_settle 33 = .ok (.dup, 1) := by decide +kernel
theorem dX3_settle_34 : decode cX3_settle 34 = .ok (.getfield 74, 3) := by decide +kernel
theorem dX3_settle_37 : decode cX3_settle 37 = .ok (.iload_n 2, 1) := by decide +kernel
theorem dX3_settle_38 : decode cX3_settle 38 = .ok (.iadd, 1) := by decide +kernel
theorem dX3_settle_39 : decode cX3_settle 39 = .ok (.putfield 74, 3) := by decide +kernel
theorem dX3_settle_42 : decode cX3_settle 42 = .ok (.iload_n 2, 1) := by decide +kernel
theorem dX3_settle_43 : decode cX3_settle 43 = .ok (.ireturn, 1) := by decide +kernel
set_option maxRecDepth 20000 in
theorem ggX3_places_X3_ok : GoodIn wsX3_places wsX3_ok := goodIn_r _ [6, 7, 8, 9, 10, 11, 12, 13, 14, 15] (by decide +kernel) (by decide +kernel)
set_option maxRecDepth 20000 in
theorem gX3_places_X3_ok : GoodIn wsX3_places (wsV RX3 80 RX3 yX3_ok wsX3_ok) := goodIn_app (goodIn_of _ (by decide +kernel)) ggX3_places_X3_ok
theorem dX3_places_0 : decode cX3_places 0 = .ok (.aload_n 0, 1) := by decide +kernel
theorem dX3_places_1 : decode cX3_places 1 = .ok (.aload_n 0, 1) := by decide +kernel
theorem dX3_places_2 : decode cX3_places 2 = .ok (.getfield 7, 3) := by decide +kernel
theorem dX3_places_5 : decode cX3_places 5 = .ok (.invokevirtual 80, 3) := by decide +kernel
theorem dX3_places_8 : decode cX3_places 8 = .ok (.ireturn, 1) := by decide +kernel
set_option maxRecDepth 20000 in
theorem ggX3_numberAt_X3_isPlace : GoodIn wsX3_numberAt wsX3_isPlace := goodIn_r _ [7, 8, 9, 10, 6, 11, 16, 17, 18, 19, 20, 21, 22, 23] (by decide +kernel) (by decide +kernel)
set_option maxRecDepth 20000 in
theorem gX3_numberAt_X3_isPlace : GoodIn wsX3_numberAt (wsV RX3 70 RX3 yX3_isPlace wsX3_isPlace) := goodIn_app (goodIn_of _ (by decide +kernel)) ggX3_numberAt_X3_isPlace
set_option maxRecDepth 20000 in
theorem ggX3_numberAt_X3_no : GoodIn wsX3_numberAt wsX3_no := goodIn_r _ [15, 1, 16, 17, 18, 19, 20, 21, 22, 23] (by decide +kernel) (by decide +kernel)
set_option maxRecDepth 20000 in
theorem gX3_numberAt_X3_no : GoodIn wsX3_numberAt (wsV RX3 66 RX3 yX3_no wsX3_no) := goodIn_app (goodIn_of _ (by decide +kernel)) ggX3_numberAt_X3_no
theorem dX3_numberAt_0 : decode cX3_numberAt 0 = .ok (.aload_n 0, 1) := by decide +kernel
theorem dX3_numberAt_1 : decode cX3_numberAt 1 = .ok (.iconst 0, 1) := by decide +kernel
theorem dX3_numberAt_2 : decode cX3_numberAt 2 = .ok (.putfield 26, 3) := by decide +kernel
theorem dX3_numberAt_5 : decode cX3_numberAt 5 = .ok (.aload_n 0, 1) := by decide +kernel
theorem dX3_numberAt_6 : decode cX3_numberAt 6 = .ok (.iload_n 1, 1) := by decide +kernel
theorem dX3_numberAt_7 : decode cX3_numberAt 7 = .ok (.invokevirtual 70, 3) := by decide +kernel
theorem dX3_numberAt_10 : decode cX3_numberAt 10 = .ok (.ifCond .eq 12, 3) := by decide +kernel
theorem dX3_numberAt_13 : decode cX3_numberAt 13 = .ok (.aload_n 0, 1) := by decide +kernel
theorem dX3_numberAt_14 : decode cX3_numberAt 14 = .ok (.getfield 13, 3) := by decide +kernel
theorem dX3_numberAt_17 : decode cX3_numberAt 17 = .ok (.iload_n 1, 1) := by decide +kernel
theorem dX3_numberAt_18 : decode cX3_numberAt 18 = .ok (.iaload, 1) := by decide +kernel
theorem dX3_numberAt_19 : decode cX3_numberAt 19 = .ok (.goto 8, 3) := by decide +kernel
theorem dX3_numberAt_22 : decode cX3_numberAt 22 = .ok (.aload_n 0, 1) := by decide +kernel
theorem dX3_numberAt_23 : decode cX3_numberAt 23 = .ok (.iconst 1, 1) := by decide +kernel
theorem dX3_numberAt_24 : decode cX3_numberAt 24 = .ok (.invokevirtual 66, 3) := by decide +kernel
theorem dX3_numberAt_27 : decode cX3_numberAt 27 = .ok (.ireturn, 1) := by decide +kernel
set_option maxRecDepth 20000 in
theorem ggX3_targets_X3_ok : GoodIn wsX3_targets wsX3_ok := goodIn_r _ [6, 7, 8, 9, 10, 11, 12, 13, 14, 15] (by decide +kernel) (by decide +kernel)
set_option maxRecDepth 20000 in
theorem gX3_targets_X3_ok : GoodIn wsX3_targets (wsV RX3 80 RX3 yX3_ok wsX3_ok) := goodIn_app (goodIn_of _ (by decide +kernel)) ggX3_targets_X3_ok
theorem dX3_targets_0 : decode cX3_targets 0 = .ok (.aload_n 0, 1) := by decide +kernel
theorem dX3_targets_1 : decode cX3_targets 1 = .ok (.aload_n 0, 1) := by decide +kernel
theorem dX3_targets_2 : decode cX3_targets 2 = .ok (.getfield 33, 3) := by decide +kernel
theorem dX3_targets_5 : decode cX3_targets 5 = .ok (.invokevirtual 80, 3) := by decide +kernel
theorem dX3_targets_8 : decode cX3_targets 8 = .ok (.ireturn, 1) := by decide +kernel
set_option maxRecDepth 20000 in
theorem ggX3_tips_X3_ok : GoodIn wsX3_tips wsX3_ok := goodIn_r _ [6, 7, 8, 9, 10, 11, 12, 13, 14, 15] (by decide +kernel) (by decide +kernel)
set_option maxRecDepth 20000 in
theorem gX3_tips_X3_ok : GoodIn wsX3_tips (wsV RX3 80 RX3 yX3_ok wsX3_ok) := goodIn_app (goodIn_of _ (by decide +kernel)) ggX3_tips_X3_ok
theorem dX3_tips_0 : decode cX3_tips 0 = .ok (.aload_n 0, 1) := by decide +kernel
theorem dX3_tips_1 : decode cX3_tips 1 = .ok (.aload_n 0, 1) := by decide +kernel
theorem dX3_tips_2 : decode cX3_tips 2 = .ok (.getfield 74, 3) := by decide +kernel
theorem dX3_tips_5 : decode cX3_tips 5 = .ok (.invokevirtual 80, 3) := by decide +kernel
theorem dX3_tips_8 : decode cX3_tips 8 = .ok (.ireturn, 1) := by decide +kernel
theorem dX3_sumOf_0 : decode cX3_sumOf 0 = .ok (.iconst 0, 1) := by decide +kernel
theorem dX3_sumOf_1 : decode cX3_sumOf 1 = .ok (.istore_n 1, 1) := by decide +kernel
theorem dX3_sumOf_2 : decode cX3_sumOf 2 = .ok (.iconst 0, 1) := by decide +kernel
theorem dX3_sumOf_3 : decode cX3_sumOf 3 = .ok (.istore_n 2, 1) := by decide +kernel
theorem dX3_sumOf_4 : decode cX3_sumOf 4 = .ok (.iload_n 2, 1) := by decide +kernel
theorem dX3_sumOf_5 : decode cX3_sumOf 5 = .ok (.aload_n 0, 1) := by decide +kernel
theorem dX3_sumOf_6 : decode cX3_sumOf 6 = .ok (.getfield 7, 3) := by decide +kernel
theorem dX3_sumOf_9 : decode cX3_sumOf 9 = .ok (.if_icmp .ge 18, 3) := by decide +kernel
theorem dX3_sumOf_12 : decode cX3_sumOf 12 = .ok (.iload_n 1, 1) := by decide +kernel
theorem dX3_sumOf_13 : decode cX3_sumOf 13 = .ok (.aload_n 0, 1) := by decide +kernel
theorem dX3_sumOf_14 : decode cX3_sumOf 14 = .ok (.getfield 13, 3) := by decide +kernel
theorem dX3_sumOf_17 : decode cX3_sumOf 17 = .ok (.iload_n 2, 1) := by decide +kernel
theorem dX3_sumOf_18 : decode cX3_sumOf 18 = .ok (.iaload, 1) := by decide +kernel
theorem dX3_sumOf_19 : decode cX3_sumOf 19 = .ok (.iadd, 1) := by decide +kernel
theorem dX3_sumOf_20 : decode cX3_sumOf 20 = .ok (.istore_n 1, 1) := by decide +kernel
theorem dX3_sumOf_21 : decode cX3_sumOf 21 = .ok (.iinc 2 1, 3) := by decide +kernel
theorem dX3_sumOf_24 : decode cX3_sumOf 24 = .ok (.goto (-20), 3) := by decide +kernel
theorem dX3_sumOf_27 : decode cX3_sumOf 27 = .ok (.iload_n 1, 1) := by decide +kernel
theorem dX3_sumOf_28 : decode cX3_sumOf 28 = .ok (.ireturn, 1) := by decide +kernel
set_option maxRecDepth 20000 in
theorem ggX3_sum_X3_sumOf : GoodIn wsX3_sum wsX3_sumOf := goodIn_r _ [5, 6, 7, 13, 14, 15, 16, 17, 18, 19, 20] (by decide +kernel) (by decide +kernel)
set_option maxRecDepth 20000 in
theorem gX3_sum_X3_sumOf : GoodIn wsX3_sum (wsV RX3 87 RX3 yX3_sumOf wsX3_sumOf) := goodIn_app (goodIn_of _ (by decide +kernel)) ggX3_sum_X3_sumOf
set_option maxRecDepth 20000 in
theorem ggX3_sum_X3_ok : GoodIn wsX3_sum wsX3_ok := goodIn_r _ [11, 12, 13, 14, 15, 16, 17, 18, 19, 20] (by decide +kernel) (by decide +kernel)
set_option maxRecDepth 20000 in
theorem gX3_sum_X3_ok : GoodIn wsX3_sum (wsV RX3 80 RX3 yX3_ok wsX3_ok) := goodIn_app (goodIn_of _ (by decide +kernel)) ggX3_sum_X3_ok
theorem dX3_sum_0 : decode cX3_sum 0 = .ok (.aload_n 0, 1) := by decide +kernel
theorem dX3_sum_1 : decode cX3_sum 1 = .ok (.aload_n 0, 1) := by decide +kernel
theorem dX3_sum_2 : decode cX3_sum 2 = .ok (.invokevirtual 87, 3) := by decide +kernel
theorem dX3_sum_5 : decode cX3_sum 5 = .ok (.invokevirtual 80, 3) := by decide +kernel
theorem dX3_sum_8 : decode cX3_sum 8 = .ok (.ireturn, 1) := by decide +kernel
set_option maxRecDepth 20000 in
theorem ggX3_turning_J9_floorMod_7cf53 : GoodIn wsX3_turning wsJ9_floorMod_7cf53 := goodIn_r _ [6] (by decide +kernel) (by decide +kernel)
set_option maxRecDepth 20000 in
theorem gX3_turning_J9_floorMod_7cf53 : GoodIn wsX3_turning (va_wsS RX3 91 yJ9_floorMod_7cf53 wsJ9_floorMod_7cf53) := goodIn_app (goodIn_of _ (by decide +kernel)) ggX3_turning_J9_floorMod_7cf53
theorem dX3_turning_0 : decode cX3_turning 0 = .ok (.iconst 0, 1) := by decide +kernel
theorem dX3_turning_1 : decode cX3_turning 1 = .ok (.istore_n 1, 1) := by decide +kernel
theorem dX3_turning_2 : decode cX3_turning 2 = .ok (.iconst 0, 1) := by decide +kernel
theorem dX3_turning_3 : decode cX3_turning 3 = .ok (.istore_n 2, 1) := by decide +kernel
theorem dX3_turning_4 : decode cX3_turning 4 = .ok (.iload_n 2, 1) := by decide +kernel
theorem dX3_turning_5 : decode cX3_turning 5 = .ok (.aload_n 0, 1) := by decide +kernel
theorem dX3_turning_6 : decode cX3_turning 6 = .ok (.getfield 7, 3) := by decide +kernel
theorem dX3_turning_9 : decode cX3_turning 9 = .ok (.if_icmp .ge 20, 3) := by decide +kernel
theorem dX3_turning_12 : decode cX3_turning 12 = .ok (.iload_n 1, 1) := by decide +kernel
theorem dX3_turning_13 : decode cX3_turning 13 = .ok (.iload_n 2, 1) := by decide +kernel
theorem dX3_turning_14 : decode cX3_turning 14 = .ok (.aload_n 0, 1) := by decide +kernel
theorem dX3_turning_15 : decode cX3_turning 15 = .ok (.getfield 13, 3) := by decide +kernel
theorem dX3_turning_18 : decode cX3_turning 18 = .ok (.iload_n 2, 1) := by decide +kernel
theorem dX3_turning_19 : decode cX3_turning 19 = .ok (.iaload, 1) := by decide +kernel
theorem dX3_turning_20 : decode cX3_turning 20 = .ok (.imul, 1) := by decide +kernel
theorem dX3_turning_21 : decode cX3_turning 21 = .ok (.iadd, 1) := by decide +kernel
theorem dX3_turning_22 : decode cX3_turning 22 = .ok (.istore_n 1, 1) := by decide +kernel
theorem dX3_turning_23 : decode cX3_turning 23 = .ok (.iinc 2 1, 3) := by decide +kernel
theorem dX3_turning_26 : decode cX3_turning 26 = .ok (.goto (-22), 3) := by decide +kernel
theorem dX3_turning_29 : decode cX3_turning 29 = .ok (.iload_n 1, 1) := by decide +kernel
theorem dX3_turning_30 : decode cX3_turning 30 = .ok (.aload_n 0, 1) := by decide +kernel
theorem dX3_turning_31 : decode cX3_turning 31 = .ok (.getfield 7, 3) := by decide +kernel
theorem dX3_turning_34 : decode cX3_turning 34 = .ok (.invokestatic 91, 3) := by decide +kernel
theorem dX3_turning_37 : decode cX3_turning 37 = .ok (.ireturn, 1) := by decide +kernel
set_option maxRecDepth 20000 in
theorem ggX3_moment_X3_turning : GoodIn wsX3_moment wsX3_turning := goodIn_r _ [5, 6, 7, 8, 9, 10, 11, 17, 18, 19, 20, 21, 22, 23, 24] (by decide +kernel) (by decide +kernel)
set_option maxRecDepth 20000 in
theorem gX3_moment_X3_turning : GoodIn wsX3_moment (wsV RX3 94 RX3 yX3_turning wsX3_turning) := goodIn_app (goodIn_of _ (by decide +kernel)) ggX3_moment_X3_turning
set_option maxRecDepth 20000 in
theorem ggX3_moment_X3_ok : GoodIn wsX3_moment wsX3_ok := goodIn_r _ [15, 16, 17, 18, 19, 20, 21, 22, 23, 24] (by decide +kernel) (by decide +kernel)
set_option maxRecDepth 20000 in
theorem gX3_moment_X3_ok : GoodIn wsX3_moment (wsV RX3 80 RX3 yX3_ok wsX3_ok) := goodIn_app (goodIn_of _ (by decide +kernel)) ggX3_moment_X3_ok
theorem dX3_moment_0 : decode cX3_moment 0 = .ok (.aload_n 0, 1) := by decide +kernel
theorem dX3_moment_1 : decode cX3_moment 1 = .ok (.aload_n 0, 1) := by decide +kernel
theorem dX3_moment_2 : decode cX3_moment 2 = .ok (.invokevirtual 94, 3) := by decide +kernel
theorem dX3_moment_5 : decode cX3_moment 5 = .ok (.invokevirtual 80, 3) := by decide +kernel
theorem dX3_moment_8 : decode cX3_moment 8 = .ok (.ireturn, 1) := by decide +kernel
set_option maxRecDepth 20000 in
theorem ggX3_spread_X3_wide : GoodIn wsX3_spread wsX3_wide := goodIn_r _ [6, 7, 8, 9, 10, 11, 12, 13, 14, 20, 21, 22, 23, 24, 25, 26, 27] (by decide +kernel) (by decide +kernel)
set_option maxRecDepth 20000 in
theorem gX3_spread_X3_wide : GoodIn wsX3_spread (wsV RX3 97 RX3 yX3_wide wsX3_wide) := goodIn_app (goodIn_of _ (by decide +kernel)) ggX3_spread_X3_wide
set_option maxRecDepth 20000 in
theorem ggX3_spread_X3_ok : GoodIn wsX3_spread wsX3_ok := goodIn_r _ [18, 19, 20, 21, 22, 23, 24, 25, 26, 27] (by decide +kernel) (by decide +kernel)
set_option maxRecDepth 20000 in
theorem gX3_spread_X3_ok : GoodIn wsX3_spread (wsV RX3 80 RX3 yX3_ok wsX3_ok) := goodIn_app (goodIn_of _ (by decide +kernel)) ggX3_spread_X3_ok
theorem dX3_spread_0 : decode cX3_spread 0 = .ok (.aload_n 0, 1) := by decide +kernel
theorem dX3_spread_1 : decode cX3_spread 1 = .ok (.aload_n 0, 1) := by decide +kernel
theorem dX3_spread_2 : decode cX3_spread 2 = .ok (.aload_n 0, 1) := by decide +kernel
theorem dX3_spread_3 : decode cX3_spread 3 = .ok (.getfield 13, 3) := by decide +kernel
theorem dX3_spread_6 : decode cX3_spread 6 = .ok (.invokevirtual 97, 3) := by decide +kernel
theorem dX3_spread_9 : decode cX3_spread 9 = .ok (.invokevirtual 80, 3) := by decide +kernel
theorem dX3_spread_12 : decode cX3_spread 12 = .ok (.ireturn, 1) := by decide +kernel
theorem dX3_top_0 : decode cX3_top 0 = .ok (.iconst 0, 1) := by decide +kernel
theorem dX3_top_1 : decode cX3_top 1 = .ok (.istore_n 1, 1) := by decide +kernel
theorem dX3_top_2 : decode cX3_top 2 = .ok (.iconst 1, 1) := by decide +kernel
theorem dX3_top_3 : decode cX3_top 3 = .ok (.istore_n 2, 1) := by decide +kernel
theorem dX3_top_4 : decode cX3_top 4 = .ok (.iload_n 2, 1) := by decide +kernel
theorem dX3_top_5 : decode cX3_top 5 = .ok (.aload_n 0, 1) := by decide +kernel
theorem dX3_top_6 : decode cX3_top 6 = .ok (.getfield 7, 3) := by decide +kernel
theorem dX3_top_9 : decode cX3_top 9 = .ok (.if_icmp .ge 26, 3) := by decide +kernel
theorem dX3_top_12 : decode cX3_top 12 = .ok (.aload_n 0, 1) := by decide +kernel
theorem dX3_top_13 : decode cX3_top 13 = .ok (.getfield 13, 3) := by decide +kernel
theorem dX3_top_16 : decode cX3_top 16 = .ok (.iload_n 2, 1) := by decide +kernel
theorem dX3_top_17 : decode cX3_top 17 = .ok (.iaload, 1) := by decide +kernel
theorem dX3_top_18 : decode cX3_top 18 = .ok (.aload_n 0, 1) := by decide +kernel
theorem dX3_top_19 : decode cX3_top 19 = .ok (.getfield 13, 3) := by decide +kernel
theorem dX3_top_22 : decode cX3_top 22 = .ok (.iload_n 1, 1) := by decide +kernel
theorem dX3_top_23 : decode cX3_top 23 = .ok (.iaload, 1) := by decide +kernel
theorem dX3_top_24 : decode cX3_top 24 = .ok (.if_icmp .le 5, 3) := by decide +kernel
theorem dX3_top_27 : decode cX3_top 27 = .ok (.iload_n 2, 1) := by decide +kernel
theorem dX3_top_28 : decode cX3_top 28 = .ok (.istore_n 1, 1) := by decide +kernel
theorem dX3_top_29 : decode cX3_top 29 = .ok (.iinc 2 1, 3) := by decide +kernel
theorem dX3_top_32 : decode cX3_top 32 = .ok (.goto (-28), 3) := by decide +kernel
theorem dX3_top_35 : decode cX3_top 35 = .ok (.iload_n 1, 1) := by decide +kernel
theorem dX3_top_36 : decode cX3_top 36 = .ok (.ireturn, 1) := by decide +kernel
set_option maxRecDepth 20000 in
theorem ggX3_highest_X3_top : GoodIn wsX3_highest wsX3_top := goodIn_r _ [5, 6, 7, 13, 14, 15, 16, 17, 18, 19, 20] (by decide +kernel) (by decide +kernel)
set_option maxRecDepth 20000 in
theorem gX3_highest_X3_top : GoodIn wsX3_highest (wsV RX3 100 RX3 yX3_top wsX3_top) := goodIn_app (goodIn_of _ (by decide +kernel)) ggX3_highest_X3_top
set_option maxRecDepth 20000 in
theorem ggX3_highest_X3_ok : GoodIn wsX3_highest wsX3_ok := goodIn_r _ [11, 12, 13, 14, 15, 16, 17, 18, 19, 20] (by decide +kernel) (by decide +kernel)
set_option maxRecDepth 20000 in
theorem gX3_highest_X3_ok : GoodIn wsX3_highest (wsV RX3 80 RX3 yX3_ok wsX3_ok) := goodIn_app (goodIn_of _ (by decide +kernel)) ggX3_highest_X3_ok
theorem dX3_highest_0 : decode cX3_highest 0 = .ok (.aload_n 0, 1) := by decide +kernel
theorem dX3_highest_1 : decode cX3_highest 1 = .ok (.aload_n 0, 1) := by decide +kernel
theorem dX3_highest_2 : decode cX3_highest 2 = .ok (.invokevirtual 100, 3) := by decide +kernel
theorem dX3_highest_5 : decode cX3_highest 5 = .ok (.invokevirtual 80, 3) := by decide +kernel
theorem dX3_highest_8 : decode cX3_highest 8 = .ok (.ireturn, 1) := by decide +kernel
set_option maxRecDepth 20000 in
theorem ggX3_isSteep_X3_isPlace : GoodIn wsX3_isSteep wsX3_isPlace := goodIn_r _ [7, 8, 9, 10, 6, 11, 24, 25, 26, 27, 28, 29, 30, 31] (by decide +kernel) (by decide +kernel)
set_option maxRecDepth 20000 in
theorem gX3_isSteep_X3_isPlace : GoodIn wsX3_isSteep (wsV RX3 70 RX3 yX3_isPlace wsX3_isPlace) := goodIn_app (goodIn_of _ (by decide +kernel)) ggX3_isSteep_X3_isPlace
set_option maxRecDepth 20000 in
theorem ggX3_isSteep_X3_isNot : GoodIn wsX3_isSteep wsX3_isNot := goodIn_r _ [15, 1, 24, 25, 26, 27, 28, 29, 30, 31] (by decide +kernel) (by decide +kernel)
set_option maxRecDepth 20000 in
theorem gX3_isSteep_X3_isNot : GoodIn wsX3_isSteep (wsV RX3 103 RX3 yX3_isNot wsX3_isNot) := goodIn_app (goodIn_of _ (by decide +kernel)) ggX3_isSteep_X3_isNot
set_option maxRecDepth 20000 in
theorem ggX3_isSteep_X3_steep : GoodIn wsX3_isSteep wsX3_steep := goodIn_r _ [19, 20, 21, 22, 6, 23, 8, 24, 25, 26, 27, 28, 29, 30, 31] (by decide +kernel) (by decide +kernel)
set_option maxRecDepth 20000 in
theorem gX3_isSteep_X3_steep : GoodIn wsX3_isSteep (wsV RX3 54 RX3 yX3_steep wsX3_steep) := goodIn_app (goodIn_of _ (by decide +kernel)) ggX3_isSteep_X3_steep
theorem dX3_isSteep_0 : decode cX3_isSteep 0 = .ok (.aload_n 0, 1) := by decide +kernel
theorem dX3_isSteep_1 : decode cX3_isSteep 1 = .ok (.iload_n 1, 1) := by decide +kernel
theorem dX3_isSteep_2 : decode cX3_isSteep 2 = .ok (.invokevirtual 70, 3) := by decide +kernel
theorem dX3_isSteep_5 : decode cX3_isSteep 5 = .ok (.ifCond .ne 9, 3) := by decide +kernel
theorem dX3_isSteep_8 : decode cX3_isSteep 8 = .ok (.aload_n 0, 1) := by decide +kernel
theorem dX3_isSteep_9 : decode cX3_isSteep 9 = .ok (.iconst 1, 1) := by decide +kernel
theorem dX3_isSteep_10 : decode cX3_isSteep 10 = .ok (.invokevirtual 103, 3) := by decide +kernel
theorem dX3_isSteep_13 : decode cX3_isSteep 13 = .ok (.ireturn, 1) := by decide +kernel
theorem dX3_isSteep_14 : decode cX3_isSteep 14 = .ok (.aload_n 0, 1) := by decide +kernel
theorem dX3_isSteep_15 : decode cX3_isSteep 15 = .ok (.iconst 0, 1) := by decide +kernel
theorem dX3_isSteep_16 : decode cX3_isSteep 16 = .ok (.putfield 26, 3) := by decide +kernel
theorem dX3_isSteep_19 : decode cX3_isSteep 19 = .ok (.aload_n 0, 1) := by decide +kernel
theorem dX3_isSteep_20 : decode cX3_isSteep 20 = .ok (.aload_n 0, 1) := by decide +kernel
theorem dX3_isSteep_21 : decode cX3_isSteep 21 = .ok (.getfield 13, 3) := by decide +kernel
theorem dX3_isSteep_24 : decode cX3_isSteep 24 = .ok (.iload_n 1, 1) := by decide +kernel
theorem dX3_isSteep_25 : decode cX3_isSteep 25 = .ok (.invokevirtual 54, 3) := by decide +kernel
theorem dX3_isSteep_28 : decode cX3_isSteep 28 = .ok (.ireturn, 1) := by decide +kernel
set_option maxRecDepth 20000 in
theorem ggX3_manySteep_X3_steep : GoodIn wsX3_manySteep wsX3_steep := goodIn_r _ [7, 8, 9, 10, 6, 11, 1, 12, 13, 14, 15, 16, 17, 18, 19] (by decide +kernel) (by decide +kernel)
set_option maxRecDepth 20000 in
theorem gX3_manySteep_X3_steep : GoodIn wsX3_manySteep (wsV RX3 54 RX3 yX3_steep wsX3_steep) := goodIn_app (goodIn_of _ (by decide +kernel)) ggX3_manySteep_X3_steep
theorem dX3_manySteep_0 : decode cX3_manySteep 0 = .ok (.iconst 0, 1) := by decide +kernel
theorem dX3_manySteep_1 : decode cX3_manySteep 1 = .ok (.istore_n 1, 1) := by decide +kernel
theorem dX3_manySteep_2 : decode cX3_manySteep 2 = .ok (.iconst 0, 1) := by decide +kernel
theorem dX3_manySteep_3 : decode cX3_manySteep 3 = .ok (.istore_n 2, 1) := by decide +kernel
theorem dX3_manySteep_4 : decode cX3_manySteep 4 = .ok (.iload_n 2, 1) := by decide +kernel
theorem dX3_manySteep_5 : decode cX3_manySteep 5 = .ok (.aload_n 0, 1) := by decide +kernel
theorem dX3_manySteep_6 : decode cX3_manySteep 6 = .ok (.getfield 7, 3) := by decide +kernel
theorem dX3_manySteep_9 : decode cX3_manySteep 9 = .ok (.if_icmp .ge 29, 3) := by decide +kernel
theorem dX3_manySteep_12 : decode cX3_manySteep 12 = .ok (.iload_n 1, 1) := by decide +kernel
theorem dX3_manySteep_13 : decode cX3_manySteep 13 = .ok (.aload_n 0, 1) := by decide +kernel
theorem dX3_manySteep_14 : decode cX3_manySteep 14 = .ok (.aload_n 0, 1) := by decide +kernel
theorem dX3_manySteep_15 : decode cX3_manySteep 15 = .ok (.getfield 13, 3) := by decide +kernel
theorem dX3_manySteep_18 : decode cX3_manySteep 18 = .ok (.iload_n 2, 1) := by decide +kernel
theorem dX3_manySteep_19 : decode cX3_manySteep 19 = .ok (.invokevirtual 54, 3) := by decide +kernel
theorem dX3_manySteep_22 : decode cX3_manySteep 22 = .ok (.ifCond .eq 7, 3) := by decide +kernel
theorem dX3_manySteep_25 : decode cX3_manySteep 25 = .ok (.iconst 1, 1) := by decide +kernel
theorem dX3_manySteep_26 : decode cX3_manySteep 26 = .ok (.goto 4, 3) := by decide +kernel
theorem dX3_manySteep_29 : decode cX3_manySteep 29 = .ok (.iconst 0, 1) := by decide +kernel
theorem dX3_manySteep_30 : decode cX3_manySteep 30 = .ok (.iadd, 1) := by decide +kernel
theorem dX3_manySteep_31 : decode cX3_manySteep 31 = .ok (.istore_n 1, 1) := by decide +kernel
theorem dX3_manySteep_32 : decode cX3_manySteep 32 = .ok (.iinc 2 1, 3) := by decide +kernel
theorem dX3_manySteep_35 : decode cX3_manySteep 35 = .ok (.goto (-31), 3) := by decide +kernel
theorem dX3_manySteep_38 : decode cX3_manySteep 38 = .ok (.iload_n 1, 1) := by decide +kernel
theorem dX3_manySteep_39 : decode cX3_manySteep 39 = .ok (.ireturn, 1) := by decide +kernel
set_option maxRecDepth 20000 in
theorem ggX3_steepPlaces_X3_manySteep : GoodIn wsX3_steepPlaces wsX3_manySteep := goodIn_r _ [5, 6, 7, 8, 9, 10, 4, 11, 12, 13, 14, 15, 21, 22, 23, 24, 25, 26, 27, 28] (by decide +kernel) (by decide +kernel)
set_option maxRecDepth 20000 in
theorem gX3_steepPlaces_X3_manySteep : GoodIn wsX3_steepPlaces (wsV RX3 106 RX3 yX3_manySteep wsX3_manySteep) := goodIn_app (goodIn_of _ (by decide +kernel)) ggX3_steepPlaces_X3_manySteep
set_option maxRecDepth 20000 in
theorem ggX3_steepPlaces_X3_ok : GoodIn wsX3_steepPlaces wsX3_ok := goodIn_r _ [19, 20, 21, 22, 23, 24, 25, 26, 27, 28] (by decide +kernel) (by decide +kernel)
set_option maxRecDepth 20000 in
theorem gX3_steepPlaces_X3_ok : GoodIn wsX3_steepPlaces (wsV RX3 80 RX3 yX3_ok wsX3_ok) := goodIn_app (goodIn_of _ (by decide +kernel)) ggX3_steepPlaces_X3_ok
theorem dX3_steepPlaces_0 : decode cX3_steepPlaces 0 = .ok (.aload_n 0, 1) := by decide +kernel
theorem dX3_steepPlaces_1 : decode cX3_steepPlaces 1 = .ok (.aload_n 0, 1) := by decide +kernel
theorem dX3_steepPlaces_2 : decode cX3_steepPlaces 2 = .ok (.invokevirtual 106, 3) := by decide +kernel
theorem dX3_steepPlaces_5 : decode cX3_steepPlaces 5 = .ok (.invokevirtual 80, 3) := by decide +kernel
theorem dX3_steepPlaces_8 : decode cX3_steepPlaces 8 = .ok (.ireturn, 1) := by decide +kernel
set_option maxRecDepth 20000 in
theorem ggX3_nextToTip_X3_firstSteep : GoodIn wsX3_nextToTip wsX3_firstSteep := goodIn_r _ [6, 7, 8, 9, 10, 5, 11, 12, 13, 14, 15, 21, 22, 23, 24, 25, 26, 27, 28] (by decide +kernel) (by decide +kernel)
set_option maxRecDepth 20000 in
theorem gX3_nextToTip_X3_firstSteep : GoodIn wsX3_nextToTip (wsV RX3 58 RX3 yX3_firstSteep wsX3_firstSteep) := goodIn_app (goodIn_of _ (by decide +kernel)) ggX3_nextToTip_X3_firstSteep
set_option maxRecDepth 20000 in
theorem ggX3_nextToTip_X3_ok : GoodIn wsX3_nextToTip wsX3_ok := goodIn_r _ [19, 20, 21, 22, 23, 24, 25, 26, 27, 28] (by decide +kernel) (by decide +kernel)
set_option maxRecDepth 20000 in
theorem gX3_nextToTip_X3_ok : GoodIn wsX3_nextToTip (wsV RX3 80 RX3 yX3_ok wsX3_ok) := goodIn_app (goodIn_of _ (by decide +kernel)) ggX3_nextToTip_X3_ok
theorem dX3_nextToTip_0 : decode cX3_nextToTip 0 = .ok (.aload_n 0, 1) := by decide +kernel
theorem dX3_nextToTip_1 : decode cX3_nextToTip 1 = .ok (.aload_n 0, 1) := by decide +kernel
theorem dX3_nextToTip_2 : decode cX3_nextToTip 2 = .ok (.aload_n 0, 1) := by decide +kernel
theorem dX3_nextToTip_3 : decode cX3_nextToTip 3 = .ok (.getfield 13, 3) := by decide +kernel
theorem dX3_nextToTip_6 : decode cX3_nextToTip 6 = .ok (.invokevirtual 58, 3) := by decide +kernel
theorem dX3_nextToTip_9 : decode cX3_nextToTip 9 = .ok (.invokevirtual 80, 3) := by decide +kernel
theorem dX3_nextToTip_12 : decode cX3_nextToTip 12 = .ok (.ireturn, 1) := by decide +kernel
set_option maxRecDepth 20000 in
theorem ggX3_tiltOn_X3_on : GoodIn wsX3_tiltOn wsX3_on := goodIn_r _ [7, 1, 8, 9, 10, 11, 12, 13, 14, 15] (by decide +kernel) (by decide +kernel)
set_option maxRecDepth 20000 in
theorem gX3_tiltOn_X3_on : GoodIn wsX3_tiltOn (wsV RX3 36 RX3 yX3_on wsX3_on) := goodIn_app (goodIn_of _ (by decide +kernel)) ggX3_tiltOn_X3_on
theorem dX3_tiltOn_0 : decode cX3_tiltOn 0 = .ok (.iconst 0, 1) := by decide +kernel
theorem dX3_tiltOn_1 : decode cX3_tiltOn 1 = .ok (.istore_n 2, 1) := by decide +kernel
theorem dX3_tiltOn_2 : decode cX3_tiltOn 2 = .ok (.iconst 1, 1) := by decide +kernel
theorem dX3_tiltOn_3 : decode cX3_tiltOn 3 = .ok (.istore_n 3, 1) := by decide +kernel
theorem dX3_tiltOn_4 : decode cX3_tiltOn 4 = .ok (.iconst 2, 1) := by decide +kernel
theorem dX3_tiltOn_5 : decode cX3_tiltOn 5 = .ok (.iload_n 3, 1) := by decide +kernel
theorem dX3_tiltOn_6 : decode cX3_tiltOn 6 = .ok (.imul, 1) := by decide +kernel
theorem dX3_tiltOn_7 : decode cX3_tiltOn 7 = .ok (.aload_n 0, 1) := by decide +kernel
theorem dX3_tiltOn_8 : decode cX3_tiltOn 8 = .ok (.getfield 7, 3) := by decide +kernel
theorem dX3_tiltOn_11 : decode cX3_tiltOn 11 = .ok (.if_icmp .ge 38, 3) := by decide +kernel
theorem dX3_tiltOn_14 : decode cX3_tiltOn 14 = .ok (.iload_n 2, 1) := by decide +kernel
theorem dX3_tiltOn_15 : decode cX3_tiltOn 15 = .ok (.iload_n 3, 1) := by decide +kernel
theorem dX3_tiltOn_16 : decode cX3_tiltOn 16 = .ok (.aload_n 0, 1) := by decide +kernel
theorem dX3_tiltOn_17 : decode cX3_tiltOn 17 = .ok (.getfield 13, 3) := by decide +kernel
theorem dX3_tiltOn_20 : decode cX3_tiltOn 20 = .ok (.aload_n 0, 1) := by decide +kernel
theorem dX3_tiltOn_21 : decode cX3_tiltOn 21 = .ok (.iload_n 1, 1) := by decide +kernel
theorem dX3_tiltOn_22 : decode cX3_tiltOn 22 = .ok (.iload_n 3, 1) := by decide +kernel
theorem dX3_tiltOn_23 : decode cX3_tiltOn 23 = .ok (.invokevirtual 36, 3) := by decide +kernel
theorem dX3_tiltOn_26 : decode cX3_tiltOn 26 = .ok (.iaload, 1) := by decide +kernel
theorem dX3_tiltOn_27 : decode cX3_tiltOn 27 = .ok (.aload_n 0, 1) := by decide +kernel
theorem dX3_tiltOn_28 : decode cX3_tiltOn 28 = .ok (.getfield 13, 3) := by decide +kernel
theorem dX3_tiltOn_31 : decode cX3_tiltOn 31 = .ok (.aload_n 0, 1) := by decide +kernel
theorem dX3_tiltOn_32 : decode cX3_tiltOn 32 = .ok (.iload_n 1, 1) := by decide +kernel
theorem dX3_tiltOn_33 : decode cX3_tiltOn 33 = .ok (.iload_n 3, 1) := by decide +kernel
theorem dX3_tiltOn_34 : decode cX3_tiltOn 34 = .ok (.ineg, 1) := by decide +kernel
theorem dX3_tiltOn_35 : decode cX3_tiltOn 35 = .ok (.invokevirtual 36, 3) := by decide +kernel
theorem dX3_tiltOn_38 : decode cX3_tiltOn 38 = .ok (.iaload, 1) := by decide +kernel
theorem dX3_tiltOn_39 : decode cX3_tiltOn 39 = .ok (.isub, 1) := by decide +kernel
theorem dX3_tiltOn_40 : decode cX3_tiltOn 40 = .ok (.imul, 1) := by decide +kernel
theorem dX3_tiltOn_41 : decode cX3_tiltOn 41 = .ok (.iadd, 1) := by decide +kernel
theorem dX3_tiltOn_42 : decode cX3_tiltOn 42 = .ok (.istore_n 2, 1) := by decide +kernel
theorem dX3_tiltOn_43 : decode cX3_tiltOn 43 = .ok (.iinc 3 1, 3) := by decide +kernel
theorem dX3_tiltOn_46 : decode cX3_tiltOn 46 = .ok (.goto (-42), 3) := by decide +kernel
theorem dX3_tiltOn_49 : decode cX3_tiltOn 49 = .ok (.iload_n 2, 1) := by decide +kernel
theorem dX3_tiltOn_50 : decode cX3_tiltOn 50 = .ok (.ireturn, 1) := by decide +kernel
set_option maxRecDepth 20000 in
theorem ggX3_tilt_X3_isPlace : GoodIn wsX3_tilt wsX3_isPlace := goodIn_r _ [6, 7, 8, 9, 5, 10, 24, 25, 26, 27, 28, 29, 30, 31] (by decide +kernel) (by decide +kernel)
set_option maxRecDepth 20000 in
theorem gX3_tilt_X3_isPlace : GoodIn wsX3_tilt (wsV RX3 70 RX3 yX3_isPlace wsX3_isPlace) := goodIn_app (goodIn_of _ (by decide +kernel)) ggX3_tilt_X3_isPlace
set_option maxRecDepth 20000 in
theorem ggX3_tilt_X3_tiltOn : GoodIn wsX3_tilt wsX3_tiltOn := goodIn_r _ [14, 7, 15, 16, 17, 18, 5, 19, 24, 25, 26, 27, 28, 29, 30, 31] (by decide +kernel) (by decide +kernel)
set_option maxRecDepth 20000 in
theorem gX3_tilt_X3_tiltOn : GoodIn wsX3_tilt (wsV RX3 109 RX3 yX3_tiltOn wsX3_tiltOn) := goodIn_app (goodIn_of _ (by decide +kernel)) ggX3_tilt_X3_tiltOn
set_option maxRecDepth 20000 in
theorem ggX3_tilt_X3_no : GoodIn wsX3_tilt wsX3_no := goodIn_r _ [23, 1, 24, 25, 26, 27, 28, 29, 30, 31] (by decide +kernel) (by decide +kernel)
set_option maxRecDepth 20000 in
theorem gX3_tilt_X3_no : GoodIn wsX3_tilt (wsV RX3 66 RX3 yX3_no wsX3_no) := goodIn_app (goodIn_of _ (by decide +kernel)) ggX3_tilt_X3_no
theorem dX3_tilt_0 : decode cX3_tilt 0 = .ok (.aload_n 0, 1) := by decide +kernel
theorem dX3_tilt_1 : decode cX3_tilt 1 = .ok (.iconst 0, 1) := by decide +kernel
theorem dX3_tilt_2 : decode cX3_tilt 2 = .ok (.putfield 26, 3) := by decide +kernel
theorem dX3_tilt_5 : decode cX3_tilt 5 = .ok (.aload_n 0, 1) := by decide +kernel
theorem dX3_tilt_6 : decode cX3_tilt 6 = .ok (.iload_n 1, 1) := by decide +kernel
theorem dX3_tilt_7 : decode cX3_tilt 7 = .ok (.invokevirtual 70, 3) := by decide +kernel
theorem dX3_tilt_10 : decode cX3_tilt 10 = .ok (.ifCond .eq 11, 3) := by decide +kernel
theorem dX3_tilt_13 : decode cX3_tilt 13 = .ok (.aload_n 0, 1) := by decide +kernel
theorem dX3_tilt_14 : decode cX3_tilt 14 = .ok (.iload_n 1, 1) := by decide +kernel
theorem dX3_tilt_15 : decode cX3_tilt 15 = .ok (.invokevirtual 109, 3) := by decide +kernel
theorem dX3_tilt_18 : decode cX3_tilt 18 = .ok (.goto 8, 3) := by decide +kernel
theorem dX3_tilt_21 : decode cX3_tilt 21 = .ok (.aload_n 0, 1) := by decide +kernel
theorem dX3_tilt_22 : decode cX3_tilt 22 = .ok (.iconst 1, 1) := by decide +kernel
theorem dX3_tilt_23 : decode cX3_tilt 23 = .ok (.invokevirtual 66, 3) := by decide +kernel
theorem dX3_tilt_26 : decode cX3_tilt 26 = .ok (.ireturn, 1) := by decide +kernel
set_option maxRecDepth 20000 in
theorem ggX3_level_X3_tiltOn : GoodIn wsX3_level wsX3_tiltOn := goodIn_r _ [6, 1, 7, 8, 9, 10, 5, 11, 12, 13, 14, 15, 16, 17, 18, 19] (by decide +kernel) (by decide +kernel)
set_option maxRecDepth 20000 in
theorem gX3_level_X3_tiltOn : GoodIn wsX3_level (wsV RX3 109 RX3 yX3_tiltOn wsX3_tiltOn) := goodIn_app (goodIn_of _ (by decide +kernel)) ggX3_level_X3_tiltOn
theorem dX3_level_0 : decode cX3_level 0 = .ok (.iconst 0, 1) := by decide +kernel
theorem dX3_level_1 : decode cX3_level 1 = .ok (.istore_n 1, 1) := by decide +kernel
theorem dX3_level_2 : decode cX3_level 2 = .ok (.iconst 0, 1) := by decide +kernel
theorem dX3_level_3 : decode cX3_level 3 = .ok (.istore_n 2, 1) := by decide +kernel
theorem dX3_level_4 : decode cX3_level 4 = .ok (.iload_n 2, 1) := by decide +kernel
theorem dX3_level_5 : decode cX3_level 5 = .ok (.aload_n 0, 1) := by decide +kernel
theorem dX3_level_6 : decode cX3_level 6 = .ok (.getfield 7, 3) := by decide +kernel
theorem dX3_level_9 : decode cX3_level 9 = .ok (.if_icmp .ge 25, 3) := by decide +kernel
theorem dX3_level_12 : decode cX3_level 12 = .ok (.iload_n 1, 1) := by decide +kernel
theorem dX3_level_13 : decode cX3_level 13 = .ok (.aload_n 0, 1) := by decide +kernel
theorem dX3_level_14 : decode cX3_level 14 = .ok (.iload_n 2, 1) := by decide +kernel
theorem dX3_level_15 : decode cX3_level 15 = .ok (.invokevirtual 109, 3) := by decide +kernel
theorem dX3_level_18 : decode cX3_level 18 = .ok (.ifCond .ne 7, 3) := by decide +kernel
theorem dX3_level_21 : decode cX3_level 21 = .ok (.iconst 1, 1) := by decide +kernel
theorem dX3_level_22 : decode cX3_level 22 = .ok (.goto 4, 3) := by decide +kernel
theorem dX3_level_25 : decode cX3_level 25 = .ok (.iconst 0, 1) := by decide +kernel
theorem dX3_level_26 : decode cX3_level 26 = .ok (.iadd, 1) := by decide +kernel
theorem dX3_level_27 : decode cX3_level 27 = .ok (.istore_n 1, 1) := by decide +kernel
theorem dX3_level_28 : decode cX3_level 28 = .ok (.iinc 2 1, 3) := by decide +kernel
theorem dX3_level_31 : decode cX3_level 31 = .ok (.goto (-27), 3) := by decide +kernel
theorem dX3_level_34 : decode cX3_level 34 = .ok (.iload_n 1, 1) := by decide +kernel
theorem dX3_level_35 : decode cX3_level 35 = .ok (.ireturn, 1) := by decide +kernel
set_option maxRecDepth 20000 in
theorem ggX3_levelAxes_X3_level : GoodIn wsX3_levelAxes wsX3_level := goodIn_r _ [5, 6, 7, 8, 9, 4, 10, 11, 12, 13, 14, 15, 21, 22, 23, 24, 25, 26, 27, 28] (by decide +kernel) (by decide +kernel)
set_option maxRecDepth 20000 in
theorem gX3_levelAxes_X3_level : GoodIn wsX3_levelAxes (wsV RX3 112 RX3 yX3_level wsX3_level) := goodIn_app (goodIn_of _ (by decide +kernel)) ggX3_levelAxes_X3_level
set_option maxRecDepth 20000 in
theorem ggX3_levelAxes_X3_ok : GoodIn wsX3_levelAxes wsX3_ok := goodIn_r _ [19, 20, 21, 22, 23, 24, 25, 26, 27, 28] (by decide +kernel) (by decide +kernel)
set_option maxRecDepth 20000 in
theorem gX3_levelAxes_X3_ok : GoodIn wsX3_levelAxes (wsV RX3 80 RX3 yX3_ok wsX3_ok) := goodIn_app (goodIn_of _ (by decide +kernel)) ggX3_levelAxes_X3_ok
theorem dX3_levelAxes_0 : decode cX3_levelAxes 0 = .ok (.aload_n 0, 1) := by decide +kernel
theorem dX3_levelAxes_1 : decode cX3_levelAxes 1 = .ok (.aload_n 0, 1) := by decide +kernel
theorem dX3_levelAxes_2 : decode cX3_levelAxes 2 = .ok (.invokevirtual 112, 3) := by decide +kernel
theorem dX3_levelAxes_5 : decode cX3_levelAxes 5 = .ok (.invokevirtual 80, 3) := by decide +kernel
theorem dX3_levelAxes_8 : decode cX3_levelAxes 8 = .ok (.ireturn, 1) := by decide +kernel
set_option maxRecDepth 20000 in
theorem ggX3_flattest_X3_tiltOn : GoodIn wsX3_flattest wsX3_tiltOn := goodIn_r _ [10, 1, 11, 12, 13, 14, 9, 15, 16, 17, 18, 19, 20, 21, 22, 23] (by decide +kernel) (by decide +kernel)
set_option maxRecDepth 20000 in
theorem gX3_flattest_X3_tiltOn : GoodIn wsX3_flattest (wsV RX3 109 RX3 yX3_tiltOn wsX3_tiltOn) := goodIn_app (goodIn_of _ (by decide +kernel)) ggX3_flattest_X3_tiltOn
theorem dX3_flattest_0 : decode cX3_flattest 0 = .ok (.iconst 0, 1) := by decide +kernel
theorem dX3_flattest_1 : decode cX3_flattest 1 = .ok (.istore_n 1, 1) := by decide +kernel
theorem dX3_flattest_2 : decode cX3_flattest 2 = .ok (.iconst 1, 1) := by decide +kernel
theorem dX3_flattest_3 : decode cX3_flattest 3 = .ok (.istore_n 2, 1) := by decide +kernel
theorem dX3_flattest_4 : decode cX3_flattest 4 = .ok (.iload_n 2, 1) := by decide +kernel
theorem dX3_flattest_5 : decode cX3_flattest 5 = .ok (.aload_n 0, 1) := by decide +kernel
theorem dX3_flattest_6 : decode cX3_flattest 6 = .ok (.getfield 7, 3) := by decide +kernel
theorem dX3_flattest_9 : decode cX3_flattest 9 = .ok (.if_icmp .ge 30, 3) := by decide +kernel
theorem dX3_flattest_12 : decode cX3_flattest 12 = .ok (.aload_n 0, 1) := by decide +kernel
theorem dX3_flattest_13 : decode cX3_flattest 13 = .ok (.iload_n 2, 1) := by decide +kernel
theorem dX3_flattest_14 : decode cX3_flattest 14 = .ok (.invokevirtual 109, 3) := by decide +kernel
theorem dX3_flattest_17 : decode cX3_flattest 17 = .ok (.invokestatic 77, 3) := by decide +kernel
theorem dX3_flattest_20 : decode cX3_flattest 20 = .ok (.aload_n 0, 1) := by decide +kernel
theorem dX3_flattest_21 : decode cX3_flattest 21 = .ok (.iload_n 1, 1) := by decide +kernel
theorem dX3_flattest_22 : decode cX3_flattest 22 = .ok (.invokevirtual 109, 3) := by decide +kernel
theorem dX3_flattest_25 : decode cX3_flattest 25 = .ok (.invokestatic 77, 3) := by decide +kernel
theorem dX3_flattest_28 : decode cX3_flattest 28 = .ok (.if_icmp .ge 5, 3) := by decide +kernel
theorem dX3_flattest_31 : decode cX3_flattest 31 = .ok (.iload_n 2, 1) := by decide +kernel
theorem dX3_flattest_32 : decode cX3_flattest 32 = .ok (.istore_n 1, 1) := by decide +kernel
theorem dX3_flattest_33 : decode cX3_flattest 33 = .ok (.iinc 2 1, 3) := by decide +kernel
theorem dX3_flattest_36 : decode cX3_flattest 36 = .ok (.goto (-32), 3) := by decide +kernel
theorem dX3_flattest_39 : decode cX3_flattest 39 = .ok (.iload_n 1, 1) := by decide +kernel
theorem dX3_flattest_40 : decode cX3_flattest 40 = .ok (.ireturn, 1) := by decide +kernel
set_option maxRecDepth 20000 in
theorem ggX3_bestAxis_X3_flattest : GoodIn wsX3_bestAxis wsX3_flattest := goodIn_r _ [5, 6, 7, 8, 9, 10, 11, 12, 13, 4, 14, 15, 16, 17, 18, 19, 25, 26, 27, 28, 29, 30, 31, 32] (by decide +kernel) (by decide +kernel)
set_option maxRecDepth 20000 in
theorem gX3_bestAxis_X3_flattest : GoodIn wsX3_bestAxis (wsV RX3 115 RX3 yX3_flattest wsX3_flattest) := goodIn_app (goodIn_of _ (by decide +kernel)) ggX3_bestAxis_X3_flattest
set_option maxRecDepth 20000 in
theorem ggX3_bestAxis_X3_ok : GoodIn wsX3_bestAxis wsX3_ok := goodIn_r _ [23, 24, 25, 26, 27, 28, 29, 30, 31, 32] (by decide +kernel) (by decide +kernel)
set_option maxRecDepth 20000 in
theorem gX3_bestAxis_X3_ok : GoodIn wsX3_bestAxis (wsV RX3 80 RX3 yX3_ok wsX3_ok) := goodIn_app (goodIn_of _ (by decide +kernel)) ggX3_bestAxis_X3_ok
theorem dX3_bestAxis_0 : decode cX3_bestAxis 0 = .ok (.aload_n 0, 1) := by decide +kernel
theorem dX3_bestAxis_1 : decode cX3_bestAxis 1 = .ok (.aload_n 0, 1) := by decide +kernel
theorem dX3_bestAxis_2 : decode cX3_bestAxis 2 = .ok (.invokevirtual 115, 3) := by decide +kernel
theorem dX3_bestAxis_5 : decode cX3_bestAxis 5 = .ok (.invokevirtual 80, 3) := by decide +kernel
theorem dX3_bestAxis_8 : decode cX3_bestAxis 8 = .ok (.ireturn, 1) := by decide +kernel
theorem dX3_goal_0 : decode cX3_goal 0 = .ok (.aload_n 0, 1) := by decide +kernel
theorem dX3_goal_1 : decode cX3_goal 1 = .ok (.getfield 20, 3) := by decide +kernel
theorem dX3_goal_4 : decode cX3_goal 4 = .ok (.bipush 12, 2) := by decide +kernel
theorem dX3_goal_6 : decode cX3_goal 6 = .ok (.iload_n 1, 1) := by decide +kernel
theorem dX3_goal_7 : decode cX3_goal 7 = .ok (.imul, 1) := by decide +kernel
theorem dX3_goal_8 : decode cX3_goal 8 = .ok (.iload_n 2, 1) := by decide +kernel
theorem dX3_goal_9 : decode cX3_goal 9 = .ok (.iadd, 1) := by decide +kernel
theorem dX3_goal_10 : decode cX3_goal 10 = .ok (.iaload, 1) := by decide +kernel
theorem dX3_goal_11 : decode cX3_goal 11 = .ok (.ireturn, 1) := by decide +kernel
set_option maxRecDepth 20000 in
theorem ggX3_numberIn_X3_isTarget : GoodIn wsX3_numberIn wsX3_isTarget := goodIn_r _ [6, 7, 8, 9, 5, 10, 25, 26, 27, 28, 29, 30, 31, 32] (by decide +kernel) (by decide +kernel)
set_option maxRecDepth 20000 in
theorem gX3_numberIn_X3_isTarget : GoodIn wsX3_numberIn (wsV RX3 118 RX3 yX3_isTarget wsX3_isTarget) := goodIn_app (goodIn_of _ (by decide +kernel)) ggX3_numberIn_X3_isTarget
set_option maxRecDepth 20000 in
theorem ggX3_numberIn_X3_isPlace : GoodIn wsX3_numberIn wsX3_isPlace := goodIn_r _ [14, 15, 8, 9, 5, 10, 25, 26, 27, 28, 29, 30, 31, 32] (by decide +kernel) (by decide +kernel)
set_option maxRecDepth 20000 in
theorem gX3_numberIn_X3_isPlace : GoodIn wsX3_numberIn (wsV RX3 70 RX3 yX3_isPlace wsX3_isPlace) := goodIn_app (goodIn_of _ (by decide +kernel)) ggX3_numberIn_X3_isPlace
set_option maxRecDepth 20000 in
theorem ggX3_numberIn_X3_goal : GoodIn wsX3_numberIn wsX3_goal := goodIn_r _ [19, 20, 25, 26, 27, 28, 29, 30, 31, 32] (by decide +kernel) (by decide +kernel)
set_option maxRecDepth 20000 in
theorem gX3_numberIn_X3_goal : GoodIn wsX3_numberIn (wsV RX3 121 RX3 yX3_goal wsX3_goal) := goodIn_app (goodIn_of _ (by decide +kernel)) ggX3_numberIn_X3_goal
set_option maxRecDepth 20000 in
theorem ggX3_numberIn_X3_no : GoodIn wsX3_numberIn wsX3_no := goodIn_r _ [24, 1, 25, 26, 27, 28, 29, 30, 31, 32] (by decide +kernel) (by decide +kernel)
set_option maxRecDepth 20000 in
theorem gX3_numberIn_X3_no : GoodIn wsX3_numberIn (wsV RX3 66 RX3 yX3_no wsX3_no) := goodIn_app (goodIn_of _ (by decide +kernel)) ggX3_numberIn_X3_no
theorem dX3_numberIn_0 : decode cX3_numberIn 0 = .ok (.aload_n 0, 1) := by decide +kernel
theorem dX3_numberIn_1 : decode cX3_numberIn 1 = .ok (.iconst 0, 1) := by decide +kernel
theorem dX3_numberIn_2 : decode cX3_numberIn 2 = .ok (.putfield 26, 3) := by decide +kernel
theorem dX3_numberIn_5 : decode cX3_numberIn 5 = .ok (.aload_n 0, 1) := by decide +kernel
theorem dX3_numberIn_6 : decode cX3_numberIn 6 = .ok (.iload_n 1, 1) := by decide +kernel
theorem dX3_numberIn_7 : decode cX3_numberIn 7 = .ok (.invokevirtual 118, 3) := by decide +kernel
theorem dX3_numberIn_10 : decode cX3_numberIn 10 = .ok (.ifCond .eq 20, 3) := by decide +kernel
theorem dX3_numberIn_13 : decode cX3_numberIn 13 = .ok (.aload_n 0, 1) := by decide +kernel
theorem dX3_numberIn_14 : decode cX3_numberIn 14 = .ok (.iload_n 2, 1) := by decide +kernel
theorem dX3_numberIn_15 : decode cX3_numberIn 15 = .ok (.invokevirtual 70, 3) := by decide +kernel
theorem dX3_numberIn_18 : decode cX3_numberIn 18 = .ok (.ifCond .eq 12, 3) := by decide +kernel
theorem dX3_numberIn_21 : decode cX3_numberIn 21 = .ok (.aload_n 0, 1) := by decide +kernel
theorem dX3_numberIn_22 : decode cX3_numberIn 22 = .ok (.iload_n 1, 1) := by decide +kernel
theorem dX3_numberIn_23 : decode cX3_numberIn 23 = .ok (.iload_n 2, 1) := by decide +kernel
theorem dX3_numberIn_24 : decode cX3_numberIn 24 = .ok (.invokevirtual 121, 3) := by decide +kernel
theorem dX3_numberIn_27 : decode cX3_numberIn 27 = .ok (.goto 8, 3) := by decide +kernel
theorem dX3_numberIn_30 : decode cX3_numberIn 30 = .ok (.aload_n 0, 1) := by decide +kernel
theorem dX3_numberIn_31 : decode cX3_numberIn 31 = .ok (.iconst 1, 1) := by decide +kernel
theorem dX3_numberIn_32 : decode cX3_numberIn 32 = .ok (.invokevirtual 66, 3) := by decide +kernel
theorem dX3_numberIn_35 : decode cX3_numberIn 35 = .ok (.ireturn, 1) := by decide +kernel
set_option maxRecDepth 20000 in
theorem ggX3_others_X3_goal : GoodIn wsX3_others wsX3_goal := goodIn_r _ [7, 8, 9, 10, 11, 12, 13, 14, 15, 16] (by decide +kernel) (by decide +kernel)
set_option maxRecDepth 20000 in
theorem gX3_others_X3_goal : GoodIn wsX3_others (wsV RX3 121 RX3 yX3_goal wsX3_goal) := goodIn_app (goodIn_of _ (by decide +kernel)) ggX3_others_X3_goal
theorem dX3_others_0 : decode cX3_others 0 = .ok (.iconst 0, 1) := by decide +kernel
theorem dX3_others_1 : decode cX3_others 1 = .ok (.istore_n 2, 1) := by decide +kernel
theorem dX3_others_2 : decode cX3_others 2 = .ok (.iconst 0, 1) := by decide +kernel
theorem dX3_others_3 : decode cX3_others 3 = .ok (.istore_n 3, 1) := by decide +kernel
theorem dX3_others_4 : decode cX3_others 4 = .ok (.iload_n 3, 1) := by decide +kernel
theorem dX3_others_5 : decode cX3_others 5 = .ok (.aload_n 0, 1) := by decide +kernel
theorem dX3_others_6 : decode cX3_others 6 = .ok (.getfield 7, 3) := by decide +kernel
theorem dX3_others_9 : decode cX3_others 9 = .ok (.if_icmp .ge 32, 3) := by decide +kernel
theorem dX3_others_12 : decode cX3_others 12 = .ok (.iload_n 2, 1) := by decide +kernel
theorem dX3_others_13 : decode cX3_others 13 = .ok (.aload_n 0, 1) := by decide +kernel
theorem dX3_others_14 : decode cX3_others 14 = .ok (.getfield 13, 3) := by decide +kernel
theorem dX3_others_17 : decode cX3_others 17 = .ok (.iload_n 3, 1) := by decide +kernel
theorem dX3_others_18 : decode cX3_others 18 = .ok (.iaload, 1) := by decide +kernel
theorem dX3_others_19 : decode cX3_others 19 = .ok (.aload_n 0, 1) := by decide +kernel
theorem dX3_others_20 : decode cX3_others 20 = .ok (.iload_n 1, 1) := by decide +kernel
theorem dX3_others_21 : decode cX3_others 21 = .ok (.iload_n 3, 1) := by decide +kernel
theorem dX3_others_22 : decode cX3_others 22 = .ok (.invokevirtual 121, 3) := by decide +kernel
theorem dX3_others_25 : decode cX3_others 25 = .ok (.if_icmp .ne 7, 3) := by decide +kernel
theorem dX3_others_28 : decode cX3_others 28 = .ok (.iconst 0, 1) := by decide +kernel
theorem dX3_others_29 : decode cX3_others 29 = .ok (.goto 4, 3) := by decide +kernel
theorem dX3_others_32 : decode cX3_others 32 = .ok (.iconst 1, 1) := by decide +kernel
theorem dX3_others_33 : decode cX3_others 33 = .ok (.iadd, 1) := by decide +kernel
theorem dX3_others_34 : decode cX3_others 34 = .ok (.istore_n 2, 1) := by decide +kernel
theorem dX3_others_35 : decode cX3_others 35 = .ok (.iinc 3 1, 3) := by decide +kernel
theorem dX3_others_38 : decode cX3_others 38 = .ok (.goto (-34), 3) := by decide +kernel
theorem dX3_others_41 : decode cX3_others 41 = .ok (.iload_n 2, 1) := by decide +kernel
theorem dX3_others_42 : decode cX3_others 42 = .ok (.ireturn, 1) := by decide +kernel
set_option maxRecDepth 20000 in
theorem ggX3_differences_X3_isTarget : GoodIn wsX3_differences wsX3_isTarget := goodIn_r _ [6, 7, 8, 9, 5, 10, 26, 27, 28, 29, 30, 31, 32, 33] (by decide +kernel) (by decide +kernel)
set_option maxRecDepth 20000 in
theorem gX3_differences_X3_isTarget : GoodIn wsX3_differences (wsV RX3 118 RX3 yX3_isTarget wsX3_isTarget) := goodIn_app (goodIn_of _ (by decide +kernel)) ggX3_differences_X3_isTarget
set_option maxRecDepth 20000 in
theorem ggX3_differences_X3_others : GoodIn wsX3_differences wsX3_others := goodIn_r _ [14, 15, 16, 17, 18, 19, 5, 20, 21, 26, 27, 28, 29, 30, 31, 32, 33] (by decide +kernel) (by decide +kernel)
set_option maxRecDepth 20000 in
theorem gX3_differences_X3_others : GoodIn wsX3_differences (wsV RX3 124 RX3 yX3_others wsX3_others) := goodIn_app (goodIn_of _ (by decide +kernel)) ggX3_differences_X3_others
set_option maxRecDepth 20000 in
theorem ggX3_differences_X3_no : GoodIn wsX3_differences wsX3_no := goodIn_r _ [25, 1, 26, 27, 28, 29, 30, 31, 32, 33] (by decide +kernel) (by decide +kernel)
set_option maxRecDepth 20000 in
theorem gX3_differences_X3_no : GoodIn wsX3_differences (wsV RX3 66 RX3 yX3_no wsX3_no) := goodIn_app (goodIn_of _ (by decide +kernel)) ggX3_differences_X3_no
theorem dX3_differences_0 : decode cX3_differences 0 = .ok (.aload_n 0, 1) := by decide +kernel
theorem dX3_differences_1 : decode cX3_differences 1 = .ok (.iconst 0, 1) := by decide +kernel
theorem dX3_differences_2 : decode cX3_differences 2 = .ok (.putfield 26, 3) := by decide +kernel
theorem dX3_differences_5 : decode cX3_differences 5 = .ok (.aload_n 0, 1) := by decide +kernel
theorem dX3_differences_6 : decode cX3_differences 6 = .ok (.iload_n 1, 1) := by decide +kernel
theorem dX3_differences_7 : decode cX3_differences 7 = .ok (.invokevirtual 118, 3) := by decide +kernel
theorem dX3_differences_10 : decode cX3_differences 10 = .ok (.ifCond .eq 11, 3) := by decide +kernel
theorem dX3_differences_13 : decode cX3_differences 13 = .ok (.aload_n 0, 1) := by decide +kernel
theorem dX3_differences_14 : decode cX3_differences 14 = .ok (.iload_n 1, 1) := by decide +kernel
theorem dX3_differences_15 : decode cX3_differences 15 = .ok (.invokevirtual 124, 3) := by decide +kernel
theorem dX3_differences_18 : decode cX3_differences 18 = .ok (.goto 8, 3) := by decide +kernel
theorem dX3_differences_21 : decode cX3_differences 21 = .ok (.aload_n 0, 1) := by decide +kernel
theorem dX3_differences_22 : decode cX3_differences 22 = .ok (.iconst 1, 1) := by decide +kernel
theorem dX3_differences_23 : decode cX3_differences 23 = .ok (.invokevirtual 66, 3) := by decide +kernel
theorem dX3_differences_26 : decode cX3_differences 26 = .ok (.ireturn, 1) := by decide +kernel
set_option maxRecDepth 20000 in
theorem ggX3_around_X3_goal : GoodIn wsX3_around wsX3_goal := goodIn_r _ [8, 9, 10, 11, 12, 13, 14, 15, 16, 17] (by decide +kernel) (by decide +kernel)
set_option maxRecDepth 20000 in
theorem gX3_around_X3_goal : GoodIn wsX3_around (wsV RX3 121 RX3 yX3_goal wsX3_goal) := goodIn_app (goodIn_of _ (by decide +kernel)) ggX3_around_X3_goal
theorem dX3_around_0 : decode cX3_around 0 = .ok (.aload_n 0, 1) := by decide +kernel
theorem dX3_around_1 : decode cX3_around 1 = .ok (.getfield 23, 3) := by decide +kernel
theorem dX3_around_4 : decode cX3_around 4 = .ok (.iconst 0, 1) := by decide +kernel
theorem dX3_around_5 : decode cX3_around 5 = .ok (.iconst 0, 1) := by decide +kernel
theorem dX3_around_6 : decode cX3_around 6 = .ok (.iastore, 1) := by decide +kernel
theorem dX3_around_7 : decode cX3_around 7 = .ok (.aload_n 0, 1) := by decide +kernel
theorem dX3_around_8 : decode cX3_around 8 = .ok (.getfield 23, 3) := by decide +kernel
theorem dX3_around_11 : decode cX3_around 11 = .ok (.iconst 1, 1) := by decide +kernel
theorem dX3_around_12 : decode cX3_around 12 = .ok (.iload_n 2, 1) := by decide +kernel
theorem dX3_around_13 : decode cX3_around 13 = .ok (.iastore, 1) := by decide +kernel
theorem dX3_around_14 : decode cX3_around 14 = .ok (.iconst 1, 1) := by decide +kernel
theorem dX3_around_15 : decode cX3_around 15 = .ok (.istore_n 3, 1) := by decide +kernel
theorem dX3_around_16 : decode cX3_around 16 = .ok (.iload_n 3, 1) := by decide +kernel
theorem dX3_around_17 : decode cX3_around 17 = .ok (.aload_n 0, 1) := by decide +kernel
theorem dX3_around_18 : decode cX3_around 18 = .ok (.getfield 7, 3) := by decide +kernel
theorem dX3_around_21 : decode cX3_around 21 = .ok (.if_icmp .gt 58, 3) := by decide +kernel
theorem dX3_around_24 : decode cX3_around 24 = .ok (.aload_n 0, 1) := by decide +kernel
theorem dX3_around_25 : decode cX3_around 25 = .ok (.getfield 23, 3) := by decide +kernel
theorem dX3_around_28 : decode cX3_around 28 = .ok (.iload_n 3, 1) := by decide +kernel
theorem dX3_around_29 : decode cX3_around 29 = .ok (.iconst 1, 1) := by decide +kernel
theorem dX3_around_30 : decode cX3_around 30 = .ok (.iadd, 1) := by decide +kernel
theorem dX3_around_31 : decode cX3_around 31 = .ok (.iconst 2, 1) := by decide +kernel
theorem dX3_around_32 : decode cX3_around 32 = .ok (.aload_n 0, 1) := by decide +kernel
theorem dX3_around_33 : decode cX3_around 33 = .ok (.getfield 23, 3) := by decide +kernel
theorem dX3_around_36 : decode cX3_around 36 = .ok (.iload_n 3, 1) := by decide +kernel
theorem dX3_around_37 : decode cX3_around 37 = .ok (.iaload, 1) := by decide +kernel
theorem dX3_around_38 : decode cX3_around 38 = .ok (.imul, 1) := by decide +kernel
theorem dX3_around_39 : decode cX3_around 39 = .ok (.aload_n 0, 1) := by decide +kernel
theorem dX3_around_40 : decode cX3_around 40 = .ok (.getfield 23, 3) := by decide +kernel
theorem dX3_around_43 : decode cX3_around 43 = .ok (.iload_n 3, 1) := by decide +kernel
theorem dX3_around_44 : decode cX3_around 44 = .ok (.iconst 1, 1) := by decide +kernel
theorem dX3_around_45 : decode cX3_around 45 = .ok (.isub, 1) := by decide +kernel
theorem dX3_around_46 : decode cX3_around 46 = .ok (.iaload, 1) := by decide +kernel
theorem dX3_around_47 : decode cX3_around 47 = .ok (.isub, 1) := by decide +kernel
theorem dX3_around_48 : decode cX3_around 48 = .ok (.aload_n 0, 1) := by decide +kernel
theorem dX3_around_49 : decode cX3_around 49 = .ok (.getfield 13, 3) := by decide +kernel
theorem dX3_around_52 : decode cX3_around 52 = .ok (.iload_n 3, 1) := by decide +kernel
theorem dX3_around_53 : decode cX3_around 53 = .ok (.aload_n 0, 1) := by decide +kernel
theorem dX3_around_54 : decode cX3_around 54 = .ok (.getfield 7, 3) := by decide +kernel
theorem dX3_around_57 : decode cX3_around 57 = .ok (.irem, 1) := by decide +kernel
theorem dX3_around_58 : decode cX3_around 58 = .ok (.iaload, 1) := by decide +kernel
theorem dX3_around_59 : decode cX3_around 59 = .ok (.aload_n 0, 1) := by decide +kernel
theorem dX3_around_60 : decode cX3_around 60 = .ok (.iload_n 1, 1) := by decide +kernel
theorem dX3_around_61 : decode cX3_around 61 = .ok (.iload_n 3, 1) := by decide +kernel
theorem dX3_around_62 : decode cX3_around 62 = .ok (.aload_n 0, 1) := by decide +kernel
theorem dX3_around_63 : decode cX3_around 63 = .ok (.getfield 7, 3) := by decide +kernel
theorem dX3_around_66 : decode cX3_around 66 = .ok (.irem, 1) := by decide +kernel
theorem dX3_around_67 : decode cX3_around 67 = .ok (.invokevirtual 121, 3) := by decide +kernel
theorem dX3_around_70 : decode cX3_around 70 = .ok (.isub, 1) := by decide +kernel
theorem dX3_around_71 : decode cX3_around 71 = .ok (.isub, 1) := by decide +kernel
theorem dX3_around_72 : decode cX3_around 72 = .ok (.iastore, 1) := by decide +kernel
theorem dX3_around_73 : decode cX3_around 73 = .ok (.iinc 3 1, 3) := by decide +kernel
theorem dX3_around_76 : decode cX3_around 76 = .ok (.goto (-60), 3) := by decide +kernel
theorem dX3_around_79 : decode cX3_around 79 = .ok (.aload_n 0, 1) := by decide +kernel
theorem dX3_around_80 : decode cX3_around 80 = .ok (.getfield 23, 3) := by decide +kernel
theorem dX3_around_83 : decode cX3_around 83 = .ok (.aload_n 0, 1) := by decide +kernel
theorem dX3_around_84 : decode cX3_around 84 = .ok (.getfield 7, 3) := by decide +kernel
theorem dX3_around_87 : decode cX3_around 87 = .ok (.iaload, 1) := by decide +kernel
theorem dX3_around_88 : decode cX3_around 88 = .ok (.ireturn, 1) := by decide +kernel
set_option maxRecDepth 20000 in
theorem ggX3_solves_X3_around : GoodIn wsX3_solves wsX3_around := goodIn_r _ [7, 2, 1, 8, 9, 10, 11, 6, 12, 13, 14, 15, 16, 17, 18, 19, 20, 21] (by decide +kernel) (by decide +kernel)
set_option maxRecDepth 20000 in
theorem gX3_solves_X3_around : GoodIn wsX3_solves (wsV RX3 127 RX3 yX3_around wsX3_around) := goodIn_app (goodIn_of _ (by decide +kernel)) ggX3_solves_X3_around
theorem dX3_solves_0 : decode cX3_solves 0 = .ok (.aload_n 0, 1) := by decide +kernel
theorem dX3_solves_1 : decode cX3_solves 1 = .ok (.iload_n 1, 1) := by decide +kernel
theorem dX3_solves_2 : decode cX3_solves 2 = .ok (.iconst 0, 1) := by decide +kernel
theorem dX3_solves_3 : decode cX3_solves 3 = .ok (.invokevirtual 127, 3) := by decide +kernel
theorem dX3_solves_6 : decode cX3_solves 6 = .ok (.istore_n 2, 1) := by decide +kernel
theorem dX3_solves_7 : decode cX3_solves 7 = .ok (.iload_n 2, 1) := by decide +kernel
theorem dX3_solves_8 : decode cX3_solves 8 = .ok (.aload_n 0, 1) := by decide +kernel
theorem dX3_solves_9 : decode cX3_solves 9 = .ok (.getfield 7, 3) := by decide +kernel
theorem dX3_solves_12 : decode cX3_solves 12 = .ok (.irem, 1) := by decide +kernel
theorem dX3_solves_13 : decode cX3_solves 13 = .ok (.ifCond .eq 5, 3) := by decide +kernel
theorem dX3_solves_16 : decode cX3_solves 16 = .ok (.iconst 0, 1) := by decide +kernel
theorem dX3_solves_17 : decode cX3_solves 17 = .ok (.ireturn, 1) := by decide +kernel
theorem dX3_solves_18 : decode cX3_solves 18 = .ok (.iload_n 2, 1) := by decide +kernel
theorem dX3_solves_19 : decode cX3_solves 19 = .ok (.ineg, 1) := by decide +kernel
theorem dX3_solves_20 : decode cX3_solves 20 = .ok (.aload_n 0, 1) := by decide +kernel
theorem dX3_solves_21 : decode cX3_solves 21 = .ok (.getfield 7, 3) := by decide +kernel
theorem dX3_solves_24 : decode cX3_solves 24 = .ok (.idiv, 1) := by decide +kernel
theorem dX3_solves_25 : decode cX3_solves 25 = .ok (.istore_n 3, 1) := by decide +kernel
theorem dX3_solves_26 : decode cX3_solves 26 = .ok (.aload_n 0, 1) := by decide +kernel
theorem dX3_solves_27 : decode cX3_solves 27 = .ok (.iload_n 1, 1) := by decide +kernel
theorem dX3_solves_28 : decode cX3_solves 28 = .ok (.iload_n 3, 1) := by decide +kernel
theorem dX3_solves_29 : decode cX3_solves 29 = .ok (.invokevirtual 127, 3) := by decide +kernel
theorem dX3_solves_32 : decode cX3_solves 32 = .ok (.ifCond .ne 22, 3) := by decide +kernel
theorem dX3_solves_35 : decode cX3_solves 35 = .ok (.aload_n 0, 1) := by decide +kernel
theorem dX3_solves_36 : decode cX3_solves 36 = .ok (.getfield 23, 3) := by decide +kernel
theorem dX3_solves_39 : decode cX3_solves 39 = .ok (.aload_n 0, 1) := by decide +kernel
theorem dX3_solves_40 : decode cX3_solves 40 = .ok (.getfield 7, 3) := by decide +kernel
theorem dX3_solves_43 : decode cX3_solves 43 = .ok (.iconst 1, 1) := by decide +kernel
theorem dX3_solves_44 : decode cX3_solves 44 = .ok (.iadd, 1) := by decide +kernel
theorem dX3_solves_45 : decode cX3_solves 45 = .ok (.iaload, 1) := by decide +kernel
theorem dX3_solves_46 : decode cX3_solves 46 = .ok (.iload_n 3, 1) := by decide +kernel
theorem dX3_solves_47 : decode cX3_solves 47 = .ok (.if_icmp .ne 7, 3) := by decide +kernel
theorem dX3_solves_50 : decode cX3_solves 50 = .ok (.iconst 1, 1) := by decide +kernel
theorem dX3_solves_51 : decode cX3_solves 51 = .ok (.goto 4, 3) := by decide +kernel
theorem dX3_solves_54 : decode cX3_solves 54 = .ok (.iconst 0, 1) := by decide +kernel
theorem dX3_solves_55 : decode cX3_solves 55 = .ok (.ireturn, 1) := by decide +kernel
set_option maxRecDepth 20000 in
theorem ggX3_canReach_X3_isTarget : GoodIn wsX3_canReach wsX3_isTarget := goodIn_r _ [6, 7, 8, 9, 5, 10, 31, 32, 33, 34, 35, 36, 37, 38] (by decide +kernel) (by decide +kernel)
set_option maxRecDepth 20000 in
theorem gX3_canReach_X3_isTarget : GoodIn wsX3_canReach (wsV RX3 118 RX3 yX3_isTarget wsX3_isTarget) := goodIn_app (goodIn_of _ (by decide +kernel)) ggX3_canReach_X3_isTarget
set_option maxRecDepth 20000 in
theorem ggX3_canReach_X3_isNot : GoodIn wsX3_canReach wsX3_isNot := goodIn_r _ [14, 1, 31, 32, 33, 34, 35, 36, 37, 38] (by decide +kernel) (by decide +kernel)
set_option maxRecDepth 20000 in
theorem gX3_canReach_X3_isNot : GoodIn wsX3_canReach (wsV RX3 103 RX3 yX3_isNot wsX3_isNot) := goodIn_app (goodIn_of _ (by decide +kernel)) ggX3_canReach_X3_isNot
set_option maxRecDepth 20000 in
theorem ggX3_canReach_X3_solves : GoodIn wsX3_canReach wsX3_solves := goodIn_r _ [18, 19, 20, 21, 22, 23, 5, 24, 25, 26, 27, 28, 29, 30, 31, 32, 33, 34, 35, 36, 37, 38] (by decide +kernel) (by decide +kernel)
set_option maxRecDepth 20000 in
theorem gX3_canReach_X3_solves : GoodIn wsX3_canReach (wsV RX3 130 RX3 yX3_solves wsX3_solves) := goodIn_app (goodIn_of _ (by decide +kernel)) ggX3_canReach_X3_solves
theorem dX3_canReach_0 : decode cX3_canReach 0 = .ok (.aload_n 0, 1) := by decide +kernel
theorem dX3_canReach_1 : decode cX3_canReach 1 = .ok (.iload_n 1, 1) := by decide +kernel
theorem dX3_canReach_2 : decode cX3_canReach 2 = .ok (.invokevirtual 118, 3) := by decide +kernel
theorem dX3_canReach_5 : decode cX3_canReach 5 = .ok (.ifCond .ne 9, 3) := by decide +kernel
theorem dX3_canReach_8 : decode cX3_canReach 8 = .ok (.aload_n 0, 1) := by decide +kernel
theorem dX3_canReach_9 : decode cX3_canReach 9 = .ok (.iconst 1, 1) := by decide +kernel
theorem dX3_canReach_10 : decode cX3_canReach 10 = .ok (.invokevirtual 103, 3) := by decide +kernel
theorem dX3_canReach_13 : decode cX3_canReach 13 = .ok (.ireturn, 1) := by decide +kernel
theorem dX3_canReach_14 : decode cX3_canReach 14 = .ok (.aload_n 0, 1) := by decide +kernel
theorem dX3_canReach_15 : decode cX3_canReach 15 = .ok (.iconst 0, 1) := by decide +kernel
theorem dX3_canReach_16 : decode cX3_canReach 16 = .ok (.putfield 26, 3) := by decide +kernel
theorem dX3_canReach_19 : decode cX3_canReach 19 = .ok (.aload_n 0, 1) := by decide +kernel
theorem dX3_canReach_20 : decode cX3_canReach 20 = .ok (.iload_n 1, 1) := by decide +kernel
theorem dX3_canReach_21 : decode cX3_canReach 21 = .ok (.invokevirtual 130, 3) := by decide +kernel
theorem dX3_canReach_24 : decode cX3_canReach 24 = .ok (.ireturn, 1) := by decide +kernel
set_option maxRecDepth 20000 in
theorem ggX3_manySolved_X3_solves : GoodIn wsX3_manySolved wsX3_solves := goodIn_r _ [6, 7, 8, 9, 10, 11, 5, 12, 13, 14, 15, 16, 17, 18, 19, 20, 21, 22, 23, 24, 25, 26] (by decide +kernel) (by decide +kernel)
set_option maxRecDepth 20000 in
theorem gX3_manySolved_X3_solves : GoodIn wsX3_manySolved (wsV RX3 130 RX3 yX3_solves wsX3_solves) := goodIn_app (goodIn_of _ (by decide +kernel)) ggX3_manySolved_X3_solves
theorem dX3_manySolved_0 : decode cX3_manySolved 0 = .ok (.iconst 0, 1) := by decide +kernel
theorem dX3_manySolved_1 : decode cX3_manySolved 1 = .ok (.istore_n 1, 1) := by decide +kernel
theorem dX3_manySolved_2 : decode cX3_manySolved 2 = .ok (.iconst 0, 1) := by decide +kernel
theorem dX3_manySolved_3 : decode cX3_manySolved 3 = .ok (.istore_n 2, 1) := by decide +kernel
theorem dX3_manySolved_4 : decode cX3_manySolved 4 = .ok (.iload_n 2, 1) := by decide +kernel
theorem dX3_manySolved_5 : decode cX3_manySolved 5 = .ok (.aload_n 0, 1) := by decide +kernel
theorem dX3_manySolved_6 : decode cX3_manySolved 6 = .ok (.getfield 33, 3) := by decide +kernel
theorem dX3_manySolved_9 : decode cX3_manySolved 9 = .ok (.if_icmp .ge 25, 3) := by decide +kernel
theorem dX3_manySolved_12 : decode cX3_manySolved 12 = .ok (.iload_n 1, 1) := by decide +kernel
theorem dX3_manySolved_13 : decode cX3_manySolved 13 = .ok (.aload_n 0, 1) := by decide +kernel
theorem dX3_manySolved_14 : decode cX3_manySolved 14 = .ok (.iload_n 2, 1) := by decide +kernel
theorem dX3_manySolved_15 : decode cX3_manySolved 15 = .ok (.invokevirtual 130, 3) := by decide +kernel
theorem dX3_manySolved_18 : decode cX3_manySolved 18 = .ok (.ifCond .eq 7, 3) := by decide +kernel
theorem dX3_manySolved_21 : decode cX3_manySolved 21 = .ok (.iconst 1, 1) := by decide +kernel
theorem dX3_manySolved_22 : decode cX3_manySolved 22 = .ok (.goto 4, 3) := by decide +kernel
theorem dX3_manySolved_25 : decode cX3_manySolved 25 = .ok (.iconst 0, 1) := by decide +kernel
theorem dX3_manySolved_26 : decode cX3_manySolved 26 = .ok (.iadd, 1) := by decide +kernel
theorem dX3_manySolved_27 : decode cX3_manySolved 27 = .ok (.istore_n 1, 1) := by decide +kernel
theorem dX3_manySolved_28 : decode cX3_manySolved 28 = .ok (.iinc 2 1, 3) := by decide +kernel
theorem dX3_manySolved_31 : decode cX3_manySolved 31 = .ok (.goto (-27), 3) := by decide +kernel
theorem dX3_manySolved_34 : decode cX3_manySolved 34 = .ok (.iload_n 1, 1) := by decide +kernel
theorem dX3_manySolved_35 : decode cX3_manySolved 35 = .ok (.ireturn, 1) := by decide +kernel
set_option maxRecDepth 20000 in
theorem ggX3_reachable_X3_manySolved : GoodIn wsX3_reachable wsX3_manySolved := goodIn_r _ [5, 6, 7, 8, 9, 4, 10, 11, 12, 13, 14, 15, 16, 17, 18, 19, 20, 21, 22, 28, 29, 30, 31, 32, 33, 34, 35] (by decide +kernel) (by decide +kernel)
set_option maxRecDepth 20000 in
theorem gX3_reachable_X3_manySolved : GoodIn wsX3_reachable (wsV RX3 133 RX3 yX3_manySolved wsX3_manySolved) := goodIn_app (goodIn_of _ (by decide +kernel)) ggX3_reachable_X3_manySolved
set_option maxRecDepth 20000 in
theorem ggX3_reachable_X3_ok : GoodIn wsX3_reachable wsX3_ok := goodIn_r _ [26, 27, 28, 29, 30, 31, 32, 33, 34, 35] (by decide +kernel) (by decide +kernel)
set_option maxRecDepth 20000 in
theorem gX3_reachable_X3_ok : GoodIn wsX3_reachable (wsV RX3 80 RX3 yX3_ok wsX3_ok) := goodIn_app (goodIn_of _ (by decide +kernel)) ggX3_reachable_X3_ok
theorem dX3_reachable_0 : decode cX3_reachable 0 = .ok (.aload_n 0, 1) := by decide +kernel
theorem dX3_reachable_1 : decode cX3_reachable 1 = .ok (.aload_n 0, 1) := by decide +kernel
theorem dX3_reachable_2 : decode cX3_reachable 2 = .ok (.invokevirtual 133, 3) := by decide +kernel
theorem dX3_reachable_5 : decode cX3_reachable 5 = .ok (.invokevirtual 80, 3) := by decide +kernel
theorem dX3_reachable_8 : decode cX3_reachable 8 = .ok (.ireturn, 1) := by decide +kernel
set_option maxRecDepth 20000 in
theorem ggX3_tipsTo_X3_isTarget : GoodIn wsX3_tipsTo wsX3_isTarget := goodIn_r _ [7, 8, 9, 10, 6, 11, 35, 36, 37, 38, 39, 40, 41, 42] (by decide +kernel) (by decide +kernel)
set_option maxRecDepth 20000 in
theorem gX3_tipsTo_X3_isTarget : GoodIn wsX3_tipsTo (wsV RX3 118 RX3 yX3_isTarget wsX3_isTarget) := goodIn_app (goodIn_of _ (by decide +kernel)) ggX3_tipsTo_X3_isTarget
set_option maxRecDepth 20000 in
theorem ggX3_tipsTo_X3_isPlace : GoodIn wsX3_tipsTo wsX3_isPlace := goodIn_r _ [15, 16, 9, 10, 6, 11, 35, 36, 37, 38, 39, 40, 41, 42] (by decide +kernel) (by decide +kernel)
set_option maxRecDepth 20000 in
theorem gX3_tipsTo_X3_isPlace : GoodIn wsX3_tipsTo (wsV RX3 70 RX3 yX3_isPlace wsX3_isPlace) := goodIn_app (goodIn_of _ (by decide +kernel)) ggX3_tipsTo_X3_isPlace
set_option maxRecDepth 20000 in
theorem ggX3_tipsTo_X3_no : GoodIn wsX3_tipsTo wsX3_no := goodIn_r _ [20, 1, 35, 36, 37, 38, 39, 40, 41, 42] (by decide +kernel) (by decide +kernel)
set_option maxRecDepth 20000 in
theorem gX3_tipsTo_X3_no : GoodIn wsX3_tipsTo (wsV RX3 66 RX3 yX3_no wsX3_no) := goodIn_app (goodIn_of _ (by decide +kernel)) ggX3_tipsTo_X3_no
set_option maxRecDepth 20000 in
theorem ggX3_tipsTo_X3_solves : GoodIn wsX3_tipsTo wsX3_solves := goodIn_r _ [24, 16, 2, 25, 26, 27, 6, 28, 29, 30, 31, 32, 33, 34, 35, 36, 37, 38, 39, 40, 41, 42] (by decide +kernel) (by decide +kernel)
set_option maxRecDepth 20000 in
theorem gX3_tipsTo_X3_solves : GoodIn wsX3_tipsTo (wsV RX3 130 RX3 yX3_solves wsX3_solves) := goodIn_app (goodIn_of _ (by decide +kernel)) ggX3_tipsTo_X3_solves
theorem dX3_tipsTo_0 : decode cX3_tipsTo 0 = .ok (.aload_n 0, 1) := by decide +kernel
theorem dX3_tipsTo_1 : decode cX3_tipsTo 1 = .ok (.iconst 0, 1) := by decide +kernel
theorem dX3_tipsTo_2 : decode cX3_tipsTo 2 = .ok (.putfield 26, 3) := by decide +kernel
theorem dX3_tipsTo_5 : decode cX3_tipsTo 5 = .ok (.aload_n 0, 1) := by decide +kernel
theorem dX3_tipsTo_6 : decode cX3_tipsTo 6 = .ok (.iload_n 1, 1) := by decide +kernel
theorem dX3_tipsTo_7 : decode cX3_tipsTo 7 = .ok (.invokevirtual 118, 3) := by decide +kernel
theorem dX3_tipsTo_10 : decode cX3_tipsTo 10 = .ok (.ifCond .eq 11, 3) := by decide +kernel
theorem dX3_tipsTo_13 : decode cX3_tipsTo 13 = .ok (.aload_n 0, 1) := by decide +kernel
theorem dX3_tipsTo_14 : decode cX3_tipsTo 14 = .ok (.iload_n 2, 1) := by decide +kernel
theorem dX3_tipsTo_15 : decode cX3_tipsTo 15 = .ok (.invokevirtual 70, 3) := by decide +kernel
theorem dX3_tipsTo_18 : decode cX3_tipsTo 18 = .ok (.ifCond .ne 9, 3) := by decide +kernel
theorem dX3_tipsTo_21 : decode cX3_tipsTo 21 = .ok (.aload_n 0, 1) := by decide +kernel
theorem dX3_tipsTo_22 : decode cX3_tipsTo 22 = .ok (.iconst 1, 1) := by decide +kernel
theorem dX3_tipsTo_23 : decode cX3_tipsTo 23 = .ok (.invokevirtual 66, 3) := by decide +kernel
theorem dX3_tipsTo_26 : decode cX3_tipsTo 26 = .ok (.ireturn, 1) := by decide +kernel
theorem dX3_tipsTo_27 : decode cX3_tipsTo 27 = .ok (.aload_n 0, 1) := by decide +kernel
theorem dX3_tipsTo_28 : decode cX3_tipsTo 28 = .ok (.iload_n 1, 1) := by decide +kernel
theorem dX3_tipsTo_29 : decode cX3_tipsTo 29 = .ok (.invokevirtual 130, 3) := by decide +kernel
theorem dX3_tipsTo_32 : decode cX3_tipsTo 32 = .ok (.ifCond .eq 12, 3) := by decide +kernel
theorem dX3_tipsTo_35 : decode cX3_tipsTo 35 = .ok (.aload_n 0, 1) := by decide +kernel
theorem dX3_tipsTo_36 : decode cX3_tipsTo 36 = .ok (.getfield 23, 3) := by decide +kernel
theorem dX3_tipsTo_39 : decode cX3_tipsTo 39 = .ok (.iload_n 2, 1) := by decide +kernel
theorem dX3_tipsTo_40 : decode cX3_tipsTo 40 = .ok (.iaload, 1) := by decide +kernel
theorem dX3_tipsTo_41 : decode cX3_tipsTo 41 = .ok (.goto 8, 3) := by decide +kernel
theorem dX3_tipsTo_44 : decode cX3_tipsTo 44 = .ok (.aload_n 0, 1) := by decide +kernel
theorem dX3_tipsTo_45 : decode cX3_tipsTo 45 = .ok (.iconst 2, 1) := by decide +kernel
theorem dX3_tipsTo_46 : decode cX3_tipsTo 46 = .ok (.invokevirtual 66, 3) := by decide +kernel
theorem dX3_tipsTo_49 : decode cX3_tipsTo 49 = .ok (.ireturn, 1) := by decide +kernel
set_option maxRecDepth 20000 in
theorem ggX3_fewest_X3_solves : GoodIn wsX3_fewest wsX3_solves := goodIn_r _ [15, 2, 3, 16, 17, 18, 14, 19, 20, 21, 22, 23, 24, 25, 26, 27, 28, 29, 30, 31, 32, 33] (by decide +kernel) (by decide +kernel)
set_option maxRecDepth 20000 in
theorem gX3_fewest_X3_solves : GoodIn wsX3_fewest (wsV RX3 130 RX3 yX3_solves wsX3_solves) := goodIn_app (goodIn_of _ (by decide +kernel)) ggX3_fewest_X3_solves
theorem dX3_fewest_0 : decode cX3_fewest 0 = .ok (.aload_n 0, 1) := by decide +kernel
theorem dX3_fewest_1 : decode cX3_fewest 1 = .ok (.iload_n 1, 1) := by decide +kernel
theorem dX3_fewest_2 : decode cX3_fewest 2 = .ok (.invokevirtual 130, 3) := by decide +kernel
theorem dX3_fewest_5 : decode cX3_fewest 5 = .ok (.ifCond .ne 5, 3) := by decide +kernel
theorem dX3_fewest_8 : decode cX3_fewest 8 = .ok (.iconst (-1), 1) := by decide +kernel
theorem dX3_fewest_9 : decode cX3_fewest 9 = .ok (.ireturn, 1) := by decide +kernel
theorem dX3_fewest_10 : decode cX3_fewest 10 = .ok (.ldc 138, 2) := by decide +kernel
theorem dX3_fewest_12 : decode cX3_fewest 12 = .ok (.istore_n 2, 1) := by decide +kernel
theorem dX3_fewest_13 : decode cX3_fewest 13 = .ok (.iconst 0, 1) := by decide +kernel
theorem dX3_fewest_14 : decode cX3_fewest 14 = .ok (.istore_n 3, 1) := by decide +kernel
theorem dX3_fewest_15 : decode cX3_fewest 15 = .ok (.iload_n 3, 1) := by decide +kernel
theorem dX3_fewest_16 : decode cX3_fewest 16 = .ok (.aload_n 0, 1) := by decide +kernel
theorem dX3_fewest_17 : decode cX3_fewest 17 = .ok (.getfield 7, 3) := by decide +kernel
theorem dX3_fewest_20 : decode cX3_fewest 20 = .ok (.if_icmp .ge 59, 3) := by decide +kernel
theorem dX3_fewest_23 : decode cX3_fewest 23 = .ok (.iconst 0, 1) := by decide +kernel
theorem dX3_fewest_24 : decode cX3_fewest 24 = .ok (.istore 4, 2) := by decide +kernel
theorem dX3_fewest_26 : decode cX3_fewest 26 = .ok (.iconst 0, 1) := by decide +kernel
theorem dX3_fewest_27 : decode cX3_fewest 27 = .ok (.istore 5, 2) := by decide +kernel
theorem dX3_fewest_29 : decode cX3_fewest 29 = .ok (.iload 5, 2) := by decide +kernel
theorem dX3_fewest_31 : decode cX3_fewest 31 = .ok (.aload_n 0, 1) := by decide +kernel
theorem dX3_fewest_32 : decode cX3_fewest 32 = .ok (.getfield 7, 3) := by decide +kernel
theorem dX3_fewest_35 : decode cX3_fewest 35 = .ok (.if_icmp .ge 31, 3) := by decide +kernel
theorem dX3_fewest_38 : decode cX3_fewest 38 = .ok (.iload 4, 2) := by decide +kernel
theorem dX3_fewest_40 : decode cX3_fewest 40 = .ok (.aload_n 0, 1) := by decide +kernel
theorem dX3_fewest_41 : decode cX3_fewest 41 = .ok (.getfield 23, 3) := by decide +kernel
theorem dX3_fewest_44 : decode cX3_fewest 44 = .ok (.iload 5, 2) := by decide +kernel
theorem dX3_fewest_46 : decode cX3_fewest 46 = .ok (.iaload, 1) := by decide +kernel
theorem dX3_fewest_47 : decode cX3_fewest 47 = .ok (.aload_n 0, 1) := by decide +kernel
theorem dX3_fewest_48 : decode cX3_fewest 48 = .ok (.getfield 23, 3) := by decide +kernel
theorem dX3_fewest_51 : decode cX3_fewest 51 = .ok (.iload_n 3, 1) := by decide +kernel
theorem dX3_fewest_52 : decode cX3_fewest 52 = .ok (.iaload, 1) := by decide +kernel
theorem dX3_fewest_53 : decode cX3_fewest 53 = .ok (.isub, 1) := by decide +kernel
theorem dX3_fewest_54 : decode cX3_fewest 54 = .ok (.invokestatic 77, 3) := by decide +kernel
theorem dX3_fewest_57 : decode cX3_fewest 57 = .ok (.iadd, 1) := by decide +kernel
theorem dX3_fewest_58 : decode cX3_fewest 58 = .ok (.istore 4, 2) := by decide +kernel
theorem dX3_fewest_60 : decode cX3_fewest 60 = .ok (.iinc 5 1, 3) := by decide +kernel
theorem dX3_fewest_63 : decode cX3_fewest 63 = .ok (.goto (-34), 3) := by decide +kernel
theorem dX3_fewest_66 : decode cX3_fewest 66 = .ok (.iload_n 2, 1) := by decide +kernel
theorem dX3_fewest_67 : decode cX3_fewest 67 = .ok (.iload 4, 2) := by decide +kernel
theorem dX3_fewest_69 : decode cX3_fewest 69 = .ok (.invokestatic 46, 3) := by decide +kernel
theorem dX3_fewest_72 : decode cX3_fewest 72 = .ok (.istore_n 2, 1) := by decide +kernel
theorem dX3_fewest_73 : decode cX3_fewest 73 = .ok (.iinc 3 1, 3) := by decide +kernel
theorem dX3_fewest_76 : decode cX3_fewest 76 = .ok (.goto (-61), 3) := by decide +kernel
theorem dX3_fewest_79 : decode cX3_fewest 79 = .ok (.iload_n 2, 1) := by decide +kernel
theorem dX3_fewest_80 : decode cX3_fewest 80 = .ok (.ireturn, 1) := by decide +kernel
set_option maxRecDepth 20000 in
theorem ggX3_fewestTips_X3_isTarget : GoodIn wsX3_fewestTips wsX3_isTarget := goodIn_r _ [6, 7, 8, 9, 5, 10, 43, 44, 45, 46, 47, 48, 49, 50] (by decide +kernel) (by decide +kernel)
set_option maxRecDepth 20000 in
theorem gX3_fewestTips_X3_isTarget : GoodIn wsX3_fewestTips (wsV RX3 118 RX3 yX3_isTarget wsX3_isTarget) := goodIn_app (goodIn_of _ (by decide +kernel)) ggX3_fewestTips_X3_isTarget
set_option maxRecDepth 20000 in
theorem ggX3_fewestTips_X3_fewest : GoodIn wsX3_fewestTips wsX3_fewest := goodIn_r _ [14, 15, 16, 17, 18, 19, 20, 21, 22, 23, 24, 25, 26, 27, 5, 28, 29, 30, 31, 32, 33, 34, 35, 36, 37, 38, 43, 44, 45, 46, 47, 48, 49, 50] (by decide +kernel) (by decide +kernel)
set_option maxRecDepth 20000 in
theorem gX3_fewestTips_X3_fewest : GoodIn wsX3_fewestTips (wsV RX3 139 RX3 yX3_fewest wsX3_fewest) := goodIn_app (goodIn_of _ (by decide +kernel)) ggX3_fewestTips_X3_fewest
set_option maxRecDepth 20000 in
theorem ggX3_fewestTips_X3_no : GoodIn wsX3_fewestTips wsX3_no := goodIn_r _ [42, 1, 43, 44, 45, 46, 47, 48, 49, 50] (by decide +kernel) (by decide +kernel)
set_option maxRecDepth 20000 in
theorem gX3_fewestTips_X3_no : GoodIn wsX3_fewestTips (wsV RX3 66 RX3 yX3_no wsX3_no) := goodIn_app (goodIn_of _ (by decide +kernel)) ggX3_fewestTips_X3_no
theorem dX3_fewestTips_0 : decode cX3_fewestTips 0 = .ok (.aload_n 0, 1) := by decide +kernel
theorem dX3_fewestTips_1 : decode cX3_fewestTips 1 = .ok (.iconst 0, 1) := by decide +kernel
theorem dX3_fewestTips_2 : decode cX3_fewestTips 2 = .ok (.putfield 26, 3) := by decide +kernel
theorem dX3_fewestTips_5 : decode cX3_fewestTips 5 = .ok (.aload_n 0, 1) := by decide +kernel
theorem dX3_fewestTips_6 : decode cX3_fewestTips 6 = .ok (.iload_n 1, 1) := by decide +kernel
theorem dX3_fewestTips_7 : decode cX3_fewestTips 7 = .ok (.invokevirtual 118, 3) := by decide +kernel
theorem dX3_fewestTips_10 : decode cX3_fewestTips 10 = .ok (.ifCond .eq 11, 3) := by decide +kernel
theorem dX3_fewestTips_13 : decode cX3_fewestTips 13 = .ok (.aload_n 0, 1) := by decide +kernel
theorem dX3_fewestTips_14 : decode cX3_fewestTips 14 = .ok (.iload_n 1, 1) := by decide +kernel
theorem dX3_fewestTips_15 : decode cX3_fewestTips 15 = .ok (.invokevirtual 139, 3) := by decide +kernel
theorem dX3_fewestTips_18 : decode cX3_fewestTips 18 = .ok (.goto 8, 3) := by decide +kernel
theorem dX3_fewestTips_21 : decode cX3_fewestTips 21 = .ok (.aload_n 0, 1) := by decide +kernel
theorem dX3_fewestTips_22 : decode cX3_fewestTips 22 = .ok (.iconst 1, 1) := by decide +kernel
theorem dX3_fewestTips_23 : decode cX3_fewestTips 23 = .ok (.invokevirtual 66, 3) := by decide +kernel
theorem dX3_fewestTips_26 : decode cX3_fewestTips 26 = .ok (.ireturn, 1) := by decide +kernel
set_option maxRecDepth 20000 in
theorem ggX3_reach_X3_isTarget : GoodIn wsX3_reach wsX3_isTarget := goodIn_r _ [9, 10, 11, 12, 8, 13, 44, 45, 46, 47, 48, 49, 50, 51] (by decide +kernel) (by decide +kernel)
set_option maxRecDepth 20000 in
theorem gX3_reach_X3_isTarget : GoodIn wsX3_reach (wsV RX3 118 RX3 yX3_isTarget wsX3_isTarget) := goodIn_app (goodIn_of _ (by decide +kernel)) ggX3_reach_X3_isTarget
set_option maxRecDepth 20000 in
theorem ggX3_reach_X3_no : GoodIn wsX3_reach wsX3_no := goodIn_r _ [17, 1, 44, 45, 46, 47, 48, 49, 50, 51] (by decide +kernel) (by decide +kernel)
set_option maxRecDepth 20000 in
theorem gX3_reach_X3_no : GoodIn wsX3_reach (wsV RX3 66 RX3 yX3_no wsX3_no) := goodIn_app (goodIn_of _ (by decide +kernel)) ggX3_reach_X3_no
set_option maxRecDepth 20000 in
theorem ggX3_reach_X3_fewest : GoodIn wsX3_reach wsX3_fewest := goodIn_r _ [21, 22, 2, 23, 24, 25, 26, 27, 28, 29, 30, 31, 32, 33, 8, 34, 35, 36, 37, 38, 3, 39, 40, 41, 42, 43, 44, 45, 46, 47, 48, 49, 50, 51] (by decide +kernel) (by decide +kernel)
set_option maxRecDepth 20000 in
theorem gX3_reach_X3_fewest : GoodIn wsX3_reach (wsV RX3 139 RX3 yX3_fewest wsX3_fewest) := goodIn_app (goodIn_of _ (by decide +kernel)) ggX3_reach_X3_fewest
set_option maxRecDepth 20000 in
theorem ggX3_reach_X3_goal : GoodIn wsX3_reach wsX3_goal := goodIn_r _ [42, 43, 44, 45, 46, 47, 48, 49, 50, 51] (by decide +kernel) (by decide +kernel)
set_option maxRecDepth 20000 in
theorem gX3_reach_X3_goal : GoodIn wsX3_reach (wsV RX3 121 RX3 yX3_goal wsX3_goal) := goodIn_app (goodIn_of _ (by decide +kernel)) ggX3_reach_X3_goal
theorem dX3_reach_0 : decode cX3_reach 0 = .ok (.aload_n 0, 1) := by decide +kernel
theorem dX3_reach_1 : decode cX3_reach 1 = .ok (.iconst 0, 1) := by decide +kernel
theorem dX3_reach_2 : decode cX3_reach 2 = .ok (.putfield 26, 3) := by decide +kernel
theorem dX3_reach_5 : decode cX3_reach 5 = .ok (.aload_n 0, 1) := by decide +kernel
theorem dX3_reach_6 : decode cX3_reach 6 = .ok (.iload_n 1, 1) := by decide +kernel
theorem dX3_reach_7 : decode cX3_reach 7 = .ok (.invokevirtual 118, 3) := by decide +kernel
theorem dX3_reach_10 : decode cX3_reach 10 = .ok (.ifCond .ne 9, 3) := by decide +kernel
theorem dX3_reach_13 : decode cX3_reach 13 = .ok (.aload_n 0, 1) := by decide +kernel
theorem dX3_reach_14 : decode cX3_reach 14 = .ok (.iconst 1, 1) := by decide +kernel
theorem dX3_reach_15 : decode cX3_reach 15 = .ok (.invokevirtual 66, 3) := by decide +kernel
theorem dX3_reach_18 : decode cX3_reach 18 = .ok (.ireturn, 1) := by decide +kernel
theorem dX3_reach_19 : decode cX3_reach 19 = .ok (.aload_n 0, 1) := by decide +kernel
theorem dX3_reach_20 : decode cX3_reach 20 = .ok (.iload_n 1, 1) := by decide +kernel
theorem dX3_reach_21 : decode cX3_reach 21 = .ok (.invokevirtual 139, 3) := by decide +kernel
theorem dX3_reach_24 : decode cX3_reach 24 = .ok (.istore_n 2, 1) := by decide +kernel
theorem dX3_reach_25 : decode cX3_reach 25 = .ok (.iload_n 2, 1) := by decide +kernel
theorem dX3_reach_26 : decode cX3_reach 26 = .ok (.iconst (-1), 1) := by decide +kernel
theorem dX3_reach_27 : decode cX3_reach 27 = .ok (.if_icmp .ne 9, 3) := by decide +kernel
theorem dX3_reach_30 : decode cX3_reach 30 = .ok (.aload_n 0, 1) := by decide +kernel
theorem dX3_reach_31 : decode cX3_reach 31 = .ok (.iconst 2, 1) := by decide +kernel
theorem dX3_reach_32 : decode cX3_reach 32 = .ok (.invokevirtual 66, 3) := by decide +kernel
theorem dX3_reach_35 : decode cX3_reach 35 = .ok (.ireturn, 1) := by decide +kernel
theorem dX3_reach_36 : decode cX3_reach 36 = .ok (.iconst 0, 1) := by decide +kernel
theorem dX3_reach_37 : decode cX3_reach 37 = .ok (.istore_n 3, 1) := by decide +kernel
theorem dX3_reach_38 : decode cX3_reach 38 = .ok (.iload_n 3, 1) := by decide +kernel
theorem dX3_reach_39 : decode cX3_reach 39 = .ok (.aload_n 0, 1) := by decide +kernel
theorem dX3_reach_40 : decode cX3_reach 40 = .ok (.getfield 7, 3) := by decide +kernel
theorem dX3_reach_43 : decode cX3_reach 43 = .ok (.if_icmp .ge 21, 3) := by decide +kernel
theorem dX3_reach_46 : decode cX3_reach 46 = .ok (.aload_n 0, 1) := by decide +kernel
theorem dX3_reach_47 : decode cX3_reach 47 = .ok (.getfield 13, 3) := by decide +kernel
theorem dX3_reach_50 : decode cX3_reach 50 = .ok (.iload_n 3, 1) := by decide +kernel
theorem dX3_reach_51 : decode cX3_reach 51 = .ok (.aload_n 0, 1) := by decide +kernel
theorem dX3_reach_52 : decode cX3_reach 52 = .ok (.iload_n 1, 1) := by decide +kernel
theorem dX3_reach_53 : decode cX3_reach 53 = .ok (.iload_n 3, 1) := by decide +kernel
theorem dX3_reach_54 : decode cX3_reach 54 = .ok (.invokevirtual 121, 3) := by decide +kernel
theorem dX3_reach_57 : decode cX3_reach 57 = .ok (.iastore, 1) := by decide +kernel
theorem dX3_reach_58 : decode cX3_reach 58 = .ok (.iinc 3 1, 3) := by decide +kernel
theorem dX3_reach_61 : decode cX3_reach 61 = .ok (.goto (-23), 3) := by decide +kernel
theorem dX3_reach_64 : decode cX3_reach 64 = .ok (.aload_n 0, 1) := by decide +kernel
theorem dX3_reach_65 : decode cX3_reach 65 = .ok (.dup, 1) := by decide +kernel
theorem dX3_reach_66 : decode cX3_reach 66 = .ok (.getfield 74, 3) := by decide +kernel
theorem dX3_reach_69 : decode cX3_reach 69 = .ok (.iload_n 2, 1) := by decide +kernel
theorem dX3_reach_70 : decode cX3_reach 70 = .ok (.iadd, 1) := by decide +kernel
theorem dX3_reach_71 : decode cX3_reach 71 = .ok (.putfield 74, 3) := by decide +kernel
theorem dX3_reach_74 : decode cX3_reach 74 = .ok (.iload_n 2, 1) := by decide +kernel
theorem dX3_reach_75 : decode cX3_reach 75 = .ok (.ireturn, 1) := by decide +kernel
set_option maxRecDepth 20000 in
theorem ggX3_near_X3_fewest : GoodIn wsX3_near wsX3_fewest := goodIn_r _ [7, 1, 8, 9, 10, 11, 12, 13, 14, 15, 16, 17, 18, 19, 6, 20, 21, 22, 23, 24, 25, 26, 27, 28, 29, 30, 31, 32, 33, 34, 35, 36, 37, 38] (by decide +kernel) (by decide +kernel)
set_option maxRecDepth 20000 in
theorem gX3_near_X3_fewest : GoodIn wsX3_near (wsV RX3 139 RX3 yX3_fewest wsX3_fewest) := goodIn_app (goodIn_of _ (by decide +kernel)) ggX3_near_X3_fewest
theorem dX3_near_0 : decode cX3_near 0 = .ok (.iconst (-1), 1) := by decide +kernel
theorem dX3_near_1 : decode cX3_near 1 = .ok (.istore_n 1, 1) := by decide +kernel
theorem dX3_near_2 : decode cX3_near 2 = .ok (.ldc 138, 2) := by decide +kernel
theorem dX3_near_4 : decode cX3_near 4 = .ok (.istore_n 2, 1) := by decide +kernel
theorem dX3_near_5 : decode cX3_near 5 = .ok (.iconst 0, 1) := by decide +kernel
theorem dX3_near_6 : decode cX3_near 6 = .ok (.istore_n 3, 1) := by decide +kernel
theorem dX3_near_7 : decode cX3_near 7 = .ok (.iload_n 3, 1) := by decide +kernel
theorem dX3_near_8 : decode cX3_near 8 = .ok (.aload_n 0, 1) := by decide +kernel
theorem dX3_near_9 : decode cX3_near 9 = .ok (.getfield 33, 3) := by decide +kernel
theorem dX3_near_12 : decode cX3_near 12 = .ok (.if_icmp .ge 36, 3) := by decide +kernel
theorem dX3_near_15 : decode cX3_near 15 = .ok (.aload_n 0, 1) := by decide +kernel
theorem dX3_near_16 : decode cX3_near 16 = .ok (.iload_n 3, 1) := by decide +kernel
theorem dX3_near_17 : decode cX3_near 17 = .ok (.invokevirtual 139, 3) := by decide +kernel
theorem dX3_near_20 : decode cX3_near 20 = .ok (.istore 4, 2) := by decide +kernel
theorem dX3_near_22 : decode cX3_near 22 = .ok (.iload 4, 2) := by decide +kernel
theorem dX3_near_24 : decode cX3_near 24 = .ok (.iconst (-1), 1) := by decide +kernel
theorem dX3_near_25 : decode cX3_near 25 = .ok (.if_icmp .eq 17, 3) := by decide +kernel
theorem dX3_near_28 : decode cX3_near 28 = .ok (.iload 4, 2) := by decide +kernel
theorem dX3_near_30 : decode cX3_near 30 = .ok (.iload_n 2, 1) := by decide +kernel
theorem dX3_near_31 : decode cX3_near 31 = .ok (.if_icmp .lt 6, 3) := by decide +kernel
theorem dX3_near_34 : decode cX3_near 34 = .ok (.goto 8, 3) := by decide +kernel
theorem dX3_near_37 : decode cX3_near 37 = .ok (.iload_n 3, 1) := by decide +kernel
theorem dX3_near_38 : decode cX3_near 38 = .ok (.istore_n 1, 1) := by decide +kernel
theorem dX3_near_39 : decode cX3_near 39 = .ok (.iload 4, 2) := by decide +kernel
theorem dX3_near_41 : decode cX3_near 41 = .ok (.istore_n 2, 1) := by decide +kernel
theorem dX3_near_42 : decode cX3_near 42 = .ok (.iinc 3 1, 3) := by decide +kernel
theorem dX3_near_45 : decode cX3_near 45 = .ok (.goto (-38), 3) := by decide +kernel
theorem dX3_near_48 : decode cX3_near 48 = .ok (.iload_n 1, 1) := by decide +kernel
theorem dX3_near_49 : decode cX3_near 49 = .ok (.ireturn, 1) := by decide +kernel
set_option maxRecDepth 20000 in
theorem ggX3_nearestTarget_X3_near : GoodIn wsX3_nearestTarget wsX3_near := goodIn_r _ [5, 6, 7, 8, 9, 10, 4, 11, 12, 13, 14, 15, 16, 17, 18, 19, 20, 21, 22, 23, 24, 25, 26, 27, 28, 29, 30, 31, 32, 33, 34, 40, 41, 42, 43, 44, 45, 46, 47] (by decide +kernel) (by decide +kernel)
set_option maxRecDepth 20000 in
theorem gX3_nearestTarget_X3_near : GoodIn wsX3_nearestTarget (wsV RX3 142 RX3 yX3_near wsX3_near) := goodIn_app (goodIn_of _ (by decide +kernel)) ggX3_nearestTarget_X3_near
set_option maxRecDepth 20000 in
theorem ggX3_nearestTarget_X3_ok : GoodIn wsX3_nearestTarget wsX3_ok := goodIn_r _ [38, 39, 40, 41, 42, 43, 44, 45, 46, 47] (by decide +kernel) (by decide +kernel)
set_option maxRecDepth 20000 in
theorem gX3_nearestTarget_X3_ok : GoodIn wsX3_nearestTarget (wsV RX3 80 RX3 yX3_ok wsX3_ok) := goodIn_app (goodIn_of _ (by decide +kernel)) ggX3_nearestTarget_X3_ok
theorem dX3_nearestTarget_0 : decode cX3_nearestTarget 0 = .ok (.aload_n 0, 1) := by decide +kernel
theorem dX3_nearestTarget_1 : decode cX3_nearestTarget 1 = .ok (.aload_n 0, 1) := by decide +kernel
theorem dX3_nearestTarget_2 : decode cX3_nearestTarget 2 = .ok (.invokevirtual 142, 3) := by decide +kernel
theorem dX3_nearestTarget_5 : decode cX3_nearestTarget 5 = .ok (.invokevirtual 80, 3) := by decide +kernel
theorem dX3_nearestTarget_8 : decode cX3_nearestTarget 8 = .ok (.ireturn, 1) := by decide +kernel
set_option maxRecDepth 20000 in
theorem ggX3_rest_X3_look : GoodIn wsX3_rest wsX3_look := goodIn_r _ [6, 7, 1, 8, 9, 10, 11, 33, 34, 35, 36, 37, 38, 39, 40] (by decide +kernel) (by decide +kernel)
set_option maxRecDepth 20000 in
theorem gX3_rest_X3_look : GoodIn wsX3_rest (wsV RX3 145 RX3 yX3_look wsX3_look) := goodIn_app (goodIn_of _ (by decide +kernel)) ggX3_rest_X3_look
set_option maxRecDepth 20000 in
theorem ggX3_rest_X3_settled : GoodIn wsX3_rest wsX3_settled := goodIn_r _ [15, 16, 17, 18, 5, 19, 20, 21, 22, 23, 24, 25, 26, 27, 28, 29, 30, 31, 32, 33, 34, 35, 36, 37, 38, 39, 40] (by decide +kernel) (by decide +kernel)
set_option maxRecDepth 20000 in
theorem gX3_rest_X3_settled : GoodIn wsX3_rest (wsV RX3 83 RX3 yX3_settled wsX3_settled) := goodIn_app (goodIn_of _ (by decide +kernel)) ggX3_rest_X3_settled
set_option maxRecDepth 20000 in
theorem ggX3_rest_X3_firstSteep : GoodIn wsX3_rest wsX3_firstSteep := goodIn_r _ [19, 20, 21, 22, 23, 5, 24, 25, 26, 27, 28, 33, 34, 35, 36, 37, 38, 39, 40] (by decide +kernel) (by decide +kernel)
set_option maxRecDepth 20000 in
theorem gX3_rest_X3_firstSteep : GoodIn wsX3_rest (wsV RX3 58 RX3 yX3_firstSteep wsX3_firstSteep) := goodIn_app (goodIn_of _ (by decide +kernel)) ggX3_rest_X3_firstSteep
theorem dX3_rest_0 : decode cX3_rest 0 = .ok (.aload_n 0, 1) := by decide +kernel
theorem dX3_rest_1 : decode cX3_rest 1 = .ok (.invokevirtual 145, 3) := by decide +kernel
theorem dX3_rest_4 : decode cX3_rest 4 = .ok (.aload_n 0, 1) := by decide +kernel
theorem dX3_rest_5 : decode cX3_rest 5 = .ok (.aload_n 0, 1) := by decide +kernel
theorem dX3_rest_6 : decode cX3_rest 6 = .ok (.getfield 17, 3) := by decide +kernel
theorem dX3_rest_9 : decode cX3_rest 9 = .ok (.sipush 300, 3) := by decide +kernel
theorem dX3_rest_12 : decode cX3_rest 12 = .ok (.invokevirtual 83, 3) := by decide +kernel
theorem dX3_rest_15 : decode cX3_rest 15 = .ok (.istore_n 1, 1) := by decide +kernel
theorem dX3_rest_16 : decode cX3_rest 16 = .ok (.aload_n 0, 1) := by decide +kernel
theorem dX3_rest_17 : decode cX3_rest 17 = .ok (.aload_n 0, 1) := by decide +kernel
theorem dX3_rest_18 : decode cX3_rest 18 = .ok (.getfield 17, 3) := by decide +kernel
theorem dX3_rest_21 : decode cX3_rest 21 = .ok (.invokevirtual 58, 3) := by decide +kernel
theorem dX3_rest_24 : decode cX3_rest 24 = .ok (.iconst (-1), 1) := by decide +kernel
theorem dX3_rest_25 : decode cX3_rest 25 = .ok (.if_icmp .ne 7, 3) := by decide +kernel
theorem dX3_rest_28 : decode cX3_rest 28 = .ok (.iload_n 1, 1) := by decide +kernel
theorem dX3_rest_29 : decode cX3_rest 29 = .ok (.goto 4, 3) := by decide +kernel
theorem dX3_rest_32 : decode cX3_rest 32 = .ok (.iconst (-1), 1) := by decide +kernel
theorem dX3_rest_33 : decode cX3_rest 33 = .ok (.ireturn, 1) := by decide +kernel
set_option maxRecDepth 20000 in
theorem ggX3_stepsToRest_X3_rest : GoodIn wsX3_stepsToRest wsX3_rest := goodIn_r _ [5, 6, 7, 8, 9, 4, 10, 11, 12, 13, 14, 15, 16, 17, 18, 19, 20, 21, 22, 23, 24, 25, 26, 27, 28, 29, 30, 31, 32, 33, 34, 35, 36, 42, 43, 44, 45, 46, 47, 48, 49] (by decide +kernel) (by decide +kernel)
set_option maxRecDepth 20000 in
theorem gX3_stepsToRest_X3_rest : GoodIn wsX3_stepsToRest (wsV RX3 148 RX3 yX3_rest wsX3_rest) := goodIn_app (goodIn_of _ (by decide +kernel)) ggX3_stepsToRest_X3_rest
set_option maxRecDepth 20000 in
theorem ggX3_stepsToRest_X3_ok : GoodIn wsX3_stepsToRest wsX3_ok := goodIn_r _ [40, 41, 42, 43, 44, 45, 46, 47, 48, 49] (by decide +kernel) (by decide +kernel)
set_option maxRecDepth 20000 in
theorem gX3_stepsToRest_X3_ok : GoodIn wsX3_stepsToRest (wsV RX3 80 RX3 yX3_ok wsX3_ok) := goodIn_app (goodIn_of _ (by decide +kernel)) ggX3_stepsToRest_X3_ok
theorem dX3_stepsToRest_0 : decode cX3_stepsToRest 0 = .ok (.aload_n 0, 1) := by decide +kernel
theorem dX3_stepsToRest_1 : decode cX3_stepsToRest 1 = .ok (.aload_n 0, 1) := by decide +kernel
theorem dX3_stepsToRest_2 : decode cX3_stepsToRest 2 = .ok (.invokevirtual 148, 3) := by decide +kernel
theorem dX3_stepsToRest_5 : decode cX3_stepsToRest 5 = .ok (.invokevirtual 80, 3) := by decide +kernel
theorem dX3_stepsToRest_8 : decode cX3_stepsToRest 8 = .ok (.ireturn, 1) := by decide +kernel
set_option maxRecDepth 20000 in
theorem ggX3_wideAtRest_X3_rest : GoodIn wsX3_wideAtRest wsX3_rest := goodIn_r _ [6, 1, 7, 8, 9, 5, 10, 11, 12, 13, 14, 15, 16, 17, 18, 19, 20, 21, 22, 23, 24, 25, 26, 27, 28, 29, 30, 31, 32, 33, 34, 35, 36, 48, 49, 50, 51, 52, 53, 54, 55] (by decide +kernel) (by decide +kernel)
set_option maxRecDepth 20000 in
theorem gX3_wideAtRest_X3_rest : GoodIn wsX3_wideAtRest (wsV RX3 148 RX3 yX3_rest wsX3_rest) := goodIn_app (goodIn_of _ (by decide +kernel)) ggX3_wideAtRest_X3_rest
set_option maxRecDepth 20000 in
theorem ggX3_wideAtRest_X3_wide : GoodIn wsX3_wideAtRest wsX3_wide := goodIn_r _ [40, 24, 41, 42, 43, 44, 45, 46, 47, 48, 49, 50, 51, 52, 53, 54, 55] (by decide +kernel) (by decide +kernel)
set_option maxRecDepth 20000 in
theorem gX3_wideAtRest_X3_wide : GoodIn wsX3_wideAtRest (wsV RX3 97 RX3 yX3_wide wsX3_wide) := goodIn_app (goodIn_of _ (by decide +kernel)) ggX3_wideAtRest_X3_wide
theorem dX3_wideAtRest_0 : decode cX3_wideAtRest 0 = .ok (.aload_n 0, 1) := by decide +kernel
theorem dX3_wideAtRest_1 : decode cX3_wideAtRest 1 = .ok (.invokevirtual 148, 3) := by decide +kernel
theorem dX3_wideAtRest_4 : decode cX3_wideAtRest 4 = .ok (.iconst (-1), 1) := by decide +kernel
theorem dX3_wideAtRest_5 : decode cX3_wideAtRest 5 = .ok (.if_icmp .ne 7, 3) := by decide +kernel
theorem dX3_wideAtRest_8 : decode cX3_wideAtRest 8 = .ok (.iconst (-1), 1) := by decide +kernel
theorem dX3_wideAtRest_9 : decode cX3_wideAtRest 9 = .ok (.goto 11, 3) := by decide +kernel
theorem dX3_wideAtRest_12 : decode cX3_wideAtRest 12 = .ok (.aload_n 0, 1) := by decide +kernel
theorem dX3_wideAtRest_13 : decode cX3_wideAtRest 13 = .ok (.aload_n 0, 1) := by decide +kernel
theorem dX3_wideAtRest_14 : decode cX3_wideAtRest 14 = .ok (.getfield 17, 3) := by decide +kernel
theorem dX3_wideAtRest_17 : decode cX3_wideAtRest 17 = .ok (.invokevirtual 97, 3) := by decide +kernel
theorem dX3_wideAtRest_20 : decode cX3_wideAtRest 20 = .ok (.ireturn, 1) := by decide +kernel
set_option maxRecDepth 20000 in
theorem ggX3_spreadAtRest_X3_wideAtRest : GoodIn wsX3_spreadAtRest wsX3_wideAtRest := goodIn_r _ [5, 6, 7, 8, 9, 4, 10, 11, 12, 13, 14, 15, 16, 17, 18, 19, 20, 21, 22, 23, 24, 25, 26, 27, 28, 29, 30, 31, 32, 33, 34, 35, 36, 37, 38, 39, 40, 41, 42, 43, 44, 45, 46, 47, 48, 49, 50, 51, 57, 58, 59, 60, 61, 62, 63, 64] (by decide +kernel) (by decide +kernel)
set_option maxRecDepth 20000 in
theorem gX3_spreadAtRest_X3_wideAtRest : GoodIn wsX3_spreadAtRest (wsV RX3 151 RX3 yX3_wideAtRest wsX3_wideAtRest) := goodIn_app (goodIn_of _ (by decide +kernel)) ggX3_spreadAtRest_X3_wideAtRest
set_option maxRecDepth 20000 in
theorem ggX3_spreadAtRest_X3_ok : GoodIn wsX3_spreadAtRest wsX3_ok := goodIn_r _ [55, 56, 57, 58, 59, 60, 61, 62, 63, 64] (by decide +kernel) (by decide +kernel)
set_option maxRecDepth 20000 in
theorem gX3_spreadAtRest_X3_ok : GoodIn wsX3_spreadAtRest (wsV RX3 80 RX3 yX3_ok wsX3_ok) := goodIn_app (goodIn_of _ (by decide +kernel)) ggX3_spreadAtRest_X3_ok
theorem dX3_spreadAtRest_0 : decode cX3_spreadAtRest 0 = .ok (.aload_n 0, 1) := by decide +kernel
theorem dX3_spreadAtRest_1 : decode cX3_spreadAtRest 1 = .ok (.aload_n 0, 1) := by decide +kernel
theorem dX3_spreadAtRest_2 : decode cX3_spreadAtRest 2 = .ok (.invokevirtual 151, 3) := by decide +kernel
theorem dX3_spreadAtRest_5 : decode cX3_spreadAtRest 5 = .ok (.invokevirtual 80, 3) := by decide +kernel
theorem dX3_spreadAtRest_8 : decode cX3_spreadAtRest 8 = .ok (.ireturn, 1) := by decide +kernel
set_option maxRecDepth 20000 in
theorem ggX3_wideWith_X3_look : GoodIn wsX3_wideWith wsX3_look := goodIn_r _ [6, 7, 1, 8, 9, 10, 11, 32, 33, 34, 35, 36, 37, 38, 39] (by decide +kernel) (by decide +kernel)
set_option maxRecDepth 20000 in
theorem gX3_wideWith_X3_look : GoodIn wsX3_wideWith (wsV RX3 145 RX3 yX3_look wsX3_look) := goodIn_app (goodIn_of _ (by decide +kernel)) ggX3_wideWith_X3_look
set_option maxRecDepth 20000 in
theorem ggX3_wideWith_X3_lean : GoodIn wsX3_wideWith wsX3_lean := goodIn_r _ [15, 16, 17, 18, 5, 19, 20, 32, 33, 34, 35, 36, 37, 38, 39] (by decide +kernel) (by decide +kernel)
set_option maxRecDepth 20000 in
theorem gX3_wideWith_X3_lean : GoodIn wsX3_wideWith (wsV RX3 62 RX3 yX3_lean wsX3_lean) := goodIn_app (goodIn_of _ (by decide +kernel)) ggX3_wideWith_X3_lean
set_option maxRecDepth 20000 in
theorem ggX3_wideWith_X3_wide : GoodIn wsX3_wideWith wsX3_wide := goodIn_r _ [24, 20, 25, 26, 27, 28, 29, 30, 31, 32, 33, 34, 35, 36, 37, 38, 39] (by decide +kernel) (by decide +kernel)
set_option maxRecDepth 20000 in
theorem gX3_wideWith_X3_wide : GoodIn wsX3_wideWith (wsV RX3 97 RX3 yX3_wide wsX3_wide) := goodIn_app (goodIn_of _ (by decide +kernel)) ggX3_wideWith_X3_wide
theorem dX3_wideWith_0 : decode cX3_wideWith 0 = .ok (.aload_n 0, 1) := by decide +kernel
theorem dX3_wideWith_1 : decode cX3_wideWith 1 = .ok (.invokevirtual 145, 3) := by decide +kernel
theorem dX3_wideWith_4 : decode cX3_wideWith 4 = .ok (.aload_n 0, 1) := by decide +kernel
theorem dX3_wideWith_5 : decode cX3_wideWith 5 = .ok (.aload_n 0, 1) := by decide +kernel
theorem dX3_wideWith_6 : decode cX3_wideWith 6 = .ok (.getfield 17, 3) := by decide +kernel
theorem dX3_wideWith_9 : decode cX3_wideWith 9 = .ok (.iload_n 1, 1) := by decide +kernel
theorem dX3_wideWith_10 : decode cX3_wideWith 10 = .ok (.iload_n 2, 1) := by decide +kernel
theorem dX3_wideWith_11 : decode cX3_wideWith 11 = .ok (.invokevirtual 62, 3) := by decide +kernel
theorem dX3_wideWith_14 : decode cX3_wideWith 14 = .ok (.aload_n 0, 1) := by decide +kernel
theorem dX3_wideWith_15 : decode cX3_wideWith 15 = .ok (.aload_n 0, 1) := by decide +kernel
theorem dX3_wideWith_16 : decode cX3_wideWith 16 = .ok (.getfield 17, 3) := by decide +kernel
theorem dX3_wideWith_19 : decode cX3_wideWith 19 = .ok (.invokevirtual 97, 3) := by decide +kernel
theorem dX3_wideWith_22 : decode cX3_wideWith 22 = .ok (.ireturn, 1) := by decide +kernel
set_option maxRecDepth 20000 in
theorem ggX3_spreadWith_X3_isPlace : GoodIn wsX3_spreadWith wsX3_isPlace := goodIn_r _ [6, 7, 8, 9, 5, 10, 48, 49, 50, 51, 52, 53, 54, 55] (by decide +kernel) (by decide +kernel)
set_option maxRecDepth 20000 in
theorem gX3_spreadWith_X3_isPlace : GoodIn wsX3_spreadWith (wsV RX3 70 RX3 yX3_isPlace wsX3_isPlace) := goodIn_app (goodIn_of _ (by decide +kernel)) ggX3_spreadWith_X3_isPlace
set_option maxRecDepth 20000 in
theorem ggX3_spreadWith_X3_no : GoodIn wsX3_spreadWith wsX3_no := goodIn_r _ [14, 1, 48, 49, 50, 51, 52, 53, 54, 55] (by decide +kernel) (by decide +kernel)
set_option maxRecDepth 20000 in
theorem gX3_spreadWith_X3_no : GoodIn wsX3_spreadWith (wsV RX3 66 RX3 yX3_no wsX3_no) := goodIn_app (goodIn_of _ (by decide +kernel)) ggX3_spreadWith_X3_no
set_option maxRecDepth 20000 in
theorem ggX3_spreadWith_X3_isIn : GoodIn wsX3_spreadWith wsX3_isIn := goodIn_r _ [10] (by decide +kernel) (by decide +kernel)
set_option maxRecDepth 20000 in
theorem gX3_spreadWith_X3_isIn : GoodIn wsX3_spreadWith (va_wsS RX3 29 yX3_isIn wsX3_isIn) := goodIn_app (goodIn_of _ (by decide +kernel)) ggX3_spreadWith_X3_isIn
set_option maxRecDepth 20000 in
theorem ggX3_spreadWith_X3_wideWith : GoodIn wsX3_spreadWith wsX3_wideWith := goodIn_r _ [18, 19, 20, 21, 22, 5, 23, 24, 25, 26, 27, 28, 29, 30, 31, 32, 33, 34, 35, 36, 7, 37, 38, 39, 40, 41, 42, 43, 44, 45, 46, 47, 48, 49, 50, 51, 52, 53, 54, 55] (by decide +kernel) (by decide +kernel)
set_option maxRecDepth 20000 in
theorem gX3_spreadWith_X3_wideWith : GoodIn wsX3_spreadWith (wsV RX3 154 RX3 yX3_wideWith wsX3_wideWith) := goodIn_app (goodIn_of _ (by decide +kernel)) ggX3_spreadWith_X3_wideWith
theorem dX3_spreadWith_0 : decode cX3_spreadWith 0 = .ok (.aload_n 0, 1) := by decide +kernel
theorem dX3_spreadWith_1 : decode cX3_spreadWith 1 = .ok (.iconst 0, 1) := by decide +kernel
theorem dX3_spreadWith_2 : decode cX3_spreadWith 2 = .ok (.putfield 26, 3) := by decide +kernel
theorem dX3_spreadWith_5 : decode cX3_spreadWith 5 = .ok (.aload_n 0, 1) := by decide +kernel
theorem dX3_spreadWith_6 : decode cX3_spreadWith 6 = .ok (.iload_n 1, 1) := by decide +kernel
theorem dX3_spreadWith_7 : decode cX3_spreadWith 7 = .ok (.invokevirtual 70, 3) := by decide +kernel
theorem dX3_spreadWith_10 : decode cX3_spreadWith 10 = .ok (.ifCond .ne 9, 3) := by decide +kernel
theorem dX3_spreadWith_13 : decode cX3_spreadWith 13 = .ok (.aload_n 0, 1) := by decide +kernel
theorem dX3_spreadWith_14 : decode cX3_spreadWith 14 = .ok (.iconst 1, 1) := by decide +kernel
theorem dX3_spreadWith_15 : decode cX3_spreadWith 15 = .ok (.invokevirtual 66, 3) := by decide +kernel
theorem dX3_spreadWith_18 : decode cX3_spreadWith 18 = .ok (.ireturn, 1) := by decide +kernel
theorem dX3_spreadWith_19 : decode cX3_spreadWith 19 = .ok (.iload_n 2, 1) := by decide +kernel
theorem dX3_spreadWith_20 : decode cX3_spreadWith 20 = .ok (.bipush (-50), 2) := by decide +kernel
theorem dX3_spreadWith_22 : decode cX3_spreadWith 22 = .ok (.bipush 50, 2) := by decide +kernel
theorem dX3_spreadWith_24 : decode cX3_spreadWith 24 = .ok (.invokestatic 29, 3) := by decide +kernel
theorem dX3_spreadWith_27 : decode cX3_spreadWith 27 = .ok (.ifCond .eq 12, 3) := by decide +kernel
theorem dX3_spreadWith_30 : decode cX3_spreadWith 30 = .ok (.aload_n 0, 1) := by decide +kernel
theorem dX3_spreadWith_31 : decode cX3_spreadWith 31 = .ok (.iload_n 1, 1) := by decide +kernel
theorem dX3_spreadWith_32 : decode cX3_spreadWith 32 = .ok (.iload_n 2, 1) := by decide +kernel
theorem dX3_spreadWith_33 : decode cX3_spreadWith 33 = .ok (.invokevirtual 154, 3) := by decide +kernel
theorem dX3_spreadWith_36 : decode cX3_spreadWith 36 = .ok (.goto 8, 3) := by decide +kernel
theorem dX3_spreadWith_39 : decode cX3_spreadWith 39 = .ok (.aload_n 0, 1) := by decide +kernel
theorem dX3_spreadWith_40 : decode cX3_spreadWith 40 = .ok (.iconst 2, 1) := by decide +kernel
theorem dX3_spreadWith_41 : decode cX3_spreadWith 41 = .ok (.invokevirtual 66, 3) := by decide +kernel
theorem dX3_spreadWith_44 : decode cX3_spreadWith 44 = .ok (.ireturn, 1) := by decide +kernel
set_option maxRecDepth 20000 in
theorem ggX3_best_X3_wide : GoodIn wsX3_best wsX3_wide := goodIn_r _ [11, 2, 3, 4, 5, 6, 12, 13, 14, 36, 37, 38, 39, 40, 41, 42, 43] (by decide +kernel) (by decide +kernel)
set_option maxRecDepth 20000 in
theorem gX3_best_X3_wide : GoodIn wsX3_best (wsV RX3 97 RX3 yX3_wide wsX3_wide) := goodIn_app (goodIn_of _ (by decide +kernel)) ggX3_best_X3_wide
set_option maxRecDepth 20000 in
theorem ggX3_best_X3_wideWith : GoodIn wsX3_best wsX3_wideWith := goodIn_r _ [18, 19, 20, 21, 22, 10, 23, 1, 24, 25, 26, 27, 28, 29, 30, 31, 32, 33, 34, 35, 2, 7, 8, 9, 11, 3, 4, 5, 6, 12, 13, 14, 36, 37, 38, 39, 40, 41, 42, 43] (by decide +kernel) (by decide +kernel)
set_option maxRecDepth 20000 in
theorem gX3_best_X3_wideWith : GoodIn wsX3_best (wsV RX3 154 RX3 yX3_wideWith wsX3_wideWith) := goodIn_app (goodIn_of _ (by decide +kernel)) ggX3_best_X3_wideWith
theorem dX3_best_0 : decode cX3_best 0 = .ok (.iconst (-1), 1) := by decide +kernel
theorem dX3_best_1 : decode cX3_best 1 = .ok (.istore_n 1, 1) := by decide +kernel
theorem dX3_best_2 : decode cX3_best 2 = .ok (.aload_n 0, 1) := by decide +kernel
theorem dX3_best_3 : decode cX3_best 3 = .ok (.aload_n 0, 1) := by decide +kernel
theorem dX3_best_4 : decode cX3_best 4 = .ok (.getfield 13, 3) := by decide +kernel
theorem dX3_best_7 : decode cX3_best 7 = .ok (.invokevirtual 97, 3) := by decide +kernel
theorem dX3_best_10 : decode cX3_best 10 = .ok (.istore_n 2, 1) := by decide +kernel
theorem dX3_best_11 : decode cX3_best 11 = .ok (.iconst 0, 1) := by decide +kernel
theorem dX3_best_12 : decode cX3_best 12 = .ok (.istore_n 3, 1) := by decide +kernel
theorem dX3_best_13 : decode cX3_best 13 = .ok (.iload_n 3, 1) := by decide +kernel
theorem dX3_best_14 : decode cX3_best 14 = .ok (.aload_n 0, 1) := by decide +kernel
theorem dX3_best_15 : decode cX3_best 15 = .ok (.getfield 7, 3) := by decide +kernel
theorem dX3_best_18 : decode cX3_best 18 = .ok (.if_icmp .ge 40, 3) := by decide +kernel
theorem dX3_best_21 : decode cX3_best 21 = .ok (.aload_n 0, 1) := by decide +kernel
theorem dX3_best_22 : decode cX3_best 22 = .ok (.iload_n 3, 1) := by decide +kernel
theorem dX3_best_23 : decode cX3_best 23 = .ok (.iconst 1, 1) := by decide +kernel
theorem dX3_best_24 : decode cX3_best 24 = .ok (.invokevirtual 154, 3) := by decide +kernel
theorem dX3_best_27 : decode cX3_best 27 = .ok (.aload_n 0, 1) := by decide +kernel
theorem dX3_best_28 : decode cX3_best 28 = .ok (.iload_n 3, 1) := by decide +kernel
theorem dX3_best_29 : decode cX3_best 29 = .ok (.iconst (-1), 1) := by decide +kernel
theorem dX3_best_30 : decode cX3_best 30 = .ok (.invokevirtual 154, 3) := by decide +kernel
theorem dX3_best_33 : decode cX3_best 33 = .ok (.invokestatic 46, 3) := by decide +kernel
theorem dX3_best_36 : decode cX3_best 36 = .ok (.istore 4, 2) := by decide +kernel
theorem dX3_best_38 : decode cX3_best 38 = .ok (.iload 4, 2) := by decide +kernel
theorem dX3_best_40 : decode cX3_best 40 = .ok (.iload_n 2, 1) := by decide +kernel
theorem dX3_best_41 : decode cX3_best 41 = .ok (.if_icmp .lt 6, 3) := by decide +kernel
theorem dX3_best_44 : decode cX3_best 44 = .ok (.goto 8, 3) := by decide +kernel
theorem dX3_best_47 : decode cX3_best 47 = .ok (.iload_n 3, 1) := by decide +kernel
theorem dX3_best_48 : decode cX3_best 48 = .ok (.istore_n 1, 1) := by decide +kernel
theorem dX3_best_49 : decode cX3_best 49 = .ok (.iload 4, 2) := by decide +kernel
theorem dX3_best_51 : decode cX3_best 51 = .ok (.istore_n 2, 1) := by decide +kernel
theorem dX3_best_52 : decode cX3_best 52 = .ok (.iinc 3 1, 3) := by decide +kernel
theorem dX3_best_55 : decode cX3_best 55 = .ok (.goto (-42), 3) := by decide +kernel
theorem dX3_best_58 : decode cX3_best 58 = .ok (.iload_n 1, 1) := by decide +kernel
theorem dX3_best_59 : decode cX3_best 59 = .ok (.ireturn, 1) := by decide +kernel
set_option maxRecDepth 20000 in
theorem ggX3_bestPlace_X3_best : GoodIn wsX3_bestPlace wsX3_best := goodIn_r _ [5, 6, 7, 8, 9, 10, 11, 12, 13, 14, 4, 15, 16, 17, 18, 19, 20, 21, 22, 23, 24, 25, 26, 27, 28, 29, 30, 31, 32, 33, 34, 35, 36, 37, 38, 39, 45, 46, 47, 48, 49, 50, 51, 52] (by decide +kernel) (by decide +kernel)
set_option maxRecDepth 20000 in
theorem gX3_bestPlace_X3_best : GoodIn wsX3_bestPlace (wsV RX3 157 RX3 yX3_best wsX3_best) := goodIn_app (goodIn_of _ (by decide +kernel)) ggX3_bestPlace_X3_best
set_option maxRecDepth 20000 in
theorem ggX3_bestPlace_X3_ok : GoodIn wsX3_bestPlace wsX3_ok := goodIn_r _ [43, 44, 45, 46, 47, 48, 49, 50, 51, 52] (by decide +kernel) (by decide +kernel)
set_option maxRecDepth 20000 in
theorem gX3_bestPlace_X3_ok : GoodIn wsX3_bestPlace (wsV RX3 80 RX3 yX3_ok wsX3_ok) := goodIn_app (goodIn_of _ (by decide +kernel)) ggX3_bestPlace_X3_ok
theorem dX3_bestPlace_0 : decode cX3_bestPlace 0 = .ok (.aload_n 0, 1) := by decide +kernel
theorem dX3_bestPlace_1 : decode cX3_bestPlace 1 = .ok (.aload_n 0, 1) := by decide +kernel
theorem dX3_bestPlace_2 : decode cX3_bestPlace 2 = .ok (.invokevirtual 157, 3) := by decide +kernel
theorem dX3_bestPlace_5 : decode cX3_bestPlace 5 = .ok (.invokevirtual 80, 3) := by decide +kernel
theorem dX3_bestPlace_8 : decode cX3_bestPlace 8 = .ok (.ireturn, 1) := by decide +kernel
set_option maxRecDepth 20000 in
theorem ggX3_fits_X3_solves : GoodIn wsX3_fits wsX3_solves := goodIn_r _ [8, 1, 9, 10, 11, 12, 7, 13, 3, 14, 15, 16, 17, 18, 19, 20, 21, 22, 23, 24, 25, 26] (by decide +kernel) (by decide +kernel)
set_option maxRecDepth 20000 in
theorem gX3_fits_X3_solves : GoodIn wsX3_fits (wsV RX3 130 RX3 yX3_solves wsX3_solves) := goodIn_app (goodIn_of _ (by decide +kernel)) ggX3_fits_X3_solves
theorem dX3_fits_0 : decode cX3_fits 0 = .ok (.iconst (-1), 1) := by decide +kernel
theorem dX3_fits_1 : decode cX3_fits 1 = .ok (.istore_n 2, 1) := by decide +kernel
theorem dX3_fits_2 : decode cX3_fits 2 = .ok (.iconst 0, 1) := by decide +kernel
theorem dX3_fits_3 : decode cX3_fits 3 = .ok (.istore_n 3, 1) := by decide +kernel
theorem dX3_fits_4 : decode cX3_fits 4 = .ok (.iload_n 3, 1) := by decide +kernel
theorem dX3_fits_5 : decode cX3_fits 5 = .ok (.aload_n 0, 1) := by decide +kernel
theorem dX3_fits_6 : decode cX3_fits 6 = .ok (.getfield 7, 3) := by decide +kernel
theorem dX3_fits_9 : decode cX3_fits 9 = .ok (.if_icmp .ge 54, 3) := by decide +kernel
theorem dX3_fits_12 : decode cX3_fits 12 = .ok (.aload_n 0, 1) := by decide +kernel
theorem dX3_fits_13 : decode cX3_fits 13 = .ok (.getfield 33, 3) := by decide +kernel
theorem dX3_fits_16 : decode cX3_fits 16 = .ok (.ifCond .le 47, 3) := by decide +kernel
theorem dX3_fits_19 : decode cX3_fits 19 = .ok (.iload_n 2, 1) := by decide +kernel
theorem dX3_fits_20 : decode cX3_fits 20 = .ok (.iconst (-1), 1) := by decide +kernel
theorem dX3_fits_21 : decode cX3_fits 21 = .ok (.if_icmp .ne 42, 3) := by decide +kernel
theorem dX3_fits_24 : decode cX3_fits 24 = .ok (.aload_n 0, 1) := by decide +kernel
theorem dX3_fits_25 : decode cX3_fits 25 = .ok (.getfield 13, 3) := by decide +kernel
theorem dX3_fits_28 : decode cX3_fits 28 = .ok (.iload_n 3, 1) := by decide +kernel
theorem dX3_fits_29 : decode cX3_fits 29 = .ok (.iaload, 1) := by decide +kernel
theorem dX3_fits_30 : decode cX3_fits 30 = .ok (.istore 4, 2) := by decide +kernel
theorem dX3_fits_32 : decode cX3_fits 32 = .ok (.aload_n 0, 1) := by decide +kernel
theorem dX3_fits_33 : decode cX3_fits 33 = .ok (.getfield 13, 3) := by decide +kernel
theorem dX3_fits_36 : decode cX3_fits 36 = .ok (.iload_n 3, 1) := by decide +kernel
theorem dX3_fits_37 : decode cX3_fits 37 = .ok (.iload_n 1, 1) := by decide +kernel
theorem dX3_fits_38 : decode cX3_fits 38 = .ok (.iastore, 1) := by decide +kernel
theorem dX3_fits_39 : decode cX3_fits 39 = .ok (.aload_n 0, 1) := by decide +kernel
theorem dX3_fits_40 : decode cX3_fits 40 = .ok (.iconst 0, 1) := by decide +kernel
theorem dX3_fits_41 : decode cX3_fits 41 = .ok (.invokevirtual 130, 3) := by decide +kernel
theorem dX3_fits_44 : decode cX3_fits 44 = .ok (.ifCond .eq 5, 3) := by decide +kernel
theorem dX3_fits_47 : decode cX3_fits 47 = .ok (.iload_n 3, 1) := by decide +kernel
theorem dX3_fits_48 : decode cX3_fits 48 = .ok (.istore_n 2, 1) := by decide +kernel
theorem dX3_fits_49 : decode cX3_fits 49 = .ok (.aload_n 0, 1) := by decide +kernel
theorem dX3_fits_50 : decode cX3_fits 50 = .ok (.getfield 13, 3) := by decide +kernel
theorem dX3_fits_53 : decode cX3_fits 53 = .ok (.iload_n 3, 1) := by decide +kernel
theorem dX3_fits_54 : decode cX3_fits 54 = .ok (.iload 4, 2) := by decide +kernel
theorem dX3_fits_56 : decode cX3_fits 56 = .ok (.iastore, 1) := by decide +kernel
theorem dX3_fits_57 : decode cX3_fits 57 = .ok (.iinc 3 1, 3) := by decide +kernel
theorem dX3_fits_60 : decode cX3_fits 60 = .ok (.goto (-56), 3) := by decide +kernel
theorem dX3_fits_63 : decode cX3_fits 63 = .ok (.iload_n 2, 1) := by decide +kernel
theorem dX3_fits_64 : decode cX3_fits 64 = .ok (.ireturn, 1) := by decide +kernel
set_option maxRecDepth 20000 in
theorem ggX3_placeFor_X3_isIn : GoodIn wsX3_placeFor wsX3_isIn := goodIn_r _ [5] (by decide +kernel) (by decide +kernel)
set_option maxRecDepth 20000 in
theorem gX3_placeFor_X3_isIn : GoodIn wsX3_placeFor (va_wsS RX3 29 yX3_isIn wsX3_isIn) := goodIn_app (goodIn_of _ (by decide +kernel)) ggX3_placeFor_X3_isIn
set_option maxRecDepth 20000 in
theorem ggX3_placeFor_X3_fits : GoodIn wsX3_placeFor wsX3_fits := goodIn_r _ [9, 10, 11, 12, 13, 14, 15, 4, 16, 17, 18, 19, 20, 21, 22, 23, 24, 25, 26, 31, 32, 33, 34, 35, 36, 37, 38] (by decide +kernel) (by decide +kernel)
set_option maxRecDepth 20000 in
theorem gX3_placeFor_X3_fits : GoodIn wsX3_placeFor (wsV RX3 160 RX3 yX3_fits wsX3_fits) := goodIn_app (goodIn_of _ (by decide +kernel)) ggX3_placeFor_X3_fits
set_option maxRecDepth 20000 in
theorem ggX3_placeFor_X3_no : GoodIn wsX3_placeFor wsX3_no := goodIn_r _ [30, 1, 31, 32, 33, 34, 35, 36, 37, 38] (by decide +kernel) (by decide +kernel)
set_option maxRecDepth 20000 in
theorem gX3_placeFor_X3_no : GoodIn wsX3_placeFor (wsV RX3 66 RX3 yX3_no wsX3_no) := goodIn_app (goodIn_of _ (by decide +kernel)) ggX3_placeFor_X3_no
theorem dX3_placeFor_0 : decode cX3_placeFor 0 = .ok (.aload_n 0, 1) := by decide +kernel
theorem dX3_placeFor_1 : decode cX3_placeFor 1 = .ok (.iconst 0, 1) := by decide +kernel
theorem dX3_placeFor_2 : decode cX3_placeFor 2 = .ok (.putfield 26, 3) := by decide +kernel
theorem dX3_placeFor_5 : decode cX3_placeFor 5 = .ok (.iload_n 1, 1) := by decide +kernel
theorem dX3_placeFor_6 : decode cX3_placeFor 6 = .ok (.sipush (-999), 3) := by decide +kernel
theorem dX3_placeFor_9 : decode cX3_placeFor 9 = .ok (.sipush 999, 3) := by decide +kernel
theorem dX3_placeFor_12 : decode cX3_placeFor 12 = .ok (.invokestatic 29, 3) := by decide +kernel
theorem dX3_placeFor_15 : decode cX3_placeFor 15 = .ok (.ifCond .eq 11, 3) := by decide +kernel
theorem dX3_placeFor_18 : decode cX3_placeFor 18 = .ok (.aload_n 0, 1) := by decide +kernel
theorem dX3_placeFor_19 : decode cX3_placeFor 19 = .ok (.iload_n 1, 1) := by decide +kernel
theorem dX3_placeFor_20 : decode cX3_placeFor 20 = .ok (.invokevirtual 160, 3) := by decide +kernel
theorem dX3_placeFor_23 : decode cX3_placeFor 23 = .ok (.goto 8, 3) := by decide +kernel
theorem dX3_placeFor_26 : decode cX3_placeFor 26 = .ok (.aload_n 0, 1) := by decide +kernel
theorem dX3_placeFor_27 : decode cX3_placeFor 27 = .ok (.iconst 1, 1) := by decide +kernel
theorem dX3_placeFor_28 : decode cX3_placeFor 28 = .ok (.invokevirtual 66, 3) := by decide +kernel
theorem dX3_placeFor_31 : decode cX3_placeFor 31 = .ok (.ireturn, 1) := by decide +kernel
set_option maxRecDepth 20000 in
theorem ggX3_meanNumber_X3_sumOf : GoodIn wsX3_meanNumber wsX3_sumOf := goodIn_r _ [7, 2, 8, 9, 10, 11, 12, 13, 14, 15, 16] (by decide +kernel) (by decide +kernel)
set_option maxRecDepth 20000 in
theorem gX3_meanNumber_X3_sumOf : GoodIn wsX3_meanNumber (wsV RX3 87 RX3 yX3_sumOf wsX3_sumOf) := goodIn_app (goodIn_of _ (by decide +kernel)) ggX3_meanNumber_X3_sumOf
theorem dX3_meanNumber_0 : decode cX3_meanNumber 0 = .ok (.aload_n 0, 1) := by decide +kernel
theorem dX3_meanNumber_1 : decode cX3_meanNumber 1 = .ok (.iconst 0, 1) := by decide +kernel
theorem dX3_meanNumber_2 : decode cX3_meanNumber 2 = .ok (.putfield 26, 3) := by decide +kernel
theorem dX3_meanNumber_5 : decode cX3_meanNumber 5 = .ok (.aload_n 0, 1) := by decide +kernel
theorem dX3_meanNumber_6 : decode cX3_meanNumber 6 = .ok (.invokevirtual 87, 3) := by decide +kernel
theorem dX3_meanNumber_9 : decode cX3_meanNumber 9 = .ok (.i2d, 1) := by decide +kernel
theorem dX3_meanNumber_10 : decode cX3_meanNumber 10 = .ok (.aload_n 0, 1) := by decide +kernel
theorem dX3_meanNumber_11 : decode cX3_meanNumber 11 = .ok (.getfield 7, 3) := by decide +kernel
theorem dX3_meanNumber_14 : decode cX3_meanNumber 14 = .ok (.i2d, 1) := by decide +kernel
theorem dX3_meanNumber_15 : decode cX3_meanNumber 15 = .ok (.ddiv, 1) := by decide +kernel
theorem dX3_meanNumber_16 : decode cX3_meanNumber 16 = .ok (.dreturn, 1) := by decide +kernel
set_option maxRecDepth 20000 in
theorem ggX3_digest_X3_sumOf : GoodIn wsX3_digest wsX3_sumOf := goodIn_r _ [13, 3, 6, 136, 137, 138, 139, 140, 141, 142, 143] (by decide +kernel) (by decide +kernel)
set_option maxRecDepth 20000 in
theorem gX3_digest_X3_sumOf : GoodIn wsX3_digest (wsV RX3 87 RX3 yX3_sumOf wsX3_sumOf) := goodIn_app (goodIn_of _ (by decide +kernel)) ggX3_digest_X3_sumOf
set_option maxRecDepth 20000 in
theorem ggX3_digest_X3_turning : GoodIn wsX3_digest wsX3_turning := goodIn_r _ [17, 3, 6, 18, 19, 20, 21, 136, 137, 138, 139, 140, 141, 142, 143] (by decide +kernel) (by decide +kernel)
set_option maxRecDepth 20000 in
theorem gX3_digest_X3_turning : GoodIn wsX3_digest (wsV RX3 94 RX3 yX3_turning wsX3_turning) := goodIn_app (goodIn_of _ (by decide +kernel)) ggX3_digest_X3_turning
set_option maxRecDepth 20000 in
theorem ggX3_digest_X3_wide : GoodIn wsX3_digest wsX3_wide := goodIn_r _ [25, 3, 26, 27, 28, 29, 30, 31, 32, 136, 137, 138, 139, 140, 141, 142, 143] (by decide +kernel) (by decide +kernel)
set_option maxRecDepth 20000 in
theorem gX3_digest_X3_wide : GoodIn wsX3_digest (wsV RX3 97 RX3 yX3_wide wsX3_wide) := goodIn_app (goodIn_of _ (by decide +kernel)) ggX3_digest_X3_wide
set_option maxRecDepth 20000 in
theorem ggX3_digest_X3_top : GoodIn wsX3_digest wsX3_top := goodIn_r _ [36, 3, 6, 136, 137, 138, 139, 140, 141, 142, 143] (by decide +kernel) (by decide +kernel)
set_option maxRecDepth 20000 in
theorem gX3_digest_X3_top : GoodIn wsX3_digest (wsV RX3 100 RX3 yX3_top wsX3_top) := goodIn_app (goodIn_of _ (by decide +kernel)) ggX3_digest_X3_top
set_option maxRecDepth 20000 in
theorem ggX3_digest_X3_manySteep : GoodIn wsX3_digest wsX3_manySteep := goodIn_r _ [40, 3, 6, 41, 42, 43, 12, 44, 45, 46, 47, 48, 136, 137, 138, 139, 140, 141, 142, 143] (by decide +kernel) (by decide +kernel)
set_option maxRecDepth 20000 in
theorem gX3_digest_X3_manySteep : GoodIn wsX3_digest (wsV RX3 106 RX3 yX3_manySteep wsX3_manySteep) := goodIn_app (goodIn_of _ (by decide +kernel)) ggX3_digest_X3_manySteep
set_option maxRecDepth 20000 in
theorem ggX3_digest_X3_firstSteep : GoodIn wsX3_digest wsX3_firstSteep := goodIn_r _ [52, 3, 41, 42, 43, 12, 44, 45, 46, 47, 48, 136, 137, 138, 139, 140, 141, 142, 143] (by decide +kernel) (by decide +kernel)
set_option maxRecDepth 20000 in
theorem gX3_digest_X3_firstSteep : GoodIn wsX3_digest (wsV RX3 58 RX3 yX3_firstSteep wsX3_firstSteep) := goodIn_app (goodIn_of _ (by decide +kernel)) ggX3_digest_X3_firstSteep
set_option maxRecDepth 20000 in
theorem ggX3_digest_X3_level : GoodIn wsX3_digest wsX3_level := goodIn_r _ [56, 3, 57, 58, 59, 12, 60, 6, 45, 46, 47, 48, 136, 137, 138, 139, 140, 141, 142, 143] (by decide +kernel) (by decide +kernel)
set_option maxRecDepth 20000 in
theorem gX3_digest_X3_level : GoodIn wsX3_digest (wsV RX3 112 RX3 yX3_level wsX3_level) := goodIn_app (goodIn_of _ (by decide +kernel)) ggX3_digest_X3_level
set_option maxRecDepth 20000 in
theorem ggX3_digest_X3_flattest : GoodIn wsX3_digest wsX3_flattest := goodIn_r _ [64, 3, 65, 66, 28, 67, 57, 58, 59, 12, 60, 6, 45, 46, 47, 48, 136, 137, 138, 139, 140, 141, 142, 143] (by decide +kernel) (by decide +kernel)
set_option maxRecDepth 20000 in
theorem gX3_digest_X3_flattest : GoodIn wsX3_digest (wsV RX3 115 RX3 yX3_flattest wsX3_flattest) := goodIn_app (goodIn_of _ (by decide +kernel)) ggX3_digest_X3_flattest
set_option maxRecDepth 20000 in
theorem ggX3_digest_X3_manySolved : GoodIn wsX3_digest wsX3_manySolved := goodIn_r _ [71, 4, 72, 73, 74, 12, 75, 3, 76, 77, 78, 79, 80, 6, 81, 82, 83, 84, 85, 136, 137, 138, 139, 140, 141, 142, 143] (by decide +kernel) (by decide +kernel)
set_option maxRecDepth 20000 in
theorem gX3_digest_X3_manySolved : GoodIn wsX3_digest (wsV RX3 133 RX3 yX3_manySolved wsX3_manySolved) := goodIn_app (goodIn_of _ (by decide +kernel)) ggX3_digest_X3_manySolved
set_option maxRecDepth 20000 in
theorem ggX3_digest_X3_near : GoodIn wsX3_digest wsX3_near := goodIn_r _ [89, 90, 4, 91, 92, 93, 12, 94, 3, 76, 65, 66, 28, 67, 26, 27, 29, 72, 73, 74, 75, 77, 78, 79, 80, 6, 81, 82, 83, 84, 85, 136, 137, 138, 139, 140, 141, 142, 143] (by decide +kernel) (by decide +kernel)
set_option maxRecDepth 20000 in
theorem gX3_digest_X3_near : GoodIn wsX3_digest (wsV RX3 142 RX3 yX3_near wsX3_near) := goodIn_app (goodIn_of _ (by decide +kernel)) ggX3_digest_X3_near
set_option maxRecDepth 20000 in
theorem ggX3_digest_X3_rest : GoodIn wsX3_digest wsX3_rest := goodIn_r _ [98, 99, 100, 101, 102, 12, 103, 6, 104, 105, 106, 107, 108, 109, 110, 111, 49, 50, 51, 52, 3, 41, 42, 43, 44, 45, 46, 47, 48, 112, 113, 114, 115, 136, 137, 138, 139, 140, 141, 142, 143] (by decide +kernel) (by decide +kernel)
set_option maxRecDepth 20000 in
theorem gX3_digest_X3_rest : GoodIn wsX3_digest (wsV RX3 148 RX3 yX3_rest wsX3_rest) := goodIn_app (goodIn_of _ (by decide +kernel)) ggX3_digest_X3_rest
set_option maxRecDepth 20000 in
theorem ggX3_digest_X3_wideAtRest : GoodIn wsX3_digest wsX3_wideAtRest := goodIn_r _ [119, 99, 95, 96, 97, 12, 98, 100, 101, 102, 103, 6, 104, 105, 106, 107, 108, 109, 110, 111, 49, 50, 51, 52, 3, 41, 42, 43, 44, 45, 46, 47, 48, 112, 113, 114, 115, 22, 23, 24, 25, 26, 27, 28, 29, 30, 31, 32, 136, 137, 138, 139, 140, 141, 142, 143] (by decide +kernel) (by decide +kernel)
set_option maxRecDepth 20000 in
theorem gX3_digest_X3_wideAtRest : GoodIn wsX3_digest (wsV RX3 151 RX3 yX3_wideAtRest wsX3_wideAtRest) := goodIn_app (goodIn_of _ (by decide +kernel)) ggX3_digest_X3_wideAtRest
set_option maxRecDepth 20000 in
theorem ggX3_digest_X3_best : GoodIn wsX3_digest wsX3_best := goodIn_r _ [123, 6, 3, 26, 27, 28, 29, 22, 23, 24, 12, 25, 30, 31, 32, 124, 125, 126, 127, 99, 100, 101, 102, 103, 104, 105, 106, 107, 112, 113, 114, 115, 45, 46, 47, 48, 136, 137, 138, 139, 140, 141, 142, 143] (by decide +kernel) (by decide +kernel)
set_option maxRecDepth 20000 in
theorem gX3_digest_X3_best : GoodIn wsX3_digest (wsV RX3 157 RX3 yX3_best wsX3_best) := goodIn_app (goodIn_of _ (by decide +kernel)) ggX3_digest_X3_best
set_option maxRecDepth 20000 in
theorem ggX3_digest_X3_fits : GoodIn wsX3_digest wsX3_fits := goodIn_r _ [131, 3, 4, 6, 72, 73, 74, 12, 75, 76, 77, 78, 79, 80, 81, 82, 83, 84, 85, 136, 137, 138, 139, 140, 141, 142, 143] (by decide +kernel) (by decide +kernel)
set_option maxRecDepth 20000 in
theorem gX3_digest_X3_fits : GoodIn wsX3_digest (wsV RX3 160 RX3 yX3_fits wsX3_fits) := goodIn_app (goodIn_of _ (by decide +kernel)) ggX3_digest_X3_fits
set_option maxRecDepth 20000 in
theorem ggX3_digest_X3_steep : GoodIn wsX3_digest wsX3_steep := goodIn_r _ [44, 45, 46, 47, 12, 48, 3, 136, 137, 138, 139, 140, 141, 142, 143] (by decide +kernel) (by decide +kernel)
set_option maxRecDepth 20000 in
theorem gX3_digest_X3_steep : GoodIn wsX3_digest (wsV RX3 54 RX3 yX3_steep wsX3_steep) := goodIn_app (goodIn_of _ (by decide +kernel)) ggX3_digest_X3_steep
set_option maxRecDepth 20000 in
theorem ggX3_digest_X3_tiltOn : GoodIn wsX3_digest wsX3_tiltOn := goodIn_r _ [60, 3, 6, 45, 46, 47, 12, 48, 136, 137, 138, 139, 140, 141, 142, 143] (by decide +kernel) (by decide +kernel)
set_option maxRecDepth 20000 in
theorem gX3_digest_X3_tiltOn : GoodIn wsX3_digest (wsV RX3 109 RX3 yX3_tiltOn wsX3_tiltOn) := goodIn_app (goodIn_of _ (by decide +kernel)) ggX3_digest_X3_tiltOn
set_option maxRecDepth 20000 in
theorem ggX3_digest_X3_others : GoodIn wsX3_digest wsX3_others := goodIn_r _ [135, 3, 6, 81, 82, 83, 12, 84, 85, 136, 137, 138, 139, 140, 141, 142, 143] (by decide +kernel) (by decide +kernel)
set_option maxRecDepth 20000 in
theorem gX3_digest_X3_others : GoodIn wsX3_digest (wsV RX3 124 RX3 yX3_others wsX3_others) := goodIn_app (goodIn_of _ (by decide +kernel)) ggX3_digest_X3_others
set_option maxRecDepth 20000 in
theorem ggX3_digest_X3_solves : GoodIn wsX3_digest wsX3_solves := goodIn_r _ [75, 3, 76, 77, 78, 79, 12, 80, 6, 81, 82, 83, 84, 85, 136, 137, 138, 139, 140, 141, 142, 143] (by decide +kernel) (by decide +kernel)
set_option maxRecDepth 20000 in
theorem gX3_digest_X3_solves : GoodIn wsX3_digest (wsV RX3 130 RX3 yX3_solves wsX3_solves) := goodIn_app (goodIn_of _ (by decide +kernel)) ggX3_digest_X3_solves
set_option maxRecDepth 20000 in
theorem ggX3_digest_X3_fewest : GoodIn wsX3_digest wsX3_fewest := goodIn_r _ [94, 90, 3, 76, 65, 66, 28, 67, 26, 27, 29, 72, 73, 74, 12, 75, 77, 78, 79, 80, 6, 81, 82, 83, 84, 85, 136, 137, 138, 139, 140, 141, 142, 143] (by decide +kernel) (by decide +kernel)
set_option maxRecDepth 20000 in
theorem gX3_digest_X3_fewest : GoodIn wsX3_digest (wsV RX3 139 RX3 yX3_fewest wsX3_fewest) := goodIn_app (goodIn_of _ (by decide +kernel)) ggX3_digest_X3_fewest
theorem dX3_digest_0 : decode cX3_digest 0 = .ok (.aload_n 0, 1) := by decide +kernel
theorem dX3_digest_1 : decode cX3_digest 1 = .ok (.iconst 0, 1) := by decide +kernel
theorem dX3_digest_2 : decode cX3_digest 2 = .ok (.putfield 26, 3) := by decide +kernel
theorem dX3_digest_5 : decode cX3_digest 5 = .ok (.bipush 17, 2) := by decide +kernel
theorem dX3_digest_7 : decode cX3_digest 7 = .ok (.newarray .int, 2) := by decide +kernel
theorem dX3_digest_9 : decode cX3_digest 9 = .ok (.dup, 1) := by decide +kernel
theorem dX3_digest_10 : decode cX3_digest 10 = .ok (.iconst 0, 1) := by decide +kernel
theorem dX3_digest_11 : decode cX3_digest 11 = .ok (.aload_n 0, 1) := by decide +kernel
theorem dX3_digest_12 : decode cX3_digest 12 = .ok (.getfield 7, 3) := by decide +kernel
theorem dX3_digest_15 : decode cX3_digest 15 = .ok (.iastore, 1) := by decide +kernel
theorem dX3_digest_16 : decode cX3_digest 16 = .ok (.dup, 1) := by decide +kernel
theorem dX3_digest_17 : decode cX3_digest 17 = .ok (.iconst 1, 1) := by decide +kernel
theorem dX3_digest_18 : decode cX3_digest 18 = .ok (.aload_n 0, 1) := by decide +kernel
theorem dX3_digest_19 : decode cX3_digest 19 = .ok (.getfield 33, 3) := by decide +kernel
theorem dX3_digest_22 : decode cX3_digest 22 = .ok (.iastore, 1) := by decide +kernel
theorem dX3_digest_23 : decode cX3_digest 23 = .ok (.dup, 1) := by decide +kernel
theorem dX3_digest_24 : decode cX3_digest 24 = .ok (.iconst 2, 1) := by decide +kernel
theorem dX3_digest_25 : decode cX3_digest 25 = .ok (.aload_n 0, 1) := by decide +kernel
theorem dX3_digest_26 : decode cX3_digest 26 = .ok (.getfield 74, 3) := by decide +kernel
theorem dX3_digest_29 : decode cX3_digest 29 = .ok (.iastore, 1) := by decide +kernel
theorem dX3_digest_30 : decode cX3_digest 30 = .ok (.dup, 1) := by decide +kernel
theorem dX3_digest_31 : decode cX3_digest 31 = .ok (.iconst 3, 1) := by decide +kernel
theorem dX3_digest_32 : decode cX3_digest 32 = .ok (.aload_n 0, 1) := by decide +kernel
theorem dX3_digest_33 : decode cX3_digest 33 = .ok (.invokevirtual 87, 3) := by decide +kernel
theorem dX3_digest_36 : decode cX3_digest 36 = .ok (.iastore, 1) := by decide +kernel
theorem dX3_digest_37 : decode cX3_digest 37 = .ok (.dup, 1) := by decide +kernel
theorem dX3_digest_38 : decode cX3_digest 38 = .ok (.iconst 4, 1) := by decide +kernel
theorem dX3_digest_39 : decode cX3_digest 39 = .ok (.aload_n 0, 1) := by decide +kernel
theorem dX3_digest_40 : decode cX3_digest 40 = .ok (.invokevirtual 94, 3) := by decide +kernel
theorem dX3_digest_43 : decode cX3_digest 43 = .ok (.iastore, 1) := by decide +kernel
theorem dX3_digest_44 : decode cX3_digest 44 = .ok (.dup, 1) := by decide +kernel
theorem dX3_digest_45 : decode cX3_digest 45 = .ok (.iconst 5, 1) := by decide +kernel
theorem dX3_digest_46 : decode cX3_digest 46 = .ok (.aload_n 0, 1) := by decide +kernel
theorem dX3_digest_47 : decode cX3_digest 47 = .ok (.aload_n 0, 1) := by decide +kernel
theorem dX3_digest_48 : decode cX3_digest 48 = .ok (.getfield 13, 3) := by decide +kernel
theorem dX3_digest_51 : decode cX3_digest 51 = .ok (.invokevirtual 97, 3) := by decide +kernel
theorem dX3_digest_54 : decode cX3_digest 54 = .ok (.iastore, 1) := by decide +kernel
theorem dX3_digest_55 : decode cX3_digest 55 = .ok (.dup, 1) := by decide +kernel
theorem dX3_digest_56 : decode cX3_digest 56 = .ok (.bipush 6, 2) := by decide +kernel
theorem dX3_digest_58 : decode cX3_digest 58 = .ok (.aload_n 0, 1) := by decide +kernel
theorem dX3_digest_59 : decode cX3_digest 59 = .ok (.invokevirtual 100, 3) := by decide +kernel
theorem dX3_digest_62 : decode cX3_digest 62 = .ok (.iastore, 1) := by decide +kernel
theorem dX3_digest_63 : decode cX3_digest 63 = .ok (.dup, 1) := by decide +kernel
theorem dX3_digest_64 : decode cX3_digest 64 = .ok (.bipush 7, 2) := by decide +kernel
theorem dX3_digest_66 : decode cX3_digest 66 = .ok (.aload_n 0, 1) := by decide +kernel
theorem dX3_digest_67 : decode cX3_digest 67 = .ok (.invokevirtual 106, 3) := by decide +kernel
theorem dX3_digest_70 : decode cX3_digest 70 = .ok (.iastore, 1) := by decide +kernel
theorem dX3_digest_71 : decode cX3_digest 71 = .ok (.dup, 1) := by decide +kernel
theorem dX3_digest_72 : decode cX3_digest 72 = .ok (.bipush 8, 2) := by decide +kernel
theorem dX3_digest_74 : decode cX3_digest 74 = .ok (.aload_n 0, 1) := by decide +kernel
theorem dX3_digest_75 : decode cX3_digest 75 = .ok (.aload_n 0, 1) := by decide +kernel
theorem dX3_digest_76 : decode cX3_digest 76 = .ok (.getfield 13, 3) := by decide +kernel
theorem dX3_digest_79 : decode cX3_digest 79 = .ok (.invokevirtual 58, 3) := by decide +kernel
theorem dX3_digest_82 : decode cX3_digest 82 = .ok (.iastore, 1) := by decide +kernel
theorem dX3_digest_83 : decode cX3_digest 83 = .ok (.dup, 1) := by decide +kernel
theorem dX3_digest_84 : decode cX3_digest 84 = .ok (.bipush 9, 2) := by decide +kernel
theorem dX3_digest_86 : decode cX3_digest 86 = .ok (.aload_n 0, 1) := by decide +kernel
theorem dX3_digest_87 : decode cX3_digest 87 = .ok (.invokevirtual 112, 3) := by decide +kernel
theorem dX3_digest_90 : decode cX3_digest 90 = .ok (.iastore, 1) := by decide +kernel
theorem dX3_digest_91 : decode cX3_digest 91 = .ok (.dup, 1) := by decide +kernel
theorem dX3_digest_92 : decode cX3_digest 92 = .ok (.bipush 10, 2) := by decide +kernel
theorem dX3_digest_94 : decode cX3_digest 94 = .ok (.aload_n 0, 1) := by decide +kernel
theorem dX3_digest_95 : decode cX3_digest 95 = .ok (.invokevirtual 115, 3) := by decide +kernel
theorem dX3_digest_98 : decode cX3_digest 98 = .ok (.iastore, 1) := by decide +kernel
theorem dX3_digest_99 : decode cX3_digest 99 = .ok (.dup, 1) := by decide +kernel
theorem dX3_digest_100 : decode cX3_digest 100 = .ok (.bipush 11, 2) := by decide +kernel
theorem dX3_digest_102 : decode cX3_digest 102 = .ok (.aload_n 0, 1) := by decide +kernel
theorem dX3_digest_103 : decode cX3_digest 103 = .ok (.invokevirtual 133, 3) := by decide +kernel
theorem dX3_digest_106 : decode cX3_digest 106 = .ok (.iastore, 1) := by decide +kernel
theorem dX3_digest_107 : decode cX3_digest 107 = .ok (.dup, 1) := by decide +kernel
theorem dX3_digest_108 : decode cX3_digest 108 = .ok (.bipush 12, 2) := by decide +kernel
theorem dX3_digest_110 : decode cX3_digest 110 = .ok (.aload_n 0, 1) := by decide +kernel
theorem dX3_digest_111 : decode cX3_digest 111 = .ok (.invokevirtual 142, 3) := by decide +kernel
theorem dX3_digest_114 : decode cX3_digest 114 = .ok (.iastore, 1) := by decide +kernel
theorem dX3_digest_115 : decode cX3_digest 115 = .ok (.dup, 1) := by decide +kernel
theorem dX3_digest_116 : decode cX3_digest 116 = .ok (.bipush 13, 2) := by decide +kernel
theorem dX3_digest_118 : decode cX3_digest 118 = .ok (.aload_n 0, 1) := by decide +kernel
theorem dX3_digest_119 : decode cX3_digest 119 = .ok (.invokevirtual 148, 3) := by decide +kernel
theorem dX3_digest_122 : decode cX3_digest 122 = .ok (.iastore, 1) := by decide +kernel
theorem dX3_digest_123 : decode cX3_digest 123 = .ok (.dup, 1) := by decide +kernel
theorem dX3_digest_124 : decode cX3_digest 124 = .ok (.bipush 14, 2) := by decide +kernel
theorem dX3_digest_126 : decode cX3_digest 126 = .ok (.aload_n 0, 1) := by decide +kernel
theorem dX3_digest_127 : decode cX3_digest 127 = .ok (.invokevirtual 151, 3) := by decide +kernel
theorem dX3_digest_130 : decode cX3_digest 130 = .ok (.iastore, 1) := by decide +kernel
theorem dX3_digest_131 : decode cX3_digest 131 = .ok (.dup, 1) := by decide +kernel
theorem dX3_digest_132 : decode cX3_digest 132 = .ok (.bipush 15, 2) := by decide +kernel
theorem dX3_digest_134 : decode cX3_digest 134 = .ok (.aload_n 0, 1) := by decide +kernel
theorem dX3_digest_135 : decode cX3_digest 135 = .ok (.invokevirtual 157, 3) := by decide +kernel
theorem dX3_digest_138 : decode cX3_digest 138 = .ok (.iastore, 1) := by decide +kernel
theorem dX3_digest_139 : decode cX3_digest 139 = .ok (.dup, 1) := by decide +kernel
theorem dX3_digest_140 : decode cX3_digest 140 = .ok (.bipush 16, 2) := by decide +kernel
theorem dX3_digest_142 : decode cX3_digest 142 = .ok (.aload_n 0, 1) := by decide +kernel
theorem dX3_digest_143 : decode cX3_digest 143 = .ok (.iconst 0, 1) := by decide +kernel
theorem dX3_digest_144 : decode cX3_digest 144 = .ok (.invokevirtual 160, 3) := by decide +kernel
theorem dX3_digest_147 : decode cX3_digest 147 = .ok (.iastore, 1) := by decide +kernel
theorem dX3_digest_148 : decode cX3_digest 148 = .ok (.astore_n 1, 1) := by decide +kernel
theorem dX3_digest_149 : decode cX3_digest 149 = .ok (.ldc2_w 163, 3) := by decide +kernel
theorem dX3_digest_152 : decode cX3_digest 152 = .ok (.lstore_n 2, 1) := by decide +kernel
theorem dX3_digest_153 : decode cX3_digest 153 = .ok (.aload_n 1, 1) := by decide +kernel
theorem dX3_digest_154 : decode cX3_digest 154 = .ok (.astore 4, 2) := by decide +kernel
theorem dX3_digest_156 : decode cX3_digest 156 = .ok (.aload 4, 2) := by decide +kernel
theorem dX3_digest_158 : decode cX3_digest 158 = .ok (.arraylength, 1) := by decide +kernel
theorem dX3_digest_159 : decode cX3_digest 159 = .ok (.istore 5, 2) := by decide +kernel
theorem dX3_digest_161 : decode cX3_digest 161 = .ok (.iconst 0, 1) := by decide +kernel
theorem dX3_digest_162 : decode cX3_digest 162 = .ok (.istore 6, 2) := by decide +kernel
theorem dX3_digest_164 : decode cX3_digest 164 = .ok (.iload 6, 2) := by decide +kernel
theorem dX3_digest_166 : decode cX3_digest 166 = .ok (.iload 5, 2) := by decide +kernel
theorem dX3_digest_168 : decode cX3_digest 168 = .ok (.if_icmp .ge 26, 3) := by decide +kernel
theorem dX3_digest_171 : decode cX3_digest 171 = .ok (.aload 4, 2) := by decide +kernel
theorem dX3_digest_173 : decode cX3_digest 173 = .ok (.iload 6, 2) := by decide +kernel
theorem dX3_digest_175 : decode cX3_digest 175 = .ok (.iaload, 1) := by decide +kernel
theorem dX3_digest_176 : decode cX3_digest 176 = .ok (.istore 7, 2) := by decide +kernel
theorem dX3_digest_178 : decode cX3_digest 178 = .ok (.lload_n 2, 1) := by decide +kernel
theorem dX3_digest_179 : decode cX3_digest 179 = .ok (.ldc2_w 165, 3) := by decide +kernel
theorem dX3_digest_182 : decode cX3_digest 182 = .ok (.lmul, 1) := by decide +kernel
theorem dX3_digest_183 : decode cX3_digest 183 = .ok (.iload 7, 2) := by decide +kernel
theorem dX3_digest_185 : decode cX3_digest 185 = .ok (.i2l, 1) := by decide +kernel
theorem dX3_digest_186 : decode cX3_digest 186 = .ok (.ladd, 1) := by decide +kernel
theorem dX3_digest_187 : decode cX3_digest 187 = .ok (.lstore_n 2, 1) := by decide +kernel
theorem dX3_digest_188 : decode cX3_digest 188 = .ok (.iinc 6 1, 3) := by decide +kernel
theorem dX3_digest_191 : decode cX3_digest 191 = .ok (.goto (-27), 3) := by decide +kernel
theorem dX3_digest_194 : decode cX3_digest 194 = .ok (.iconst 0, 1) := by decide +kernel
theorem dX3_digest_195 : decode cX3_digest 195 = .ok (.istore 4, 2) := by decide +kernel
theorem dX3_digest_197 : decode cX3_digest 197 = .ok (.iload 4, 2) := by decide +kernel
theorem dX3_digest_199 : decode cX3_digest 199 = .ok (.aload_n 0, 1) := by decide +kernel
theorem dX3_digest_200 : decode cX3_digest 200 = .ok (.getfield 7, 3) := by decide +kernel
theorem dX3_digest_203 : decode cX3_digest 203 = .ok (.if_icmp .ge 60, 3) := by decide +kernel
theorem dX3_digest_206 : decode cX3_digest 206 = .ok (.lload_n 2, 1) := by decide +kernel
theorem dX3_digest_207 : decode cX3_digest 207 = .ok (.ldc2_w 165, 3) := by decide +kernel
theorem dX3_digest_210 : decode cX3_digest 210 = .ok (.lmul, 1) := by decide +kernel
theorem dX3_digest_211 : decode cX3_digest 211 = .ok (.aload_n 0, 1) := by decide +kernel
theorem dX3_digest_212 : decode cX3_digest 212 = .ok (.getfield 13, 3) := by decide +kernel
theorem dX3_digest_215 : decode cX3_digest 215 = .ok (.iload 4, 2) := by decide +kernel
theorem dX3_digest_217 : decode cX3_digest 217 = .ok (.iaload, 1) := by decide +kernel
theorem dX3_digest_218 : decode cX3_digest 218 = .ok (.i2l, 1) := by decide +kernel
theorem dX3_digest_219 : decode cX3_digest 219 = .ok (.ladd, 1) := by decide +kernel
theorem dX3_digest_220 : decode cX3_digest 220 = .ok (.ldc2_w 165, 3) := by decide +kernel
theorem dX3_digest_223 : decode cX3_digest 223 = .ok (.lmul, 1) := by decide +kernel
theorem dX3_digest_224 : decode cX3_digest 224 = .ok (.aload_n 0, 1) := by decide +kernel
theorem dX3_digest_225 : decode cX3_digest 225 = .ok (.aload_n 0, 1) := by decide +kernel
theorem dX3_digest_226 : decode cX3_digest 226 = .ok (.getfield 13, 3) := by decide +kernel
theorem dX3_digest_229 : decode cX3_digest 229 = .ok (.iload 4, 2) := by decide +kernel
theorem dX3_digest_231 : decode cX3_digest 231 = .ok (.invokevirtual 54, 3) := by decide +kernel
theorem dX3_digest_234 : decode cX3_digest 234 = .ok (.ifCond .eq 7, 3) := by decide +kernel
theorem dX3_digest_237 : decode cX3_digest 237 = .ok (.iconst 1, 1) := by decide +kernel
theorem dX3_digest_238 : decode cX3_digest 238 = .ok (.goto 4, 3) := by decide +kernel
theorem dX3_digest_241 : decode cX3_digest 241 = .ok (.iconst 0, 1) := by decide +kernel
theorem dX3_digest_242 : decode cX3_digest 242 = .ok (.i2l, 1) := by decide +kernel
theorem dX3_digest_243 : decode cX3_digest 243 = .ok (.ladd, 1) := by decide +kernel
theorem dX3_digest_244 : decode cX3_digest 244 = .ok (.ldc2_w 165, 3) := by decide +kernel
theorem dX3_digest_247 : decode cX3_digest 247 = .ok (.lmul, 1) := by decide +kernel
theorem dX3_digest_248 : decode cX3_digest 248 = .ok (.aload_n 0, 1) := by decide +kernel
theorem dX3_digest_249 : decode cX3_digest 249 = .ok (.iload 4, 2) := by decide +kernel
theorem dX3_digest_251 : decode cX3_digest 251 = .ok (.invokevirtual 109, 3) := by decide +kernel
theorem dX3_digest_254 : decode cX3_digest 254 = .ok (.i2l, 1) := by decide +kernel
theorem dX3_digest_255 : decode cX3_digest 255 = .ok (.ladd, 1) := by decide +kernel
theorem dX3_digest_256 : decode cX3_digest 256 = .ok (.lstore_n 2, 1) := by decide +kernel
theorem dX3_digest_257 : decode cX3_digest 257 = .ok (.iinc 4 1, 3) := by decide +kernel
theorem dX3_digest_260 : decode cX3_digest 260 = .ok (.goto (-63), 3) := by decide +kernel
theorem dX3_digest_263 : decode cX3_digest 263 = .ok (.iconst 0, 1) := by decide +kernel
theorem dX3_digest_264 : decode cX3_digest 264 = .ok (.istore 4, 2) := by decide +kernel
theorem dX3_digest_266 : decode cX3_digest 266 = .ok (.iload 4, 2) := by decide +kernel
theorem dX3_digest_268 : decode cX3_digest 268 = .ok (.aload_n 0, 1) := by decide +kernel
theorem dX3_digest_269 : decode cX3_digest 269 = .ok (.getfield 33, 3) := by decide +kernel
theorem dX3_digest_272 : decode cX3_digest 272 = .ok (.if_icmp .ge 55, 3) := by decide +kernel
theorem dX3_digest_275 : decode cX3_digest 275 = .ok (.lload_n 2, 1) := by decide +kernel
theorem dX3_digest_276 : decode cX3_digest 276 = .ok (.ldc2_w 165, 3) := by decide +kernel
theorem dX3_digest_279 : decode cX3_digest 279 = .ok (.lmul, 1) := by decide +kernel
theorem dX3_digest_280 : decode cX3_digest 280 = .ok (.aload_n 0, 1) := by decide +kernel
theorem dX3_digest_281 : decode cX3_digest 281 = .ok (.iload 4, 2) := by decide +kernel
theorem dX3_digest_283 : decode cX3_digest 283 = .ok (.invokevirtual 124, 3) := by decide +kernel
theorem dX3_digest_286 : decode cX3_digest 286 = .ok (.i2l, 1) := by decide +kernel
theorem dX3_digest_287 : decode cX3_digest 287 = .ok (.ladd, 1) := by decide +kernel
theorem dX3_digest_288 : decode cX3_digest 288 = .ok (.ldc2_w 165, 3) := by decide +kernel
theorem dX3_digest_291 : decode cX3_digest 291 = .ok (.lmul, 1) := by decide +kernel
theorem dX3_digest_292 : decode cX3_digest 292 = .ok (.aload_n 0, 1) := by decide +kernel
theorem dX3_digest_293 : decode cX3_digest 293 = .ok (.iload 4, 2) := by decide +kernel
theorem dX3_digest_295 : decode cX3_digest 295 = .ok (.invokevirtual 130, 3) := by decide +kernel
theorem dX3_digest_298 : decode cX3_digest 298 = .ok (.ifCond .eq 7, 3) := by decide +kernel
theorem dX3_digest_301 : decode cX3_digest 301 = .ok (.iconst 1, 1) := by decide +kernel
theorem dX3_digest_302 : decode cX3_digest 302 = .ok (.goto 4, 3) := by decide +kernel
theorem dX3_digest_305 : decode cX3_digest 305 = .ok (.iconst 0, 1) := by decide +kernel
theorem dX3_digest_306 : decode cX3_digest 306 = .ok (.i2l, 1) := by decide +kernel
theorem dX3_digest_307 : decode cX3_digest 307 = .ok (.ladd, 1) := by decide +kernel
theorem dX3_digest_308 : decode cX3_digest 308 = .ok (.ldc2_w 165, 3) := by decide +kernel
theorem dX3_digest_311 : decode cX3_digest 311 = .ok (.lmul, 1) := by decide +kernel
theorem dX3_digest_312 : decode cX3_digest 312 = .ok (.aload_n 0, 1) := by decide +kernel
theorem dX3_digest_313 : decode cX3_digest 313 = .ok (.iload 4, 2) := by decide +kernel
theorem dX3_digest_315 : decode cX3_digest 315 = .ok (.invokevirtual 139, 3) := by decide +kernel
theorem dX3_digest_318 : decode cX3_digest 318 = .ok (.i2l, 1) := by decide +kernel
theorem dX3_digest_319 : decode cX3_digest 319 = .ok (.ladd, 1) := by decide +kernel
theorem dX3_digest_320 : decode cX3_digest 320 = .ok (.lstore_n 2, 1) := by decide +kernel
theorem dX3_digest_321 : decode cX3_digest 321 = .ok (.iinc 4 1, 3) := by decide +kernel
theorem dX3_digest_324 : decode cX3_digest 324 = .ok (.goto (-58), 3) := by decide +kernel
theorem dX3_digest_327 : decode cX3_digest 327 = .ok (.lload_n 2, 1) := by decide +kernel
theorem dX3_digest_328 : decode cX3_digest 328 = .ok (.lreturn, 1) := by decide +kernel
theorem dJ9_floorMod_7cf53_0 : decode cJ9_floorMod_7cf53 0 = .ok (.iload_n 0, 1) := by decide +kernel
theorem dJ9_floorMod_7cf53_1 : decode cJ9_floorMod_7cf53 1 = .ok (.iload_n 1, 1) := by decide +kernel
theorem dJ9_floorMod_7cf53_2 : decode cJ9_floorMod_7cf53 2 = .ok (.irem, 1) := by decide +kernel
theorem dJ9_floorMod_7cf53_3 : decode cJ9_floorMod_7cf53 3 = .ok (.istore_n 2, 1) := by decide +kernel
theorem dJ9_floorMod_7cf53_4 : decode cJ9_floorMod_7cf53 4 = .ok (.iload_n 0, 1) := by decide +kernel
theorem dJ9_floorMod_7cf53_5 : decode cJ9_floorMod_7cf53 5 = .ok (.iload_n 1, 1) := by decide +kernel
theorem dJ9_floorMod_7cf53_6 : decode cJ9_floorMod_7cf53 6 = .ok (.ixor, 1) := by decide +kernel
theorem dJ9_floorMod_7cf53_7 : decode cJ9_floorMod_7cf53 7 = .ok (.ifCond .ge 11, 3) := by decide +kernel
theorem dJ9_floorMod_7cf53_10 : decode cJ9_floorMod_7cf53 10 = .ok (.iload_n 2, 1) := by decide +kernel
theorem dJ9_floorMod_7cf53_11 : decode cJ9_floorMod_7cf53 11 = .ok (.ifCond .eq 7, 3) := by decide +kernel
theorem dJ9_floorMod_7cf53_14 : decode cJ9_floorMod_7cf53 14 = .ok (.iload_n 2, 1) := by decide +kernel
theorem dJ9_floorMod_7cf53_15 : decode cJ9_floorMod_7cf53 15 = .ok (.iload_n 1, 1) := by decide +kernel
theorem dJ9_floorMod_7cf53_16 : decode cJ9_floorMod_7cf53 16 = .ok (.iadd, 1) := by decide +kernel
theorem dJ9_floorMod_7cf53_17 : decode cJ9_floorMod_7cf53 17 = .ok (.ireturn, 1) := by decide +kernel
theorem dJ9_floorMod_7cf53_18 : decode cJ9_floorMod_7cf53 18 = .ok (.iload_n 2, 1) := by decide +kernel
theorem dJ9_floorMod_7cf53_19 : decode cJ9_floorMod_7cf53 19 = .ok (.ireturn, 1) := by decide +kernel
theorem dJ9_abs_0f7a4_0 : decode cJ9_abs_0f7a4 0 = .ok (.iload_n 0, 1) := by decide +kernel
theorem dJ9_abs_0f7a4_1 : decode cJ9_abs_0f7a4 1 = .ok (.ifCond .ge 8, 3) := by decide +kernel
theorem dJ9_abs_0f7a4_4 : decode cJ9_abs_0f7a4 4 = .ok (.iload_n 0, 1) := by decide +kernel
theorem dJ9_abs_0f7a4_5 : decode cJ9_abs_0f7a4 5 = .ok (.ineg, 1) := by decide +kernel
theorem dJ9_abs_0f7a4_6 : decode cJ9_abs_0f7a4 6 = .ok (.goto 4, 3) := by decide +kernel
theorem dJ9_abs_0f7a4_9 : decode cJ9_abs_0f7a4 9 = .ok (.iload_n 0, 1) := by decide +kernel
theorem dJ9_abs_0f7a4_10 : decode cJ9_abs_0f7a4 10 = .ok (.ireturn, 1) := by decide +kernel
theorem dJ9_max_7cf53_0 : decode cJ9_max_7cf53 0 = .ok (.iload_n 0, 1) := by decide +kernel
theorem dJ9_max_7cf53_1 : decode cJ9_max_7cf53 1 = .ok (.iload_n 1, 1) := by decide +kernel
theorem dJ9_max_7cf53_2 : decode cJ9_max_7cf53 2 = .ok (.if_icmp .lt 7, 3) := by decide +kernel
theorem dJ9_max_7cf53_5 : decode cJ9_max_7cf53 5 = .ok (.iload_n 0, 1) := by decide +kernel
theorem dJ9_max_7cf53_6 : decode cJ9_max_7cf53 6 = .ok (.goto 4, 3) := by decide +kernel
theorem dJ9_max_7cf53_9 : decode cJ9_max_7cf53 9 = .ok (.iload_n 1, 1) := by decide +kernel
theorem dJ9_max_7cf53_10 : decode cJ9_max_7cf53 10 = .ok (.ireturn, 1) := by decide +kernel
theorem dJ9_min_7cf53_0 : decode cJ9_min_7cf53 0 = .ok (.iload_n 0, 1) := by decide +kernel
theorem dJ9_min_7cf53_1 : decode cJ9_min_7cf53 1 = .ok (.iload_n 1, 1) := by decide +kernel
theorem dJ9_min_7cf53_2 : decode cJ9_min_7cf53 2 = .ok (.if_icmp .gt 7, 3) := by decide +kernel
theorem dJ9_min_7cf53_5 : decode cJ9_min_7cf53 5 = .ok (.iload_n 0, 1) := by decide +kernel
theorem dJ9_min_7cf53_6 : decode cJ9_min_7cf53 6 = .ok (.goto 4, 3) := by decide +kernel
theorem dJ9_min_7cf53_9 : decode cJ9_min_7cf53 9 = .ok (.iload_n 1, 1) := by decide +kernel
theorem dJ9_min_7cf53_10 : decode cJ9_min_7cf53 10 = .ok (.ireturn, 1) := by decide +kernel
set_option maxRecDepth 20000 in
theorem ggL_lay_X2_lay : GoodIn wsL_lay wsX2_lay := goodIn_ca (goodIn_r _ [6, 7, 8, 9, 10, 11, 12, 13, 14, 15, 16, 17, 18, 19, 20, 21, 22, 23, 24, 25, 26, 27, 28, 29, 30, 31, 32, 33] (by decide +kernel) (by decide +kernel)) (goodIn_sub (fun _ h => List.mem_cons_of_mem _ (List.mem_append_right _ h)) (by decide +kernel))
set_option maxRecDepth 20000 in
theorem gL_lay_X2_lay : GoodIn wsL_lay (wsV RL 7 RX2 yX2_lay wsX2_lay) := goodIn_app (goodIn_of _ (by decide +kernel)) ggL_lay_X2_lay
theorem dL_lay_0 : decode cL_lay 0 = .ok (.aload_n 2, 1) := by decide +kernel
theorem dL_lay_1 : decode cL_lay 1 = .ok (.iconst 0, 1) := by decide +kernel
theorem dL_lay_2 : decode cL_lay 2 = .ok (.aload_n 0, 1) := by decide +kernel
theorem dL_lay_3 : decode cL_lay 3 = .ok (.iload_n 1, 1) := by decide +kernel
theorem dL_lay_4 : decode cL_lay 4 = .ok (.invokevirtual 7, 3) := by decide +kernel
theorem dL_lay_7 : decode cL_lay 7 = .ok (.i2l, 1) := by decide +kernel
theorem dL_lay_8 : decode cL_lay 8 = .ok (.lastore, 1) := by decide +kernel
theorem dL_lay_9 : decode cL_lay 9 = .ok (.goto 6, 3) := by decide +kernel
theorem dL_lay_12 : decode cL_lay 12 = .ok (.astore_n 3, 1) := by decide +kernel
theorem dL_lay_13 : decode cL_lay 13 = .ok (.iconst 1, 1) := by decide +kernel
theorem dL_lay_14 : decode cL_lay 14 = .ok (.ireturn, 1) := by decide +kernel
theorem dL_lay_15 : decode cL_lay 15 = .ok (.iconst 0, 1) := by decide +kernel
theorem dL_lay_16 : decode cL_lay 16 = .ok (.ireturn, 1) := by decide +kernel
set_option maxRecDepth 20000 in
theorem ggL_put_X2_put : GoodIn wsL_put wsX2_put := goodIn_ca (goodIn_ca (goodIn_r _ [7, 8, 9, 10, 11, 6, 12, 13, 14, 15, 16, 17, 18, 19, 20, 21, 22, 23, 24, 25, 26, 27, 28, 29, 30, 31, 32, 33, 34, 35, 36, 37, 38, 39, 40, 41, 42, 43] (by decide +kernel) (by decide +kernel)) (goodIn_sub (fun _ h => List.mem_cons_of_mem _ (List.mem_append_left _ (List.mem_append_right _ h))) (by decide +kernel))) (goodIn_sub (fun _ h => List.mem_cons_of_mem _ (List.mem_append_right _ h)) (by decide +kernel))
set_option maxRecDepth 20000 in
theorem gL_put_X2_put : GoodIn wsL_put (wsV RL 15 RX2 yX2_put wsX2_put) := goodIn_app (goodIn_of _ (by decide +kernel)) ggL_put_X2_put
theorem dL_put_0 : decode cL_put 0 = .ok (.aload_n 3, 1) := by decide +kernel
theorem dL_put_1 : decode cL_put 1 = .ok (.iconst 0, 1) := by decide +kernel
theorem dL_put_2 : decode cL_put 2 = .ok (.aload_n 0, 1) := by decide +kernel
theorem dL_put_3 : decode cL_put 3 = .ok (.iload_n 1, 1) := by decide +kernel
theorem dL_put_4 : decode cL_put 4 = .ok (.iload_n 2, 1) := by decide +kernel
theorem dL_put_5 : decode cL_put 5 = .ok (.invokevirtual 15, 3) := by decide +kernel
theorem dL_put_8 : decode cL_put 8 = .ok (.i2l, 1) := by decide +kernel
theorem dL_put_9 : decode cL_put 9 = .ok (.lastore, 1) := by decide +kernel
theorem dL_put_10 : decode cL_put 10 = .ok (.goto 11, 3) := by decide +kernel
theorem dL_put_13 : decode cL_put 13 = .ok (.astore 4, 2) := by decide +kernel
theorem dL_put_15 : decode cL_put 15 = .ok (.iconst 1, 1) := by decide +kernel
theorem dL_put_16 : decode cL_put 16 = .ok (.ireturn, 1) := by decide +kernel
theorem dL_put_17 : decode cL_put 17 = .ok (.astore 4, 2) := by decide +kernel
theorem dL_put_19 : decode cL_put 19 = .ok (.iconst 2, 1) := by decide +kernel
theorem dL_put_20 : decode cL_put 20 = .ok (.ireturn, 1) := by decide +kernel
theorem dL_put_21 : decode cL_put 21 = .ok (.iconst 0, 1) := by decide +kernel
theorem dL_put_22 : decode cL_put 22 = .ok (.ireturn, 1) := by decide +kernel
set_option maxRecDepth 20000 in
theorem ggL_tip_X2_tip : GoodIn wsL_tip wsX2_tip := goodIn_ca (goodIn_ca (goodIn_r _ [7, 8, 9, 10, 11, 12, 13, 14, 15, 16, 6, 17, 18, 19, 20, 21, 22, 23, 24, 25, 26, 27, 28, 29, 30, 31, 32, 33, 34, 35, 36, 37, 38, 39, 40, 41, 42, 43, 44, 45, 46, 47, 48, 49, 50, 51, 52, 53, 54, 55, 56, 57, 58, 59, 60, 61] (by decide +kernel) (by decide +kernel)) (goodIn_sub (fun _ h => List.mem_cons_of_mem _ (List.mem_append_left _ (List.mem_append_right _ h))) (by decide +kernel))) (goodIn_sub (fun _ h => List.mem_cons_of_mem _ (List.mem_append_right _ h)) (by decide +kernel))
set_option maxRecDepth 20000 in
theorem gL_tip_X2_tip : GoodIn wsL_tip (wsV RL 21 RX2 yX2_tip wsX2_tip) := goodIn_app (goodIn_of _ (by decide +kernel)) ggL_tip_X2_tip
theorem dL_tip_0 : decode cL_tip 0 = .ok (.aload_n 3, 1) := by decide +kernel
theorem dL_tip_1 : decode cL_tip 1 = .ok (.iconst 0, 1) := by decide +kernel
theorem dL_tip_2 : decode cL_tip 2 = .ok (.aload_n 0, 1) := by decide +kernel
theorem dL_tip_3 : decode cL_tip 3 = .ok (.iload_n 1, 1) := by decide +kernel
theorem dL_tip_4 : decode cL_tip 4 = .ok (.iload_n 2, 1) := by decide +kernel
theorem dL_tip_5 : decode cL_tip 5 = .ok (.invokevirtual 21, 3) := by decide +kernel
theorem dL_tip_8 : decode cL_tip 8 = .ok (.i2l, 1) := by decide +kernel
theorem dL_tip_9 : decode cL_tip 9 = .ok (.lastore, 1) := by decide +kernel
theorem dL_tip_10 : decode cL_tip 10 = .ok (.goto 11, 3) := by decide +kernel
theorem dL_tip_13 : decode cL_tip 13 = .ok (.astore 4, 2) := by decide +kernel
theorem dL_tip_15 : decode cL_tip 15 = .ok (.iconst 1, 1) := by decide +kernel
theorem dL_tip_16 : decode cL_tip 16 = .ok (.ireturn, 1) := by decide +kernel
theorem dL_tip_17 : decode cL_tip 17 = .ok (.astore 4, 2) := by decide +kernel
theorem dL_tip_19 : decode cL_tip 19 = .ok (.iconst 2, 1) := by decide +kernel
theorem dL_tip_20 : decode cL_tip 20 = .ok (.ireturn, 1) := by decide +kernel
theorem dL_tip_21 : decode cL_tip 21 = .ok (.iconst 0, 1) := by decide +kernel
theorem dL_tip_22 : decode cL_tip 22 = .ok (.ireturn, 1) := by decide +kernel
set_option maxRecDepth 20000 in
theorem ggL_keep_X2_keep : GoodIn wsL_keep wsX2_keep := goodIn_ca (goodIn_ca (goodIn_r _ [6, 7, 8, 9, 10, 11, 12, 13, 5, 14, 15, 16, 17, 18, 19, 20, 21, 22, 23, 24, 25, 26, 27, 28, 29, 30, 31, 32, 33, 34, 35, 36, 37, 38, 39, 40] (by decide +kernel) (by decide +kernel)) (goodIn_sub (fun _ h => List.mem_cons_of_mem _ (List.mem_append_left _ (List.mem_append_right _ h))) (by decide +kernel))) (goodIn_sub (fun _ h => List.mem_cons_of_mem _ (List.mem_append_right _ h)) (by decide +kernel))
set_option maxRecDepth 20000 in
theorem gL_keep_X2_keep : GoodIn wsL_keep (wsV RL 24 RX2 yX2_keep wsX2_keep) := goodIn_app (goodIn_of _ (by decide +kernel)) ggL_keep_X2_keep
theorem dL_keep_0 : decode cL_keep 0 = .ok (.aload_n 1, 1) := by decide +kernel
theorem dL_keep_1 : decode cL_keep 1 = .ok (.iconst 0, 1) := by decide +kernel
theorem dL_keep_2 : decode cL_keep 2 = .ok (.aload_n 0, 1) := by decide +kernel
theorem dL_keep_3 : decode cL_keep 3 = .ok (.invokevirtual 24, 3) := by decide +kernel
theorem dL_keep_6 : decode cL_keep 6 = .ok (.i2l, 1) := by decide +kernel
theorem dL_keep_7 : decode cL_keep 7 = .ok (.lastore, 1) := by decide +kernel
theorem dL_keep_8 : decode cL_keep 8 = .ok (.goto 6, 3) := by decide +kernel
theorem dL_keep_11 : decode cL_keep 11 = .ok (.astore_n 2, 1) := by decide +kernel
theorem dL_keep_12 : decode cL_keep 12 = .ok (.iconst 1, 1) := by decide +kernel
theorem dL_keep_13 : decode cL_keep 13 = .ok (.ireturn, 1) := by decide +kernel
theorem dL_keep_14 : decode cL_keep 14 = .ok (.iconst 0, 1) := by decide +kernel
theorem dL_keep_15 : decode cL_keep 15 = .ok (.ireturn, 1) := by decide +kernel
set_option maxRecDepth 20000 in
theorem ggL_settle_X2_settle : GoodIn wsL_settle wsX2_settle := goodIn_ca (goodIn_r _ [6, 7, 8, 9, 10, 11, 12, 13, 14, 15, 16, 17, 18, 19, 20, 21, 22, 23, 24, 25, 26, 27, 28, 29, 30, 31, 32, 33, 34, 35, 36, 37, 38, 39, 40, 41, 42, 43, 44, 45, 46, 47, 48, 49, 50, 51, 52, 53] (by decide +kernel) (by decide +kernel)) (goodIn_sub (fun _ h => List.mem_cons_of_mem _ (List.mem_append_right _ h)) (by decide +kernel))
set_option maxRecDepth 20000 in
theorem gL_settle_X2_settle : GoodIn wsL_settle (wsV RL 30 RX2 yX2_settle wsX2_settle) := goodIn_app (goodIn_of _ (by decide +kernel)) ggL_settle_X2_settle
theorem dL_settle_0 : decode cL_settle 0 = .ok (.aload_n 2, 1) := by decide +kernel
theorem dL_settle_1 : decode cL_settle 1 = .ok (.iconst 0, 1) := by decide +kernel
theorem dL_settle_2 : decode cL_settle 2 = .ok (.aload_n 0, 1) := by decide +kernel
theorem dL_settle_3 : decode cL_settle 3 = .ok (.iload_n 1, 1) := by decide +kernel
theorem dL_settle_4 : decode cL_settle 4 = .ok (.invokevirtual 30, 3) := by decide +kernel
theorem dL_settle_7 : decode cL_settle 7 = .ok (.i2l, 1) := by decide +kernel
theorem dL_settle_8 : decode cL_settle 8 = .ok (.lastore, 1) := by decide +kernel
theorem dL_settle_9 : decode cL_settle 9 = .ok (.goto 6, 3) := by decide +kernel
theorem dL_settle_12 : decode cL_settle 12 = .ok (.astore_n 3, 1) := by decide +kernel
theorem dL_settle_13 : decode cL_settle 13 = .ok (.iconst 1, 1) := by decide +kernel
theorem dL_settle_14 : decode cL_settle 14 = .ok (.ireturn, 1) := by decide +kernel
theorem dL_settle_15 : decode cL_settle 15 = .ok (.iconst 0, 1) := by decide +kernel
theorem dL_settle_16 : decode cL_settle 16 = .ok (.ireturn, 1) := by decide +kernel
set_option maxRecDepth 20000 in
theorem ggL_reach_X2_reach : GoodIn wsL_reach wsX2_reach := goodIn_ca (goodIn_ca (goodIn_r _ [7, 8, 9, 10, 11, 12, 6, 13, 14, 15, 16, 17, 18, 19, 20, 21, 22, 23, 24, 25, 26, 27, 28, 29, 30, 31, 32, 33, 34, 35, 36, 37, 38, 39, 40, 41, 42, 43, 44, 45, 46, 47, 48, 49, 50, 51, 52, 53, 54, 55, 56, 57, 58, 59, 60, 61, 62, 63, 64, 65, 66, 67, 68, 69, 70, 71, 72, 73, 74, 75, 76, 77, 78, 79, 80, 81, 82, 83, 84, 85, 86, 87, 88, 89, 90, 91, 92, 93, 94, 95, 96, 97, 98, 99, 100, 101, 102, 103, 104] (by decide +kernel) (by decide +kernel)) (goodIn_sub (fun _ h => List.mem_cons_of_mem _ (List.mem_append_left _ (List.mem_append_right _ h))) (by decide +kernel))) (goodIn_sub (fun _ h => List.mem_cons_of_mem _ (List.mem_append_right _ h)) (by decide +kernel))
set_option maxRecDepth 20000 in
theorem gL_reach_X2_reach : GoodIn wsL_reach (wsV RL 33 RX2 yX2_reach wsX2_reach) := goodIn_app (goodIn_of _ (by decide +kernel)) ggL_reach_X2_reach
theorem dL_reach_0 : decode cL_reach 0 = .ok (.aload_n 2, 1) := by decide +kernel
theorem dL_reach_1 : decode cL_reach 1 = .ok (.iconst 0, 1) := by decide +kernel
theorem dL_reach_2 : decode cL_reach 2 = .ok (.aload_n 0, 1) := by decide +kernel
theorem dL_reach_3 : decode cL_reach 3 = .ok (.iload_n 1, 1) := by decide +kernel
theorem dL_reach_4 : decode cL_reach 4 = .ok (.invokevirtual 33, 3) := by decide +kernel
theorem dL_reach_7 : decode cL_reach 7 = .ok (.i2l, 1) := by decide +kernel
theorem dL_reach_8 : decode cL_reach 8 = .ok (.lastore, 1) := by decide +kernel
theorem dL_reach_9 : decode cL_reach 9 = .ok (.goto 9, 3) := by decide +kernel
theorem dL_reach_12 : decode cL_reach 12 = .ok (.astore_n 3, 1) := by decide +kernel
theorem dL_reach_13 : decode cL_reach 13 = .ok (.iconst 1, 1) := by decide +kernel
theorem dL_reach_14 : decode cL_reach 14 = .ok (.ireturn, 1) := by decide +kernel
theorem dL_reach_15 : decode cL_reach 15 = .ok (.astore_n 3, 1) := by decide +kernel
theorem dL_reach_16 : decode cL_reach 16 = .ok (.iconst 2, 1) := by decide +kernel
theorem dL_reach_17 : decode cL_reach 17 = .ok (.ireturn, 1) := by decide +kernel
theorem dL_reach_18 : decode cL_reach 18 = .ok (.iconst 0, 1) := by decide +kernel
theorem dL_reach_19 : decode cL_reach 19 = .ok (.ireturn, 1) := by decide +kernel
set_option maxRecDepth 20000 in
theorem ggL_numberAt_X2_numberAt : GoodIn wsL_numberAt wsX2_numberAt := goodIn_ca (goodIn_r _ [6, 7, 8, 9, 10, 5, 11, 12, 13, 14, 15, 16, 17, 18, 19, 20, 21, 22, 23, 24, 25, 26, 27, 28, 29, 30, 31, 32] (by decide +kernel) (by decide +kernel)) (goodIn_sub (fun _ h => List.mem_cons_of_mem _ (List.mem_append_right _ h)) (by decide +kernel))
set_option maxRecDepth 20000 in
theorem gL_numberAt_X2_numberAt : GoodIn wsL_numberAt (wsV RL 36 RX2 yX2_numberAt wsX2_numberAt) := goodIn_app (goodIn_of _ (by decide +kernel)) ggL_numberAt_X2_numberAt
theorem dL_numberAt_0 : decode cL_numberAt 0 = .ok (.aload_n 2, 1) := by decide +kernel
theorem dL_numberAt_1 : decode cL_numberAt 1 = .ok (.iconst 0, 1) := by decide +kernel
theorem dL_numberAt_2 : decode cL_numberAt 2 = .ok (.aload_n 0, 1) := by decide +kernel
theorem dL_numberAt_3 : decode cL_numberAt 3 = .ok (.iload_n 1, 1) := by decide +kernel
theorem dL_numberAt_4 : decode cL_numberAt 4 = .ok (.invokevirtual 36, 3) := by decide +kernel
theorem dL_numberAt_7 : decode cL_numberAt 7 = .ok (.i2l, 1) := by decide +kernel
theorem dL_numberAt_8 : decode cL_numberAt 8 = .ok (.lastore, 1) := by decide +kernel
theorem dL_numberAt_9 : decode cL_numberAt 9 = .ok (.goto 6, 3) := by decide +kernel
theorem dL_numberAt_12 : decode cL_numberAt 12 = .ok (.astore_n 3, 1) := by decide +kernel
theorem dL_numberAt_13 : decode cL_numberAt 13 = .ok (.iconst 1, 1) := by decide +kernel
theorem dL_numberAt_14 : decode cL_numberAt 14 = .ok (.ireturn, 1) := by decide +kernel
theorem dL_numberAt_15 : decode cL_numberAt 15 = .ok (.iconst 0, 1) := by decide +kernel
theorem dL_numberAt_16 : decode cL_numberAt 16 = .ok (.ireturn, 1) := by decide +kernel
set_option maxRecDepth 20000 in
theorem ggL_isSteep_X2_isSteep : GoodIn wsL_isSteep wsX2_isSteep := goodIn_ca (goodIn_r _ [6, 7, 8, 9, 10, 5, 11, 12, 13, 14, 15, 16, 17, 18, 19, 20, 21, 22, 23, 24, 25, 26, 27, 28, 29, 30, 31, 32, 33, 34, 35, 36, 37, 38, 39, 40] (by decide +kernel) (by decide +kernel)) (goodIn_sub (fun _ h => List.mem_cons_of_mem _ (List.mem_append_right _ h)) (by decide +kernel))
set_option maxRecDepth 20000 in
theorem gL_isSteep_X2_isSteep : GoodIn wsL_isSteep (wsV RL 39 RX2 yX2_isSteep wsX2_isSteep) := goodIn_app (goodIn_of _ (by decide +kernel)) ggL_isSteep_X2_isSteep
theorem dL_isSteep_0 : decode cL_isSteep 0 = .ok (.aload_n 2, 1) := by decide +kernel
theorem dL_isSteep_1 : decode cL_isSteep 1 = .ok (.iconst 0, 1) := by decide +kernel
theorem dL_isSteep_2 : decode cL_isSteep 2 = .ok (.aload_n 0, 1) := by decide +kernel
theorem dL_isSteep_3 : decode cL_isSteep 3 = .ok (.iload_n 1, 1) := by decide +kernel
theorem dL_isSteep_4 : decode cL_isSteep 4 = .ok (.invokevirtual 39, 3) := by decide +kernel
theorem dL_isSteep_7 : decode cL_isSteep 7 = .ok (.ifCond .eq 7, 3) := by decide +kernel
theorem dL_isSteep_10 : decode cL_isSteep 10 = .ok (.lconst 1, 1) := by decide +kernel
theorem dL_isSteep_11 : decode cL_isSteep 11 = .ok (.goto 4, 3) := by decide +kernel
theorem dL_isSteep_14 : decode cL_isSteep 14 = .ok (.lconst 0, 1) := by decide +kernel
theorem dL_isSteep_15 : decode cL_isSteep 15 = .ok (.lastore, 1) := by decide +kernel
theorem dL_isSteep_16 : decode cL_isSteep 16 = .ok (.goto 6, 3) := by decide +kernel
theorem dL_isSteep_19 : decode cL_isSteep 19 = .ok (.astore_n 3, 1) := by decide +kernel
theorem dL_isSteep_20 : decode cL_isSteep 20 = .ok (.iconst 1, 1) := by decide +kernel
theorem dL_isSteep_21 : decode cL_isSteep 21 = .ok (.ireturn, 1) := by decide +kernel
theorem dL_isSteep_22 : decode cL_isSteep 22 = .ok (.iconst 0, 1) := by decide +kernel
theorem dL_isSteep_23 : decode cL_isSteep 23 = .ok (.ireturn, 1) := by decide +kernel
set_option maxRecDepth 20000 in
theorem ggL_tilt_X2_tilt : GoodIn wsL_tilt wsX2_tilt := goodIn_ca (goodIn_r _ [6, 7, 8, 9, 10, 5, 11, 12, 13, 14, 15, 16, 17, 18, 19, 20, 21, 22, 23, 24, 25, 26, 27, 28, 29, 30, 31, 32, 33, 34, 35, 36, 37, 38, 39, 40] (by decide +kernel) (by decide +kernel)) (goodIn_sub (fun _ h => List.mem_cons_of_mem _ (List.mem_append_right _ h)) (by decide +kernel))
set_option maxRecDepth 20000 in
theorem gL_tilt_X2_tilt : GoodIn wsL_tilt (wsV RL 43 RX2 yX2_tilt wsX2_tilt) := goodIn_app (goodIn_of _ (by decide +kernel)) ggL_tilt_X2_tilt
theorem dL_tilt_0 : decode cL_tilt 0 = .ok (.aload_n 2, 1) := by decide +kernel
theorem dL_tilt_1 : decode cL_tilt 1 = .ok (.iconst 0, 1) := by decide +kernel
theorem dL_tilt_2 : decode cL_tilt 2 = .ok (.aload_n 0, 1) := by decide +kernel
theorem dL_tilt_3 : decode cL_tilt 3 = .ok (.iload_n 1, 1) := by decide +kernel
theorem dL_tilt_4 : decode cL_tilt 4 = .ok (.invokevirtual 43, 3) := by decide +kernel
theorem dL_tilt_7 : decode cL_tilt 7 = .ok (.i2l, 1) := by decide +kernel
theorem dL_tilt_8 : decode cL_tilt 8 = .ok (.lastore, 1) := by decide +kernel
theorem dL_tilt_9 : decode cL_tilt 9 = .ok (.goto 6, 3) := by decide +kernel
theorem dL_tilt_12 : decode cL_tilt 12 = .ok (.astore_n 3, 1) := by decide +kernel
theorem dL_tilt_13 : decode cL_tilt 13 = .ok (.iconst 1, 1) := by decide +kernel
theorem dL_tilt_14 : decode cL_tilt 14 = .ok (.ireturn, 1) := by decide +kernel
theorem dL_tilt_15 : decode cL_tilt 15 = .ok (.iconst 0, 1) := by decide +kernel
theorem dL_tilt_16 : decode cL_tilt 16 = .ok (.ireturn, 1) := by decide +kernel
set_option maxRecDepth 20000 in
theorem ggL_numberIn_X2_numberIn : GoodIn wsL_numberIn wsX2_numberIn := goodIn_ca (goodIn_r _ [6, 7, 8, 9, 5, 10, 11, 12, 13, 14, 15, 16, 17, 18, 19, 20, 21, 22, 23, 24, 25, 26, 27, 28, 29, 30, 31, 32, 33, 34, 35, 36, 37, 38] (by decide +kernel) (by decide +kernel)) (goodIn_sub (fun _ h => List.mem_cons_of_mem _ (List.mem_append_right _ h)) (by decide +kernel))
set_option maxRecDepth 20000 in
theorem gL_numberIn_X2_numberIn : GoodIn wsL_numberIn (wsV RL 46 RX2 yX2_numberIn wsX2_numberIn) := goodIn_app (goodIn_of _ (by decide +kernel)) ggL_numberIn_X2_numberIn
theorem dL_numberIn_0 : decode cL_numberIn 0 = .ok (.aload_n 3, 1) := by decide +kernel
theorem dL_numberIn_1 : decode cL_numberIn 1 = .ok (.iconst 0, 1) := by decide +kernel
theorem dL_numberIn_2 : decode cL_numberIn 2 = .ok (.aload_n 0, 1) := by decide +kernel
theorem dL_numberIn_3 : decode cL_numberIn 3 = .ok (.iload_n 1, 1) := by decide +kernel
theorem dL_numberIn_4 : decode cL_numberIn 4 = .ok (.iload_n 2, 1) := by decide +kernel
theorem dL_numberIn_5 : decode cL_numberIn 5 = .ok (.invokevirtual 46, 3) := by decide +kernel
theorem dL_numberIn_8 : decode cL_numberIn 8 = .ok (.i2l, 1) := by decide +kernel
theorem dL_numberIn_9 : decode cL_numberIn 9 = .ok (.lastore, 1) := by decide +kernel
theorem dL_numberIn_10 : decode cL_numberIn 10 = .ok (.goto 7, 3) := by decide +kernel
theorem dL_numberIn_13 : decode cL_numberIn 13 = .ok (.astore 4, 2) := by decide +kernel
theorem dL_numberIn_15 : decode cL_numberIn 15 = .ok (.iconst 1, 1) := by decide +kernel
theorem dL_numberIn_16 : decode cL_numberIn 16 = .ok (.ireturn, 1) := by decide +kernel
theorem dL_numberIn_17 : decode cL_numberIn 17 = .ok (.iconst 0, 1) := by decide +kernel
theorem dL_numberIn_18 : decode cL_numberIn 18 = .ok (.ireturn, 1) := by decide +kernel
set_option maxRecDepth 20000 in
theorem ggL_differences_X2_differences : GoodIn wsL_differences wsX2_differences := goodIn_ca (goodIn_r _ [6, 7, 8, 9, 10, 5, 11, 12, 13, 14, 15, 16, 17, 18, 19, 20, 21, 22, 23, 24, 25, 26, 27, 28, 29, 30, 31, 32, 33, 34] (by decide +kernel) (by decide +kernel)) (goodIn_sub (fun _ h => List.mem_cons_of_mem _ (List.mem_append_right _ h)) (by decide +kernel))
set_option maxRecDepth 20000 in
theorem gL_differences_X2_differences : GoodIn wsL_differences (wsV RL 49 RX2 yX2_differences wsX2_differences) := goodIn_app (goodIn_of _ (by decide +kernel)) ggL_differences_X2_differences
theorem dL_differences_0 : decode cL_differences 0 = .ok (.aload_n 2, 1) := by decide +kernel
theorem dL_differences_1 : decode cL_differences 1 = .ok (.iconst 0, 1) := by decide +kernel
theorem dL_differences_2 : decode cL_differences 2 = .ok (.aload_n 0, 1) := by decide +kernel
theorem dL_differences_3 : decode cL_differences 3 = .ok (.iload_n 1, 1) := by decide +kernel
theorem dL_differences_4 : decode cL_differences 4 = .ok (.invokevirtual 49, 3) := by decide +kernel
theorem dL_differences_7 : decode cL_differences 7 = .ok (.i2l, 1) := by decide +kernel
theorem dL_differences_8 : decode cL_differences 8 = .ok (.lastore, 1) := by decide +kernel
theorem dL_differences_9 : decode cL_differences 9 = .ok (.goto 6, 3) := by decide +kernel
theorem dL_differences_12 : decode cL_differences 12 = .ok (.astore_n 3, 1) := by decide +kernel
theorem dL_differences_13 : decode cL_differences 13 = .ok (.iconst 1, 1) := by decide +kernel
theorem dL_differences_14 : decode cL_differences 14 = .ok (.ireturn, 1) := by decide +kernel
theorem dL_differences_15 : decode cL_differences 15 = .ok (.iconst 0, 1) := by decide +kernel
theorem dL_differences_16 : decode cL_differences 16 = .ok (.ireturn, 1) := by decide +kernel
set_option maxRecDepth 20000 in
theorem ggL_canReach_X2_canReach : GoodIn wsL_canReach wsX2_canReach := goodIn_ca (goodIn_r _ [6, 7, 8, 9, 10, 5, 11, 12, 13, 14, 15, 16, 17, 18, 19, 20, 21, 22, 23, 24, 25, 26, 27, 28, 29, 30, 31, 32, 33, 34, 35, 36, 37, 38, 39, 40, 41, 42, 43, 44, 45, 46] (by decide +kernel) (by decide +kernel)) (goodIn_sub (fun _ h => List.mem_cons_of_mem _ (List.mem_append_right _ h)) (by decide +kernel))
set_option maxRecDepth 20000 in
theorem gL_canReach_X2_canReach : GoodIn wsL_canReach (wsV RL 52 RX2 yX2_canReach wsX2_canReach) := goodIn_app (goodIn_of _ (by decide +kernel)) ggL_canReach_X2_canReach
theorem dL_canReach_0 : decode cL_canReach 0 = .ok (.aload_n 2, 1) := by decide +kernel
theorem dL_canReach_1 : decode cL_canReach 1 = .ok (.iconst 0, 1) := by decide +kernel
theorem dL_canReach_2 : decode cL_canReach 2 = .ok (.aload_n 0, 1) := by decide +kernel
theorem dL_canReach_3 : decode cL_canReach 3 = .ok (.iload_n 1, 1) := by decide +kernel
theorem dL_canReach_4 : decode cL_canReach 4 = .ok (.invokevirtual 52, 3) := by decide +kernel
theorem dL_canReach_7 : decode cL_canReach 7 = .ok (.ifCond .eq 7, 3) := by decide +kernel
theorem dL_canReach_10 : decode cL_canReach 10 = .ok (.lconst 1, 1) := by decide +kernel
theorem dL_canReach_11 : decode cL_canReach 11 = .ok (.goto 4, 3) := by decide +kernel
theorem dL_canReach_14 : decode cL_canReach 14 = .ok (.lconst 0, 1) := by decide +kernel
theorem dL_canReach_15 : decode cL_canReach 15 = .ok (.lastore, 1) := by decide +kernel
theorem dL_canReach_16 : decode cL_canReach 16 = .ok (.goto 6, 3) := by decide +kernel
theorem dL_canReach_19 : decode cL_canReach 19 = .ok (.astore_n 3, 1) := by decide +kernel
theorem dL_canReach_20 : decode cL_canReach 20 = .ok (.iconst 1, 1) := by decide +kernel
theorem dL_canReach_21 : decode cL_canReach 21 = .ok (.ireturn, 1) := by decide +kernel
theorem dL_canReach_22 : decode cL_canReach 22 = .ok (.iconst 0, 1) := by decide +kernel
theorem dL_canReach_23 : decode cL_canReach 23 = .ok (.ireturn, 1) := by decide +kernel
set_option maxRecDepth 20000 in
theorem ggL_tipsTo_X2_tipsTo : GoodIn wsL_tipsTo wsX2_tipsTo := goodIn_ca (goodIn_ca (goodIn_r _ [7, 8, 9, 10, 11, 12, 6, 13, 14, 15, 16, 17, 18, 19, 20, 21, 22, 23, 24, 25, 26, 27, 28, 29, 30, 31, 32, 33, 34, 35, 36, 37, 38, 39, 40, 41, 42, 43, 44, 45, 46, 47, 48, 49, 50, 51, 52, 53, 54, 55, 56, 57, 58, 59, 60, 61, 62, 63, 64, 65, 66, 67, 68, 69, 70, 71, 72, 73, 74, 75, 76, 77, 78, 79, 80, 81] (by decide +kernel) (by decide +kernel)) (goodIn_sub (fun _ h => List.mem_cons_of_mem _ (List.mem_append_left _ (List.mem_append_right _ h))) (by decide +kernel))) (goodIn_sub (fun _ h => List.mem_cons_of_mem _ (List.mem_append_right _ h)) (by decide +kernel))
set_option maxRecDepth 20000 in
theorem gL_tipsTo_X2_tipsTo : GoodIn wsL_tipsTo (wsV RL 55 RX2 yX2_tipsTo wsX2_tipsTo) := goodIn_app (goodIn_of _ (by decide +kernel)) ggL_tipsTo_X2_tipsTo
theorem dL_tipsTo_0 : decode cL_tipsTo 0 = .ok (.aload_n 3, 1) := by decide +kernel
theorem dL_tipsTo_1 : decode cL_tipsTo 1 = .ok (.iconst 0, 1) := by decide +kernel
theorem dL_tipsTo_2 : decode cL_tipsTo 2 = .ok (.aload_n 0, 1) := by decide +kernel
theorem dL_tipsTo_3 : decode cL_tipsTo 3 = .ok (.iload_n 1, 1) := by decide +kernel
theorem dL_tipsTo_4 : decode cL_tipsTo 4 = .ok (.iload_n 2, 1) := by decide +kernel
theorem dL_tipsTo_5 : decode cL_tipsTo 5 = .ok (.invokevirtual 55, 3) := by decide +kernel
theorem dL_tipsTo_8 : decode cL_tipsTo 8 = .ok (.i2l, 1) := by decide +kernel
theorem dL_tipsTo_9 : decode cL_tipsTo 9 = .ok (.lastore, 1) := by decide +kernel
theorem dL_tipsTo_10 : decode cL_tipsTo 10 = .ok (.goto 11, 3) := by decide +kernel
theorem dL_tipsTo_13 : decode cL_tipsTo 13 = .ok (.astore 4, 2) := by decide +kernel
theorem dL_tipsTo_15 : decode cL_tipsTo 15 = .ok (.iconst 1, 1) := by decide +kernel
theorem dL_tipsTo_16 : decode cL_tipsTo 16 = .ok (.ireturn, 1) := by decide +kernel
theorem dL_tipsTo_17 : decode cL_tipsTo 17 = .ok (.astore 4, 2) := by decide +kernel
theorem dL_tipsTo_19 : decode cL_tipsTo 19 = .ok (.iconst 2, 1) := by decide +kernel
theorem dL_tipsTo_20 : decode cL_tipsTo 20 = .ok (.ireturn, 1) := by decide +kernel
theorem dL_tipsTo_21 : decode cL_tipsTo 21 = .ok (.iconst 0, 1) := by decide +kernel
theorem dL_tipsTo_22 : decode cL_tipsTo 22 = .ok (.ireturn, 1) := by decide +kernel
set_option maxRecDepth 20000 in
theorem ggL_fewestTips_X2_fewestTips : GoodIn wsL_fewestTips wsX2_fewestTips := goodIn_ca (goodIn_r _ [6, 7, 8, 9, 5, 10, 11, 12, 13, 14, 15, 16, 17, 18, 19, 20, 21, 22, 23, 24, 25, 26, 27, 28, 29, 30, 31, 32, 33, 34, 35, 36, 37, 38, 39, 40, 41, 42, 43, 44, 45, 46, 47, 48, 49, 50, 51, 52, 53, 54, 55, 56, 57, 58, 59, 60, 61, 62, 63, 64, 65, 66, 67, 68, 69, 70, 71, 72, 73, 74, 75, 76, 77, 78, 79, 80, 81, 82, 83, 84, 85, 86, 87, 88] (by decide +kernel) (by decide +kernel)) (goodIn_sub (fun _ h => List.mem_cons_of_mem _ (List.mem_append_right _ h)) (by decide +kernel))
set_option maxRecDepth 20000 in
theorem gL_fewestTips_X2_fewestTips : GoodIn wsL_fewestTips (wsV RL 58 RX2 yX2_fewestTips wsX2_fewestTips) := goodIn_app (goodIn_of _ (by decide +kernel)) ggL_fewestTips_X2_fewestTips
theorem dL_fewestTips_0 : decode cL_fewestTips 0 = .ok (.aload_n 2, 1) := by decide +kernel
theorem dL_fewestTips_1 : decode cL_fewestTips 1 = .ok (.iconst 0, 1) := by decide +kernel
theorem dL_fewestTips_2 : decode cL_fewestTips 2 = .ok (.aload_n 0, 1) := by decide +kernel
theorem dL_fewestTips_3 : decode cL_fewestTips 3 = .ok (.iload_n 1, 1) := by decide +kernel
theorem dL_fewestTips_4 : decode cL_fewestTips 4 = .ok (.invokevirtual 58, 3) := by decide +kernel
theorem dL_fewestTips_7 : decode cL_fewestTips 7 = .ok (.i2l, 1) := by decide +kernel
theorem dL_fewestTips_8 : decode cL_fewestTips 8 = .ok (.lastore, 1) := by decide +kernel
theorem dL_fewestTips_9 : decode cL_fewestTips 9 = .ok (.goto 6, 3) := by decide +kernel
theorem dL_fewestTips_12 : decode cL_fewestTips 12 = .ok (.astore_n 3, 1) := by decide +kernel
theorem dL_fewestTips_13 : decode cL_fewestTips 13 = .ok (.iconst 1, 1) := by decide +kernel
theorem dL_fewestTips_14 : decode cL_fewestTips 14 = .ok (.ireturn, 1) := by decide +kernel
theorem dL_fewestTips_15 : decode cL_fewestTips 15 = .ok (.iconst 0, 1) := by decide +kernel
theorem dL_fewestTips_16 : decode cL_fewestTips 16 = .ok (.ireturn, 1) := by decide +kernel
set_option maxRecDepth 20000 in
theorem ggL_spreadWith_X2_spreadWith : GoodIn wsL_spreadWith wsX2_spreadWith := goodIn_ca (goodIn_ca (goodIn_r _ [7, 8, 9, 10, 6, 11, 12, 13, 14, 15, 16, 17, 18, 19, 20, 21, 22, 23, 24, 25, 26, 27, 28, 29, 30, 31, 32, 33, 34, 35, 36, 37, 38, 39, 40, 41, 42, 43, 44, 45, 46, 47, 48, 49, 50, 51, 52, 53, 54, 55, 56, 57, 58, 59, 60, 61, 62, 63, 64, 65, 66, 67, 68, 69, 70, 71, 72, 73, 74, 75, 76] (by decide +kernel) (by decide +kernel)) (goodIn_sub (fun _ h => List.mem_cons_of_mem _ (List.mem_append_left _ (List.mem_append_right _ h))) (by decide +kernel))) (goodIn_sub (fun _ h => List.mem_cons_of_mem _ (List.mem_append_right _ h)) (by decide +kernel))
set_option maxRecDepth 20000 in
theorem gL_spreadWith_X2_spreadWith : GoodIn wsL_spreadWith (wsV RL 61 RX2 yX2_spreadWith wsX2_spreadWith) := goodIn_app (goodIn_of _ (by decide +kernel)) ggL_spreadWith_X2_spreadWith
theorem dL_spreadWith_0 : decode cL_spreadWith 0 = .ok (.aload_n 3, 1) := by decide +kernel
theorem dL_spreadWith_1 : decode cL_spreadWith 1 = .ok (.iconst 0, 1) := by decide +kernel
theorem dL_spreadWith_2 : decode cL_spreadWith 2 = .ok (.aload_n 0, 1) := by decide +kernel
theorem dL_spreadWith_3 : decode cL_spreadWith 3 = .ok (.iload_n 1, 1) := by decide +kernel
theorem dL_spreadWith_4 : decode cL_spreadWith 4 = .ok (.iload_n 2, 1) := by decide +kernel
theorem dL_spreadWith_5 : decode cL_spreadWith 5 = .ok (.invokevirtual 61, 3) := by decide +kernel
theorem dL_spreadWith_8 : decode cL_spreadWith 8 = .ok (.i2l, 1) := by decide +kernel
theorem dL_spreadWith_9 : decode cL_spreadWith 9 = .ok (.lastore, 1) := by decide +kernel
theorem dL_spreadWith_10 : decode cL_spreadWith 10 = .ok (.goto 11, 3) := by decide +kernel
theorem dL_spreadWith_13 : decode cL_spreadWith 13 = .ok (.astore 4, 2) := by decide +kernel
theorem dL_spreadWith_15 : decode cL_spreadWith 15 = .ok (.iconst 1, 1) := by decide +kernel
theorem dL_spreadWith_16 : decode cL_spreadWith 16 = .ok (.ireturn, 1) := by decide +kernel
theorem dL_spreadWith_17 : decode cL_spreadWith 17 = .ok (.astore 4, 2) := by decide +kernel
theorem dL_spreadWith_19 : decode cL_spreadWith 19 = .ok (.iconst 2, 1) := by decide +kernel
theorem dL_spreadWith_20 : decode cL_spreadWith 20 = .ok (.ireturn, 1) := by decide +kernel
theorem dL_spreadWith_21 : decode cL_spreadWith 21 = .ok (.iconst 0, 1) := by decide +kernel
theorem dL_spreadWith_22 : decode cL_spreadWith 22 = .ok (.ireturn, 1) := by decide +kernel
set_option maxRecDepth 20000 in
theorem ggL_placeFor_X2_placeFor : GoodIn wsL_placeFor wsX2_placeFor := goodIn_ca (goodIn_ca (goodIn_r _ [6, 7, 8, 9, 10, 5, 11, 12, 13, 14, 15, 16, 17, 18, 19, 20, 21, 22, 23, 24, 25, 26, 27, 28, 29, 30, 31, 32, 33, 34, 35, 36, 37, 38, 39, 40, 41, 42, 43, 44, 45, 46, 47, 48, 49, 50, 51, 52, 53, 54, 55, 56, 57, 58, 59, 60, 61, 62, 63, 64, 65, 66, 67, 68, 69, 70] (by decide +kernel) (by decide +kernel)) (goodIn_sub (fun _ h => List.mem_cons_of_mem _ (List.mem_append_left _ (List.mem_append_right _ h))) (by decide +kernel))) (goodIn_sub (fun _ h => List.mem_cons_of_mem _ (List.mem_append_right _ h)) (by decide +kernel))
set_option maxRecDepth 20000 in
theorem gL_placeFor_X2_placeFor : GoodIn wsL_placeFor (wsV RL 64 RX2 yX2_placeFor wsX2_placeFor) := goodIn_app (goodIn_of _ (by decide +kernel)) ggL_placeFor_X2_placeFor
theorem dL_placeFor_0 : decode cL_placeFor 0 = .ok (.aload_n 2, 1) := by decide +kernel
theorem dL_placeFor_1 : decode cL_placeFor 1 = .ok (.iconst 0, 1) := by decide +kernel
theorem dL_placeFor_2 : decode cL_placeFor 2 = .ok (.aload_n 0, 1) := by decide +kernel
theorem dL_placeFor_3 : decode cL_placeFor 3 = .ok (.iload_n 1, 1) := by decide +kernel
theorem dL_placeFor_4 : decode cL_placeFor 4 = .ok (.invokevirtual 64, 3) := by decide +kernel
theorem dL_placeFor_7 : decode cL_placeFor 7 = .ok (.i2l, 1) := by decide +kernel
theorem dL_placeFor_8 : decode cL_placeFor 8 = .ok (.lastore, 1) := by decide +kernel
theorem dL_placeFor_9 : decode cL_placeFor 9 = .ok (.goto 6, 3) := by decide +kernel
theorem dL_placeFor_12 : decode cL_placeFor 12 = .ok (.astore_n 3, 1) := by decide +kernel
theorem dL_placeFor_13 : decode cL_placeFor 13 = .ok (.iconst 1, 1) := by decide +kernel
theorem dL_placeFor_14 : decode cL_placeFor 14 = .ok (.ireturn, 1) := by decide +kernel
theorem dL_placeFor_15 : decode cL_placeFor 15 = .ok (.iconst 0, 1) := by decide +kernel
theorem dL_placeFor_16 : decode cL_placeFor 16 = .ok (.ireturn, 1) := by decide +kernel
set_option maxRecDepth 20000 in
theorem ggL_law_X2_init : GoodIn wsL_law wsX2_init := goodIn_r _ [9, 10, 11, 12, 13, 14, 15, 16, 17, 18, 19, 20, 21, 22, 23, 24, 25, 26, 27, 28, 29, 30, 31, 32, 33, 34, 35, 731, 732, 717, 718, 719, 720, 721, 722, 733, 734] (by decide +kernel) (by decide +kernel)
set_option maxRecDepth 20000 in
theorem gL_law_X2_init : GoodIn wsL_law (wsX2_init) := ggL_law_X2_init
set_option maxRecDepth 20000 in
theorem ggL_law_X3_init : GoodIn wsL_law wsX3_init := goodIn_r _ [38, 39, 11, 12, 40, 28, 41, 42, 43, 44, 723, 724, 725, 726, 727, 728, 729, 730] (by decide +kernel) (by decide +kernel)
set_option maxRecDepth 20000 in
theorem gL_law_X3_init : GoodIn wsL_law (wsX3_init) := ggL_law_X3_init
set_option maxRecDepth 20000 in
theorem ggL_law_L_lay : GoodIn wsL_law wsL_lay := goodIn_ca (goodIn_r _ [48, 49, 50, 51, 52, 2, 53, 54, 55, 16, 18, 56, 57, 58, 15, 59, 30, 60, 61, 62, 63, 29, 64, 65, 66, 67, 717, 718, 719, 720, 721, 722, 731, 732] (by decide +kernel) (by decide +kernel)) (goodIn_sub (fun _ h => List.mem_append_left _ (List.mem_append_left _ (List.mem_append_right _ h))) (by decide +kernel))
set_option maxRecDepth 20000 in
theorem gL_law_L_lay : GoodIn wsL_law (va_wsS RL 71 yL_lay wsL_lay) := goodIn_app (goodIn_of _ (by decide +kernel)) ggL_law_L_lay
set_option maxRecDepth 20000 in
theorem ggL_law_X3_lay : GoodIn wsL_law wsX3_lay := goodIn_r _ [71, 72, 40, 73, 41, 74, 75, 5, 76, 77, 78, 79, 80, 723, 724, 725, 726, 727, 728, 729, 730] (by decide +kernel) (by decide +kernel)
set_option maxRecDepth 20000 in
theorem gL_law_X3_lay : GoodIn wsL_law (wsV RL 76 RX3 yX3_lay wsX3_lay) := goodIn_app (goodIn_of _ (by decide +kernel)) ggL_law_X3_lay
set_option maxRecDepth 20000 in
theorem ggL_law_X3_thrown : GoodIn wsL_law wsX3_thrown := goodIn_r _ [84, 72, 723, 724, 725, 726, 727, 728, 729, 730] (by decide +kernel) (by decide +kernel)
set_option maxRecDepth 20000 in
theorem gL_law_X3_thrown : GoodIn wsL_law (wsV RL 77 RX3 yX3_thrown wsX3_thrown) := goodIn_app (goodIn_of _ (by decide +kernel)) ggL_law_X3_thrown
set_option maxRecDepth 20000 in
theorem ggL_law_L_put : GoodIn wsL_law wsL_put := goodIn_ca (goodIn_ca (goodIn_r _ [87, 88, 49, 89, 90, 91, 2, 92, 16, 93, 94, 95, 96, 97, 98, 56, 57, 58, 15, 59, 30, 99, 100, 101, 102, 54, 55, 103, 104, 105, 106, 29, 107, 65, 66, 67, 717, 718, 719, 720, 721, 722, 731, 732] (by decide +kernel) (by decide +kernel)) (goodIn_sub (fun _ h => List.mem_append_left _ (List.mem_append_right _ h)) (by decide +kernel))) (goodIn_sub (fun _ h => List.mem_append_left _ (List.mem_append_left _ (List.mem_append_right _ h))) (by decide +kernel))
set_option maxRecDepth 20000 in
theorem gL_law_L_put : GoodIn wsL_law (va_wsS RL 80 yL_put wsL_put) := goodIn_app (goodIn_of _ (by decide +kernel)) ggL_law_L_put
set_option maxRecDepth 20000 in
theorem ggL_law_X3_put : GoodIn wsL_law wsX3_put := goodIn_r _ [111, 72, 41, 112, 113, 114, 5, 115, 40, 74, 75, 76, 77, 78, 79, 80, 723, 724, 725, 726, 727, 728, 729, 730] (by decide +kernel) (by decide +kernel)
set_option maxRecDepth 20000 in
theorem gL_law_X3_put : GoodIn wsL_law (wsV RL 83 RX3 yX3_put wsX3_put) := goodIn_app (goodIn_of _ (by decide +kernel)) ggL_law_X3_put
set_option maxRecDepth 20000 in
theorem ggL_law_L_tip : GoodIn wsL_law wsL_tip := goodIn_ca (goodIn_ca (goodIn_r _ [118, 88, 49, 119, 120, 121, 2, 122, 16, 19, 123, 124, 125, 126, 93, 94, 95, 96, 97, 98, 56, 57, 58, 15, 59, 30, 127, 128, 129, 130, 54, 55, 131, 132, 133, 134, 135, 136, 137, 138, 139, 104, 105, 106, 29, 64, 65, 66, 67, 140, 141, 142, 143, 103, 717, 718, 719, 720, 721, 722, 731, 732] (by decide +kernel) (by decide +kernel)) (goodIn_sub (fun _ h => List.mem_append_left _ (List.mem_append_right _ h)) (by decide +kernel))) (goodIn_sub (fun _ h => List.mem_append_left _ (List.mem_append_left _ (List.mem_append_right _ h))) (by decide +kernel))
set_option maxRecDepth 20000 in
theorem gL_law_L_tip : GoodIn wsL_law (va_wsS RL 84 yL_tip wsL_tip) := goodIn_app (goodIn_of _ (by decide +kernel)) ggL_law_L_tip
set_option maxRecDepth 20000 in
theorem ggL_law_X3_tip : GoodIn wsL_law wsX3_tip := goodIn_r _ [147, 72, 41, 148, 149, 124, 125, 126, 112, 113, 114, 5, 115, 40, 74, 75, 76, 77, 78, 79, 80, 150, 151, 152, 153, 154, 155, 156, 157, 723, 724, 725, 726, 727, 728, 729, 730] (by decide +kernel) (by decide +kernel)
set_option maxRecDepth 20000 in
theorem gL_law_X3_tip : GoodIn wsL_law (wsV RL 86 RX3 yX3_tip wsX3_tip) := goodIn_app (goodIn_of _ (by decide +kernel)) ggL_law_X3_tip
set_option maxRecDepth 20000 in
theorem ggL_law_X2_turn : GoodIn wsL_law wsX2_turn := goodIn_r _ [161, 16, 162, 163, 164, 15, 165, 30, 139, 104, 105, 106, 29, 64, 65, 66, 67, 103, 717, 718, 719, 720, 721, 722, 731, 732] (by decide +kernel) (by decide +kernel)
set_option maxRecDepth 20000 in
theorem gL_law_X2_turn : GoodIn wsL_law (wsV RL 87 RX2 yX2_turn wsX2_turn) := goodIn_app (goodIn_of _ (by decide +kernel)) ggL_law_X2_turn
set_option maxRecDepth 20000 in
theorem ggL_law_X3_turn : GoodIn wsL_law wsX3_turn := goodIn_r _ [169, 41, 40, 170, 171, 172, 5, 173, 72, 723, 724, 725, 726, 727, 728, 729, 730] (by decide +kernel) (by decide +kernel)
set_option maxRecDepth 20000 in
theorem gL_law_X3_turn : GoodIn wsL_law (wsV RL 90 RX3 yX3_turn wsX3_turn) := goodIn_app (goodIn_of _ (by decide +kernel)) ggL_law_X3_turn
set_option maxRecDepth 20000 in
theorem ggL_law_L_keep : GoodIn wsL_law wsL_keep := goodIn_ca (goodIn_ca (goodIn_r _ [176, 177, 178, 179, 180, 2, 181, 182, 183, 18, 16, 184, 185, 186, 187, 97, 98, 17, 188, 189, 190, 15, 191, 30, 29, 139, 104, 105, 106, 64, 65, 66, 67, 717, 718, 719, 720, 721, 722, 731, 732] (by decide +kernel) (by decide +kernel)) (goodIn_sub (fun _ h => List.mem_append_right _ h) (by decide +kernel))) (goodIn_sub (fun _ h => List.mem_append_left _ (List.mem_append_right _ h)) (by decide +kernel))
set_option maxRecDepth 20000 in
theorem gL_law_L_keep : GoodIn wsL_law (va_wsS RL 91 yL_keep wsL_keep) := goodIn_app (goodIn_of _ (by decide +kernel)) ggL_law_L_keep
set_option maxRecDepth 20000 in
theorem ggL_law_X3_keep : GoodIn wsL_law wsX3_keep := goodIn_r _ [195, 72, 73, 41, 43, 196, 197, 198, 199, 77, 78, 79, 5, 80, 723, 724, 725, 726, 727, 728, 729, 730] (by decide +kernel) (by decide +kernel)
set_option maxRecDepth 20000 in
theorem gL_law_X3_keep : GoodIn wsL_law (wsV RL 94 RX3 yX3_keep wsX3_keep) := goodIn_app (goodIn_of _ (by decide +kernel)) ggL_law_X3_keep
set_option maxRecDepth 20000 in
theorem ggL_law_L_settle : GoodIn wsL_law wsL_settle := goodIn_ca (goodIn_r _ [202, 49, 203, 204, 205, 2, 206, 54, 55, 16, 19, 207, 208, 209, 15, 210, 211, 212, 213, 214, 30, 215, 216, 217, 218, 139, 104, 105, 106, 29, 140, 141, 142, 143, 219, 132, 133, 134, 135, 136, 137, 138, 64, 65, 66, 67, 717, 718, 719, 720, 721, 722, 731, 732] (by decide +kernel) (by decide +kernel)) (goodIn_sub (fun _ h => List.mem_append_left _ (List.mem_append_left _ (List.mem_append_right _ h))) (by decide +kernel))
set_option maxRecDepth 20000 in
theorem gL_law_L_settle : GoodIn wsL_law (va_wsS RL 95 yL_settle wsL_settle) := goodIn_app (goodIn_of _ (by decide +kernel)) ggL_law_L_settle
set_option maxRecDepth 20000 in
theorem ggL_law_X3_settle : GoodIn wsL_law wsX3_settle := goodIn_r _ [223, 72, 41, 148, 74, 75, 5, 76, 77, 78, 79, 80, 224, 225, 226, 227, 228, 229, 230, 231, 40, 232, 233, 234, 235, 154, 155, 156, 157, 150, 151, 152, 153, 723, 724, 725, 726, 727, 728, 729, 730] (by decide +kernel) (by decide +kernel)
set_option maxRecDepth 20000 in
theorem gL_law_X3_settle : GoodIn wsL_law (wsV RL 97 RX3 yX3_settle wsX3_settle) := goodIn_app (goodIn_of _ (by decide +kernel)) ggL_law_X3_settle
set_option maxRecDepth 20000 in
theorem ggL_law_L_reach : GoodIn wsL_law wsL_reach := goodIn_ca (goodIn_ca (goodIn_r _ [238, 88, 177, 239, 240, 241, 2, 242, 16, 19, 184, 185, 186, 187, 97, 98, 18, 17, 243, 244, 245, 246, 182, 183, 247, 248, 249, 15, 250, 251, 252, 253, 254, 30, 139, 104, 105, 106, 29, 255, 256, 257, 258, 259, 260, 261, 262, 263, 264, 265, 266, 24, 267, 268, 269, 23, 270, 35, 34, 271, 57, 58, 59, 272, 273, 274, 275, 276, 277, 278, 279, 280, 281, 282, 125, 283, 284, 285, 286, 287, 288, 289, 290, 291, 292, 124, 126, 188, 189, 190, 191, 64, 65, 66, 67, 717, 718, 719, 720, 721, 722, 731, 732, 733, 734] (by decide +kernel) (by decide +kernel)) (goodIn_sub (fun _ h => List.mem_append_left _ (List.mem_append_right _ h)) (by decide +kernel))) (goodIn_sub (fun _ h => List.mem_append_right _ h) (by decide +kernel))
set_option maxRecDepth 20000 in
theorem gL_law_L_reach : GoodIn wsL_law (va_wsS RL 98 yL_reach wsL_reach) := goodIn_app (goodIn_of _ (by decide +kernel)) ggL_law_L_reach
set_option maxRecDepth 20000 in
theorem ggL_law_X3_reach : GoodIn wsL_law wsX3_reach := goodIn_r _ [296, 72, 40, 41, 148, 297, 298, 299, 5, 300, 73, 74, 75, 76, 77, 78, 79, 80, 301, 302, 303, 304, 305, 44, 149, 124, 125, 126, 306, 282, 283, 307, 308, 309, 310, 311, 312, 313, 314, 315, 316, 317, 318, 43, 723, 724, 725, 726, 727, 728, 729, 730] (by decide +kernel) (by decide +kernel)
set_option maxRecDepth 20000 in
theorem gL_law_X3_reach : GoodIn wsL_law (wsV RL 100 RX3 yX3_reach wsX3_reach) := goodIn_app (goodIn_of _ (by decide +kernel)) ggL_law_X3_reach
set_option maxRecDepth 20000 in
theorem ggL_law_X2_places : GoodIn wsL_law wsX2_places := goodIn_r _ [322, 16, 56, 57, 58, 15, 59, 30, 717, 718, 719, 720, 721, 722, 731, 732] (by decide +kernel) (by decide +kernel)
set_option maxRecDepth 20000 in
theorem gL_law_X2_places : GoodIn wsL_law (wsV RL 101 RX2 yX2_places wsX2_places) := goodIn_app (goodIn_of _ (by decide +kernel)) ggL_law_X2_places
set_option maxRecDepth 20000 in
theorem ggL_law_X3_places : GoodIn wsL_law wsX3_places := goodIn_r _ [326, 40, 170, 171, 172, 5, 173, 72, 723, 724, 725, 726, 727, 728, 729, 730] (by decide +kernel) (by decide +kernel)
set_option maxRecDepth 20000 in
theorem gL_law_X3_places : GoodIn wsL_law (wsV RL 104 RX3 yX3_places wsX3_places) := goodIn_app (goodIn_of _ (by decide +kernel)) ggL_law_X3_places
set_option maxRecDepth 20000 in
theorem ggL_law_L_numberAt : GoodIn wsL_law wsL_numberAt := goodIn_ca (goodIn_r _ [329, 88, 330, 331, 332, 2, 333, 16, 93, 94, 95, 96, 97, 98, 56, 57, 58, 15, 59, 30, 103, 104, 105, 106, 29, 717, 718, 719, 720, 721, 722, 731, 732] (by decide +kernel) (by decide +kernel)) (goodIn_sub (fun _ h => List.mem_append_left _ (List.mem_append_right _ h)) (by decide +kernel))
set_option maxRecDepth 20000 in
theorem gL_law_L_numberAt : GoodIn wsL_law (va_wsS RL 105 yL_numberAt wsL_numberAt) := goodIn_app (goodIn_of _ (by decide +kernel)) ggL_law_L_numberAt
set_option maxRecDepth 20000 in
theorem ggL_law_X3_numberAt : GoodIn wsL_law wsX3_numberAt := goodIn_r _ [337, 72, 41, 112, 113, 114, 5, 115, 40, 74, 75, 76, 77, 78, 79, 80, 723, 724, 725, 726, 727, 728, 729, 730] (by decide +kernel) (by decide +kernel)
set_option maxRecDepth 20000 in
theorem gL_law_X3_numberAt : GoodIn wsL_law (wsV RL 107 RX3 yX3_numberAt wsX3_numberAt) := goodIn_app (goodIn_of _ (by decide +kernel)) ggL_law_X3_numberAt
set_option maxRecDepth 20000 in
theorem ggL_law_X2_targets : GoodIn wsL_law wsX2_targets := goodIn_r _ [341, 18, 717, 718, 719, 720, 721, 722] (by decide +kernel) (by decide +kernel)
set_option maxRecDepth 20000 in
theorem gL_law_X2_targets : GoodIn wsL_law (wsV RL 108 RX2 yX2_targets wsX2_targets) := goodIn_app (goodIn_of _ (by decide +kernel)) ggL_law_X2_targets
set_option maxRecDepth 20000 in
theorem ggL_law_X3_targets : GoodIn wsL_law wsX3_targets := goodIn_r _ [345, 73, 170, 171, 172, 5, 173, 72, 723, 724, 725, 726, 727, 728, 729, 730] (by decide +kernel) (by decide +kernel)
set_option maxRecDepth 20000 in
theorem gL_law_X3_targets : GoodIn wsL_law (wsV RL 111 RX3 yX3_targets wsX3_targets) := goodIn_app (goodIn_of _ (by decide +kernel)) ggL_law_X3_targets
set_option maxRecDepth 20000 in
theorem ggL_law_X2_tips : GoodIn wsL_law wsX2_tips := goodIn_r _ [349, 19, 717, 718, 719, 720, 721, 722] (by decide +kernel) (by decide +kernel)
set_option maxRecDepth 20000 in
theorem gL_law_X2_tips : GoodIn wsL_law (wsV RL 112 RX2 yX2_tips wsX2_tips) := goodIn_app (goodIn_of _ (by decide +kernel)) ggL_law_X2_tips
set_option maxRecDepth 20000 in
theorem ggL_law_X3_tips : GoodIn wsL_law wsX3_tips := goodIn_r _ [353, 148, 170, 171, 172, 5, 173, 72, 723, 724, 725, 726, 727, 728, 729, 730] (by decide +kernel) (by decide +kernel)
set_option maxRecDepth 20000 in
theorem gL_law_X3_tips : GoodIn wsL_law (wsV RL 115 RX3 yX3_tips wsX3_tips) := goodIn_app (goodIn_of _ (by decide +kernel)) ggL_law_X3_tips
set_option maxRecDepth 20000 in
theorem ggL_law_X2_sum : GoodIn wsL_law wsX2_sum := goodIn_r _ [357, 16, 358, 252, 253, 15, 254, 30, 139, 104, 105, 106, 29, 717, 718, 719, 720, 721, 722, 731, 732] (by decide +kernel) (by decide +kernel)
set_option maxRecDepth 20000 in
theorem gL_law_X2_sum : GoodIn wsL_law (wsV RL 116 RX2 yX2_sum wsX2_sum) := goodIn_app (goodIn_of _ (by decide +kernel)) ggL_law_X2_sum
set_option maxRecDepth 20000 in
theorem ggL_law_X3_sum : GoodIn wsL_law wsX3_sum := goodIn_r _ [362, 363, 364, 365, 5, 366, 40, 41, 170, 171, 172, 173, 72, 723, 724, 725, 726, 727, 728, 729, 730] (by decide +kernel) (by decide +kernel)
set_option maxRecDepth 20000 in
theorem gL_law_X3_sum : GoodIn wsL_law (wsV RL 119 RX3 yX3_sum wsX3_sum) := goodIn_app (goodIn_of _ (by decide +kernel)) ggL_law_X3_sum
set_option maxRecDepth 20000 in
theorem ggL_law_X2_moment : GoodIn wsL_law wsX2_moment := goodIn_r _ [370, 16, 371, 256, 257, 15, 258, 30, 139, 104, 105, 106, 29, 259, 260, 261, 262, 717, 718, 719, 720, 721, 722, 731, 732] (by decide +kernel) (by decide +kernel)
set_option maxRecDepth 20000 in
theorem gL_law_X2_moment : GoodIn wsL_law (wsV RL 120 RX2 yX2_moment wsX2_moment) := goodIn_app (goodIn_of _ (by decide +kernel)) ggL_law_X2_moment
set_option maxRecDepth 20000 in
theorem ggL_law_X3_moment : GoodIn wsL_law wsX3_moment := goodIn_r _ [375, 376, 377, 378, 5, 379, 40, 41, 380, 260, 261, 262, 170, 171, 172, 173, 72, 723, 724, 725, 726, 727, 728, 729, 730] (by decide +kernel) (by decide +kernel)
set_option maxRecDepth 20000 in
theorem gL_law_X3_moment : GoodIn wsL_law (wsV RL 123 RX3 yX3_moment wsX3_moment) := goodIn_app (goodIn_of _ (by decide +kernel)) ggL_law_X3_moment
set_option maxRecDepth 20000 in
theorem ggL_law_X2_spread : GoodIn wsL_law wsX2_spread := goodIn_r _ [384, 16, 385, 386, 387, 15, 388, 30, 389, 282, 125, 283, 139, 104, 105, 106, 29, 390, 391, 392, 393, 717, 718, 719, 720, 721, 722, 731, 732] (by decide +kernel) (by decide +kernel)
set_option maxRecDepth 20000 in
theorem gL_law_X2_spread : GoodIn wsL_law (wsV RL 124 RX2 yX2_spread wsX2_spread) := goodIn_app (goodIn_of _ (by decide +kernel)) ggL_law_X2_spread
set_option maxRecDepth 20000 in
theorem ggL_law_X3_spread : GoodIn wsL_law wsX3_spread := goodIn_r _ [397, 41, 398, 399, 400, 5, 401, 40, 306, 282, 125, 283, 402, 403, 404, 170, 171, 172, 173, 72, 723, 724, 725, 726, 727, 728, 729, 730] (by decide +kernel) (by decide +kernel)
set_option maxRecDepth 20000 in
theorem gL_law_X3_spread : GoodIn wsL_law (wsV RL 127 RX3 yX3_spread wsX3_spread) := goodIn_app (goodIn_of _ (by decide +kernel)) ggL_law_X3_spread
set_option maxRecDepth 20000 in
theorem ggL_law_X2_highest : GoodIn wsL_law wsX2_highest := goodIn_r _ [408, 16, 409, 391, 392, 15, 393, 30, 139, 104, 105, 106, 29, 717, 718, 719, 720, 721, 722, 731, 732] (by decide +kernel) (by decide +kernel)
set_option maxRecDepth 20000 in
theorem gL_law_X2_highest : GoodIn wsL_law (wsV RL 128 RX2 yX2_highest wsX2_highest) := goodIn_app (goodIn_of _ (by decide +kernel)) ggL_law_X2_highest
set_option maxRecDepth 20000 in
theorem ggL_law_X3_highest : GoodIn wsL_law wsX3_highest := goodIn_r _ [413, 414, 415, 416, 5, 417, 40, 41, 170, 171, 172, 173, 72, 723, 724, 725, 726, 727, 728, 729, 730] (by decide +kernel) (by decide +kernel)
set_option maxRecDepth 20000 in
theorem gL_law_X3_highest : GoodIn wsL_law (wsV RL 131 RX3 yX3_highest wsX3_highest) := goodIn_app (goodIn_of _ (by decide +kernel)) ggL_law_X3_highest
set_option maxRecDepth 20000 in
theorem ggL_law_L_isSteep : GoodIn wsL_law wsL_isSteep := goodIn_ca (goodIn_r _ [420, 88, 421, 422, 423, 2, 424, 16, 93, 94, 95, 96, 97, 98, 56, 57, 58, 15, 59, 30, 425, 216, 217, 218, 139, 104, 105, 106, 29, 140, 141, 142, 143, 717, 718, 719, 720, 721, 722, 731, 732] (by decide +kernel) (by decide +kernel)) (goodIn_sub (fun _ h => List.mem_append_left _ (List.mem_append_right _ h)) (by decide +kernel))
set_option maxRecDepth 20000 in
theorem gL_law_L_isSteep : GoodIn wsL_law (va_wsS RL 132 yL_isSteep wsL_isSteep) := goodIn_app (goodIn_of _ (by decide +kernel)) ggL_law_L_isSteep
set_option maxRecDepth 20000 in
theorem ggL_law_X3_isSteep : GoodIn wsL_law wsX3_isSteep := goodIn_r _ [429, 72, 41, 112, 113, 114, 5, 115, 40, 74, 75, 76, 430, 431, 432, 433, 232, 233, 234, 235, 154, 155, 156, 157, 723, 724, 725, 726, 727, 728, 729, 730] (by decide +kernel) (by decide +kernel)
set_option maxRecDepth 20000 in
theorem gL_law_X3_isSteep : GoodIn wsL_law (wsV RL 134 RX3 yX3_isSteep wsX3_isSteep) := goodIn_app (goodIn_of _ (by decide +kernel)) ggL_law_X3_isSteep
set_option maxRecDepth 20000 in
theorem ggL_law_X2_steepPlaces : GoodIn wsL_law wsX2_steepPlaces := goodIn_r _ [437, 16, 56, 57, 58, 15, 59, 30, 425, 216, 217, 218, 139, 104, 105, 106, 29, 140, 141, 142, 143, 717, 718, 719, 720, 721, 722, 731, 732] (by decide +kernel) (by decide +kernel)
set_option maxRecDepth 20000 in
theorem gL_law_X2_steepPlaces : GoodIn wsL_law (wsV RL 135 RX2 yX2_steepPlaces wsX2_steepPlaces) := goodIn_app (goodIn_of _ (by decide +kernel)) ggL_law_X2_steepPlaces
set_option maxRecDepth 20000 in
theorem ggL_law_X3_steepPlaces : GoodIn wsL_law wsX3_steepPlaces := goodIn_r _ [441, 442, 443, 444, 5, 445, 40, 41, 232, 233, 234, 235, 154, 155, 156, 157, 170, 171, 172, 173, 72, 723, 724, 725, 726, 727, 728, 729, 730] (by decide +kernel) (by decide +kernel)
set_option maxRecDepth 20000 in
theorem gL_law_X3_steepPlaces : GoodIn wsL_law (wsV RL 138 RX3 yX3_steepPlaces wsX3_steepPlaces) := goodIn_app (goodIn_of _ (by decide +kernel)) ggL_law_X3_steepPlaces
set_option maxRecDepth 20000 in
theorem ggL_law_X2_nextToTip : GoodIn wsL_law wsX2_nextToTip := goodIn_r _ [449, 16, 450, 212, 213, 15, 214, 30, 215, 216, 217, 218, 139, 104, 105, 106, 29, 140, 141, 142, 143, 717, 718, 719, 720, 721, 722, 731, 732] (by decide +kernel) (by decide +kernel)
set_option maxRecDepth 20000 in
theorem gL_law_X2_nextToTip : GoodIn wsL_law (wsV RL 139 RX2 yX2_nextToTip wsX2_nextToTip) := goodIn_app (goodIn_of _ (by decide +kernel)) ggL_law_X2_nextToTip
set_option maxRecDepth 20000 in
theorem ggL_law_X3_nextToTip : GoodIn wsL_law wsX3_nextToTip := goodIn_r _ [454, 41, 228, 229, 230, 5, 231, 40, 232, 233, 234, 235, 154, 155, 156, 157, 170, 171, 172, 173, 72, 723, 724, 725, 726, 727, 728, 729, 730] (by decide +kernel) (by decide +kernel)
set_option maxRecDepth 20000 in
theorem gL_law_X3_nextToTip : GoodIn wsL_law (wsV RL 142 RX3 yX3_nextToTip wsX3_nextToTip) := goodIn_app (goodIn_of _ (by decide +kernel)) ggL_law_X3_nextToTip
set_option maxRecDepth 20000 in
theorem ggL_law_L_tilt : GoodIn wsL_law wsL_tilt := goodIn_ca (goodIn_r _ [457, 88, 458, 459, 460, 2, 461, 16, 93, 94, 95, 96, 97, 98, 56, 57, 58, 15, 59, 30, 462, 463, 464, 465, 140, 141, 142, 143, 139, 104, 105, 106, 29, 717, 718, 719, 720, 721, 722, 731, 732] (by decide +kernel) (by decide +kernel)) (goodIn_sub (fun _ h => List.mem_append_left _ (List.mem_append_right _ h)) (by decide +kernel))
set_option maxRecDepth 20000 in
theorem gL_law_L_tilt : GoodIn wsL_law (va_wsS RL 143 yL_tilt wsL_tilt) := goodIn_app (goodIn_of _ (by decide +kernel)) ggL_law_L_tilt
set_option maxRecDepth 20000 in
theorem ggL_law_X3_tilt : GoodIn wsL_law wsX3_tilt := goodIn_r _ [469, 72, 112, 113, 114, 5, 115, 40, 74, 75, 76, 470, 471, 472, 473, 41, 154, 155, 156, 157, 77, 78, 79, 80, 723, 724, 725, 726, 727, 728, 729, 730] (by decide +kernel) (by decide +kernel)
set_option maxRecDepth 20000 in
theorem gL_law_X3_tilt : GoodIn wsL_law (wsV RL 145 RX3 yX3_tilt wsX3_tilt) := goodIn_app (goodIn_of _ (by decide +kernel)) ggL_law_X3_tilt
set_option maxRecDepth 20000 in
theorem ggL_law_X2_levelAxes : GoodIn wsL_law wsX2_levelAxes := goodIn_r _ [477, 16, 56, 57, 58, 15, 59, 30, 462, 463, 464, 465, 140, 141, 142, 143, 139, 104, 105, 106, 29, 717, 718, 719, 720, 721, 722, 731, 732] (by decide +kernel) (by decide +kernel)
set_option maxRecDepth 20000 in
theorem gL_law_X2_levelAxes : GoodIn wsL_law (wsV RL 146 RX2 yX2_levelAxes wsX2_levelAxes) := goodIn_app (goodIn_of _ (by decide +kernel)) ggL_law_X2_levelAxes
set_option maxRecDepth 20000 in
theorem ggL_law_X3_levelAxes : GoodIn wsL_law wsX3_levelAxes := goodIn_r _ [481, 482, 483, 484, 5, 485, 40, 470, 471, 472, 473, 41, 154, 155, 156, 157, 170, 171, 172, 173, 72, 723, 724, 725, 726, 727, 728, 729, 730] (by decide +kernel) (by decide +kernel)
set_option maxRecDepth 20000 in
theorem gL_law_X3_levelAxes : GoodIn wsL_law (wsV RL 149 RX3 yX3_levelAxes wsX3_levelAxes) := goodIn_app (goodIn_of _ (by decide +kernel)) ggL_law_X3_levelAxes
set_option maxRecDepth 20000 in
theorem ggL_law_X2_bestAxis : GoodIn wsL_law wsX2_bestAxis := goodIn_r _ [489, 16, 123, 124, 125, 126, 56, 57, 58, 15, 59, 30, 462, 463, 464, 465, 140, 141, 142, 143, 139, 104, 105, 106, 29, 717, 718, 719, 720, 721, 722, 731, 732] (by decide +kernel) (by decide +kernel)
set_option maxRecDepth 20000 in
theorem gL_law_X2_bestAxis : GoodIn wsL_law (wsV RL 150 RX2 yX2_bestAxis wsX2_bestAxis) := goodIn_app (goodIn_of _ (by decide +kernel)) ggL_law_X2_bestAxis
set_option maxRecDepth 20000 in
theorem ggL_law_X3_bestAxis : GoodIn wsL_law wsX3_bestAxis := goodIn_r _ [493, 494, 495, 496, 5, 497, 40, 149, 124, 125, 126, 470, 471, 472, 473, 41, 154, 155, 156, 157, 170, 171, 172, 173, 72, 723, 724, 725, 726, 727, 728, 729, 730] (by decide +kernel) (by decide +kernel)
set_option maxRecDepth 20000 in
theorem gL_law_X3_bestAxis : GoodIn wsL_law (wsV RL 153 RX3 yX3_bestAxis wsX3_bestAxis) := goodIn_app (goodIn_of _ (by decide +kernel)) ggL_law_X3_bestAxis
set_option maxRecDepth 20000 in
theorem ggL_law_L_numberIn : GoodIn wsL_law wsL_numberIn := goodIn_ca (goodIn_r _ [500, 88, 501, 502, 503, 2, 504, 184, 185, 186, 187, 97, 98, 18, 17, 93, 94, 95, 96, 16, 56, 57, 58, 15, 59, 30, 103, 104, 105, 106, 29, 717, 718, 719, 720, 721, 722, 731, 732] (by decide +kernel) (by decide +kernel)) (goodIn_sub (fun _ h => List.mem_append_left _ (List.mem_append_right _ h)) (by decide +kernel))
set_option maxRecDepth 20000 in
theorem gL_law_L_numberIn : GoodIn wsL_law (va_wsS RL 154 yL_numberIn wsL_numberIn) := goodIn_app (goodIn_of _ (by decide +kernel)) ggL_law_L_numberIn
set_option maxRecDepth 20000 in
theorem ggL_law_X3_numberIn : GoodIn wsL_law wsX3_numberIn := goodIn_r _ [508, 72, 297, 298, 299, 5, 300, 73, 74, 75, 76, 112, 113, 114, 115, 40, 315, 316, 317, 318, 43, 77, 78, 79, 80, 723, 724, 725, 726, 727, 728, 729, 730] (by decide +kernel) (by decide +kernel)
set_option maxRecDepth 20000 in
theorem gL_law_X3_numberIn : GoodIn wsL_law (wsV RL 156 RX3 yX3_numberIn wsX3_numberIn) := goodIn_app (goodIn_of _ (by decide +kernel)) ggL_law_X3_numberIn
set_option maxRecDepth 20000 in
theorem ggL_law_L_differences : GoodIn wsL_law wsL_differences := goodIn_ca (goodIn_r _ [511, 88, 512, 513, 514, 2, 515, 16, 184, 185, 186, 187, 97, 98, 18, 17, 516, 517, 518, 15, 519, 30, 139, 104, 105, 106, 29, 717, 718, 719, 720, 721, 722, 731, 732] (by decide +kernel) (by decide +kernel)) (goodIn_sub (fun _ h => List.mem_append_left _ (List.mem_append_right _ h)) (by decide +kernel))
set_option maxRecDepth 20000 in
theorem gL_law_L_differences : GoodIn wsL_law (va_wsS RL 157 yL_differences wsL_differences) := goodIn_app (goodIn_of _ (by decide +kernel)) ggL_law_L_differences
set_option maxRecDepth 20000 in
theorem ggL_law_X3_differences : GoodIn wsL_law wsX3_differences := goodIn_r _ [523, 72, 297, 298, 299, 5, 300, 73, 74, 75, 76, 524, 525, 526, 527, 40, 41, 315, 316, 317, 318, 43, 77, 78, 79, 80, 723, 724, 725, 726, 727, 728, 729, 730] (by decide +kernel) (by decide +kernel)
set_option maxRecDepth 20000 in
theorem gL_law_X3_differences : GoodIn wsL_law (wsV RL 159 RX3 yX3_differences wsX3_differences) := goodIn_app (goodIn_of _ (by decide +kernel)) ggL_law_X3_differences
set_option maxRecDepth 20000 in
theorem ggL_law_L_canReach : GoodIn wsL_law wsL_canReach := goodIn_ca (goodIn_r _ [530, 88, 531, 532, 533, 2, 534, 16, 184, 185, 186, 187, 97, 98, 18, 17, 247, 248, 249, 15, 250, 251, 252, 253, 254, 30, 139, 104, 105, 106, 29, 255, 256, 257, 258, 259, 260, 261, 262, 717, 718, 719, 720, 721, 722, 731, 732] (by decide +kernel) (by decide +kernel)) (goodIn_sub (fun _ h => List.mem_append_left _ (List.mem_append_right _ h)) (by decide +kernel))
set_option maxRecDepth 20000 in
theorem gL_law_L_canReach : GoodIn wsL_law (va_wsS RL 160 yL_canReach wsL_canReach) := goodIn_app (goodIn_of _ (by decide +kernel)) ggL_law_L_canReach
set_option maxRecDepth 20000 in
theorem ggL_law_X3_canReach : GoodIn wsL_law wsX3_canReach := goodIn_r _ [538, 72, 297, 298, 299, 5, 300, 73, 74, 75, 76, 430, 431, 432, 433, 307, 308, 309, 310, 40, 44, 311, 312, 313, 314, 41, 315, 316, 317, 318, 43, 723, 724, 725, 726, 727, 728, 729, 730] (by decide +kernel) (by decide +kernel)
set_option maxRecDepth 20000 in
theorem gL_law_X3_canReach : GoodIn wsL_law (wsV RL 162 RX3 yX3_canReach wsX3_canReach) := goodIn_app (goodIn_of _ (by decide +kernel)) ggL_law_X3_canReach
set_option maxRecDepth 20000 in
theorem ggL_law_X2_reachable : GoodIn wsL_law wsX2_reachable := goodIn_ca (goodIn_r _ [542, 18, 16, 184, 185, 186, 2, 187, 97, 98, 17, 247, 248, 249, 15, 250, 251, 252, 253, 254, 30, 139, 104, 105, 106, 29, 255, 256, 257, 258, 259, 260, 261, 262, 717, 718, 719, 720, 721, 722, 731, 732] (by decide +kernel) (by decide +kernel)) (goodIn_sub (fun _ h => List.mem_append_left _ (List.mem_append_right _ h)) (by decide +kernel))
set_option maxRecDepth 20000 in
theorem gL_law_X2_reachable : GoodIn wsL_law (wsV RL 163 RX2 yX2_reachable wsX2_reachable) := goodIn_app (goodIn_of _ (by decide +kernel)) ggL_law_X2_reachable
set_option maxRecDepth 20000 in
theorem ggL_law_X3_reachable : GoodIn wsL_law wsX3_reachable := goodIn_r _ [546, 547, 548, 549, 5, 550, 73, 307, 308, 309, 310, 40, 44, 311, 312, 313, 314, 41, 315, 316, 317, 318, 43, 170, 171, 172, 173, 72, 723, 724, 725, 726, 727, 728, 729, 730] (by decide +kernel) (by decide +kernel)
set_option maxRecDepth 20000 in
theorem gL_law_X3_reachable : GoodIn wsL_law (wsV RL 166 RX3 yX3_reachable wsX3_reachable) := goodIn_app (goodIn_of _ (by decide +kernel)) ggL_law_X3_reachable
set_option maxRecDepth 20000 in
theorem ggL_law_L_tipsTo : GoodIn wsL_law wsL_tipsTo := goodIn_ca (goodIn_ca (goodIn_r _ [553, 88, 177, 554, 555, 556, 2, 557, 24, 16, 184, 185, 186, 187, 97, 98, 18, 17, 93, 94, 95, 96, 56, 57, 58, 15, 59, 30, 243, 244, 245, 246, 182, 183, 247, 248, 249, 250, 251, 252, 253, 254, 139, 104, 105, 106, 29, 255, 256, 257, 258, 259, 260, 261, 262, 267, 268, 269, 23, 270, 35, 34, 271, 272, 273, 274, 275, 276, 558, 285, 286, 287, 717, 718, 719, 720, 721, 722, 731, 732, 733, 734] (by decide +kernel) (by decide +kernel)) (goodIn_sub (fun _ h => List.mem_append_left _ (List.mem_append_right _ h)) (by decide +kernel))) (goodIn_sub (fun _ h => List.mem_append_right _ h) (by decide +kernel))
set_option maxRecDepth 20000 in
theorem gL_law_L_tipsTo : GoodIn wsL_law (va_wsS RL 167 yL_tipsTo wsL_tipsTo) := goodIn_app (goodIn_of _ (by decide +kernel)) ggL_law_L_tipsTo
set_option maxRecDepth 20000 in
theorem ggL_law_X3_tipsTo : GoodIn wsL_law wsX3_tipsTo := goodIn_r _ [562, 72, 44, 297, 298, 299, 5, 300, 73, 74, 75, 76, 112, 113, 114, 115, 40, 77, 78, 79, 80, 307, 308, 309, 310, 311, 312, 313, 314, 41, 315, 316, 317, 318, 43, 723, 724, 725, 726, 727, 728, 729, 730] (by decide +kernel) (by decide +kernel)
set_option maxRecDepth 20000 in
theorem gL_law_X3_tipsTo : GoodIn wsL_law (wsV RL 169 RX3 yX3_tipsTo wsX3_tipsTo) := goodIn_app (goodIn_of _ (by decide +kernel)) ggL_law_X3_tipsTo
set_option maxRecDepth 20000 in
theorem ggL_law_L_fewestTips : GoodIn wsL_law wsL_fewestTips := goodIn_ca (goodIn_r _ [565, 88, 566, 567, 568, 2, 569, 184, 185, 186, 187, 97, 98, 18, 17, 263, 264, 265, 266, 16, 24, 247, 248, 249, 15, 250, 251, 252, 253, 254, 30, 139, 104, 105, 106, 29, 255, 256, 257, 258, 259, 260, 261, 262, 267, 268, 269, 23, 270, 35, 34, 271, 57, 58, 59, 272, 273, 274, 275, 276, 277, 278, 279, 280, 281, 282, 125, 283, 284, 285, 286, 287, 288, 289, 290, 291, 292, 124, 126, 717, 718, 719, 720, 721, 722, 731, 732, 733, 734] (by decide +kernel) (by decide +kernel)) (goodIn_sub (fun _ h => List.mem_append_left _ (List.mem_append_right _ h)) (by decide +kernel))
set_option maxRecDepth 20000 in
theorem gL_law_L_fewestTips : GoodIn wsL_law (va_wsS RL 170 yL_fewestTips wsL_fewestTips) := goodIn_app (goodIn_of _ (by decide +kernel)) ggL_law_L_fewestTips
set_option maxRecDepth 20000 in
theorem ggL_law_X3_fewestTips : GoodIn wsL_law wsX3_fewestTips := goodIn_r _ [573, 72, 297, 298, 299, 5, 300, 73, 74, 75, 76, 301, 302, 303, 304, 305, 40, 44, 149, 124, 125, 126, 306, 282, 283, 307, 308, 309, 310, 311, 312, 313, 314, 41, 315, 316, 317, 318, 43, 77, 78, 79, 80, 723, 724, 725, 726, 727, 728, 729, 730] (by decide +kernel) (by decide +kernel)
set_option maxRecDepth 20000 in
theorem gL_law_X3_fewestTips : GoodIn wsL_law (wsV RL 172 RX3 yX3_fewestTips wsX3_fewestTips) := goodIn_app (goodIn_of _ (by decide +kernel)) ggL_law_X3_fewestTips
set_option maxRecDepth 20000 in
theorem ggL_law_X2_nearestTarget : GoodIn wsL_law wsX2_nearestTarget := goodIn_ca (goodIn_r _ [577, 18, 184, 185, 186, 2, 187, 97, 98, 17, 263, 264, 265, 266, 16, 24, 247, 248, 249, 15, 250, 251, 252, 253, 254, 30, 139, 104, 105, 106, 29, 255, 256, 257, 258, 259, 260, 261, 262, 267, 268, 269, 23, 270, 35, 34, 271, 57, 58, 59, 272, 273, 274, 275, 276, 277, 278, 279, 280, 281, 282, 125, 283, 284, 285, 286, 287, 288, 289, 290, 291, 292, 124, 126, 717, 718, 719, 720, 721, 722, 731, 732, 733, 734] (by decide +kernel) (by decide +kernel)) (goodIn_sub (fun _ h => List.mem_append_left _ (List.mem_append_right _ h)) (by decide +kernel))
set_option maxRecDepth 20000 in
theorem gL_law_X2_nearestTarget : GoodIn wsL_law (wsV RL 173 RX2 yX2_nearestTarget wsX2_nearestTarget) := goodIn_app (goodIn_of _ (by decide +kernel)) ggL_law_X2_nearestTarget
set_option maxRecDepth 20000 in
theorem ggL_law_X3_nearestTarget : GoodIn wsL_law wsX3_nearestTarget := goodIn_r _ [581, 582, 583, 584, 5, 585, 305, 73, 301, 302, 303, 304, 40, 44, 149, 124, 125, 126, 306, 282, 283, 307, 308, 309, 310, 311, 312, 313, 314, 41, 315, 316, 317, 318, 43, 170, 171, 172, 173, 72, 723, 724, 725, 726, 727, 728, 729, 730] (by decide +kernel) (by decide +kernel)
set_option maxRecDepth 20000 in
theorem gL_law_X3_nearestTarget : GoodIn wsL_law (wsV RL 176 RX3 yX3_nearestTarget wsX3_nearestTarget) := goodIn_app (goodIn_of _ (by decide +kernel)) ggL_law_X3_nearestTarget
set_option maxRecDepth 20000 in
theorem ggL_law_X2_stepsToRest : GoodIn wsL_law wsX2_stepsToRest := goodIn_r _ [589, 590, 591, 592, 2, 593, 20, 16, 188, 189, 190, 15, 191, 30, 29, 139, 104, 105, 106, 64, 65, 66, 67, 207, 208, 209, 210, 211, 212, 213, 214, 215, 216, 217, 218, 140, 141, 142, 143, 219, 132, 133, 134, 135, 136, 137, 138, 450, 717, 718, 719, 720, 721, 722, 731, 732] (by decide +kernel) (by decide +kernel)
set_option maxRecDepth 20000 in
theorem gL_law_X2_stepsToRest : GoodIn wsL_law (wsV RL 177 RX2 yX2_stepsToRest wsX2_stepsToRest) := goodIn_app (goodIn_of _ (by decide +kernel)) ggL_law_X2_stepsToRest
set_option maxRecDepth 20000 in
theorem ggL_law_X3_stepsToRest : GoodIn wsL_law wsX3_stepsToRest := goodIn_r _ [597, 598, 599, 600, 5, 601, 42, 602, 603, 604, 605, 41, 196, 197, 198, 199, 224, 225, 226, 227, 228, 229, 230, 231, 40, 232, 233, 234, 235, 154, 155, 156, 157, 150, 151, 152, 153, 170, 171, 172, 173, 72, 723, 724, 725, 726, 727, 728, 729, 730] (by decide +kernel) (by decide +kernel)
set_option maxRecDepth 20000 in
theorem gL_law_X3_stepsToRest : GoodIn wsL_law (wsV RL 180 RX3 yX3_stepsToRest wsX3_stepsToRest) := goodIn_app (goodIn_of _ (by decide +kernel)) ggL_law_X3_stepsToRest
set_option maxRecDepth 20000 in
theorem ggL_law_X2_spreadAtRest : GoodIn wsL_law wsX2_spreadAtRest := goodIn_r _ [609, 20, 590, 591, 592, 2, 593, 16, 188, 189, 190, 15, 191, 30, 29, 139, 104, 105, 106, 64, 65, 66, 67, 207, 208, 209, 210, 211, 212, 213, 214, 215, 216, 217, 218, 140, 141, 142, 143, 219, 132, 133, 134, 135, 136, 137, 138, 450, 385, 386, 387, 388, 389, 282, 125, 283, 390, 391, 392, 393, 717, 718, 719, 720, 721, 722, 731, 732] (by decide +kernel) (by decide +kernel)
set_option maxRecDepth 20000 in
theorem gL_law_X2_spreadAtRest : GoodIn wsL_law (wsV RL 181 RX2 yX2_spreadAtRest wsX2_spreadAtRest) := goodIn_app (goodIn_of _ (by decide +kernel)) ggL_law_X2_spreadAtRest
set_option maxRecDepth 20000 in
theorem ggL_law_X3_spreadAtRest : GoodIn wsL_law wsX3_spreadAtRest := goodIn_r _ [613, 614, 615, 616, 5, 617, 42, 598, 599, 600, 601, 602, 603, 604, 605, 41, 196, 197, 198, 199, 224, 225, 226, 227, 228, 229, 230, 231, 40, 232, 233, 234, 235, 154, 155, 156, 157, 150, 151, 152, 153, 398, 399, 400, 401, 306, 282, 125, 283, 402, 403, 404, 170, 171, 172, 173, 72, 723, 724, 725, 726, 727, 728, 729, 730] (by decide +kernel) (by decide +kernel)
set_option maxRecDepth 20000 in
theorem gL_law_X3_spreadAtRest : GoodIn wsL_law (wsV RL 184 RX3 yX3_spreadAtRest wsX3_spreadAtRest) := goodIn_app (goodIn_of _ (by decide +kernel)) ggL_law_X3_spreadAtRest
set_option maxRecDepth 20000 in
theorem ggL_law_L_spreadWith : GoodIn wsL_law wsL_spreadWith := goodIn_ca (goodIn_ca (goodIn_r _ [620, 88, 49, 621, 622, 623, 2, 624, 93, 94, 95, 96, 97, 98, 16, 56, 57, 58, 15, 59, 30, 127, 128, 129, 130, 54, 55, 625, 626, 627, 628, 20, 188, 189, 190, 191, 29, 139, 104, 105, 106, 64, 65, 66, 67, 131, 132, 133, 134, 135, 136, 137, 138, 140, 141, 142, 143, 385, 386, 387, 388, 389, 282, 125, 283, 390, 391, 392, 393, 717, 718, 719, 720, 721, 722, 731, 732] (by decide +kernel) (by decide +kernel)) (goodIn_sub (fun _ h => List.mem_append_left _ (List.mem_append_right _ h)) (by decide +kernel))) (goodIn_sub (fun _ h => List.mem_append_left _ (List.mem_append_left _ (List.mem_append_right _ h))) (by decide +kernel))
set_option maxRecDepth 20000 in
theorem gL_law_L_spreadWith : GoodIn wsL_law (va_wsS RL 185 yL_spreadWith wsL_spreadWith) := goodIn_app (goodIn_of _ (by decide +kernel)) ggL_law_L_spreadWith
set_option maxRecDepth 20000 in
theorem ggL_law_X3_spreadWith : GoodIn wsL_law wsX3_spreadWith := goodIn_r _ [632, 72, 112, 113, 114, 5, 115, 40, 74, 75, 76, 77, 78, 79, 80, 633, 634, 635, 636, 42, 602, 603, 604, 605, 41, 196, 197, 198, 199, 150, 151, 152, 153, 154, 155, 156, 157, 398, 399, 400, 401, 306, 282, 125, 283, 402, 403, 404, 723, 724, 725, 726, 727, 728, 729, 730] (by decide +kernel) (by decide +kernel)
set_option maxRecDepth 20000 in
theorem gL_law_X3_spreadWith : GoodIn wsL_law (wsV RL 187 RX3 yX3_spreadWith wsX3_spreadWith) := goodIn_app (goodIn_of _ (by decide +kernel)) ggL_law_X3_spreadWith
set_option maxRecDepth 20000 in
theorem ggL_law_X2_bestPlace : GoodIn wsL_law wsX2_bestPlace := goodIn_r _ [640, 16, 641, 282, 125, 283, 385, 386, 387, 15, 388, 30, 389, 139, 104, 105, 106, 29, 390, 391, 392, 393, 56, 57, 58, 59, 625, 626, 627, 2, 628, 20, 188, 189, 190, 191, 64, 65, 66, 67, 131, 132, 133, 134, 135, 136, 137, 138, 140, 141, 142, 143, 717, 718, 719, 720, 721, 722, 731, 732] (by decide +kernel) (by decide +kernel)
set_option maxRecDepth 20000 in
theorem gL_law_X2_bestPlace : GoodIn wsL_law (wsV RL 188 RX2 yX2_bestPlace wsX2_bestPlace) := goodIn_app (goodIn_of _ (by decide +kernel)) ggL_law_X2_bestPlace
set_option maxRecDepth 20000 in
theorem ggL_law_X3_bestPlace : GoodIn wsL_law wsX3_bestPlace := goodIn_r _ [645, 646, 647, 648, 5, 649, 41, 40, 306, 282, 125, 283, 398, 399, 400, 401, 402, 403, 404, 633, 634, 635, 636, 42, 602, 603, 604, 605, 196, 197, 198, 199, 150, 151, 152, 153, 154, 155, 156, 157, 170, 171, 172, 173, 72, 723, 724, 725, 726, 727, 728, 729, 730] (by decide +kernel) (by decide +kernel)
set_option maxRecDepth 20000 in
theorem gL_law_X3_bestPlace : GoodIn wsL_law (wsV RL 191 RX3 yX3_bestPlace wsX3_bestPlace) := goodIn_app (goodIn_of _ (by decide +kernel)) ggL_law_X3_bestPlace
set_option maxRecDepth 20000 in
theorem ggL_law_L_placeFor : GoodIn wsL_law wsL_placeFor := goodIn_ca (goodIn_ca (goodIn_r _ [652, 49, 653, 654, 655, 2, 656, 18, 99, 100, 101, 102, 54, 55, 184, 185, 186, 187, 97, 98, 17, 657, 658, 659, 660, 16, 20, 56, 57, 58, 15, 59, 30, 188, 189, 190, 191, 29, 139, 104, 105, 106, 64, 65, 66, 67, 107, 247, 248, 249, 250, 251, 252, 253, 254, 255, 256, 257, 258, 259, 260, 261, 262, 717, 718, 719, 720, 721, 722, 731, 732] (by decide +kernel) (by decide +kernel)) (goodIn_sub (fun _ h => List.mem_append_left _ (List.mem_append_left _ (List.mem_append_right _ h))) (by decide +kernel))) (goodIn_sub (fun _ h => List.mem_append_left _ (List.mem_append_right _ h)) (by decide +kernel))
set_option maxRecDepth 20000 in
theorem gL_law_L_placeFor : GoodIn wsL_law (va_wsS RL 192 yL_placeFor wsL_placeFor) := goodIn_app (goodIn_of _ (by decide +kernel)) ggL_law_L_placeFor
set_option maxRecDepth 20000 in
theorem ggL_law_X3_placeFor : GoodIn wsL_law wsX3_placeFor := goodIn_r _ [664, 72, 74, 75, 5, 76, 665, 666, 667, 668, 40, 73, 41, 307, 308, 309, 310, 44, 311, 312, 313, 314, 315, 316, 317, 318, 43, 77, 78, 79, 80, 723, 724, 725, 726, 727, 728, 729, 730] (by decide +kernel) (by decide +kernel)
set_option maxRecDepth 20000 in
theorem gL_law_X3_placeFor : GoodIn wsL_law (wsV RL 194 RX3 yX3_placeFor wsX3_placeFor) := goodIn_app (goodIn_of _ (by decide +kernel)) ggL_law_X3_placeFor
set_option maxRecDepth 20000 in
theorem ggL_law_X2_meanNumber : GoodIn wsL_law wsX2_meanNumber := goodIn_r _ [672, 16, 56, 57, 58, 15, 59, 30, 358, 252, 253, 254, 139, 104, 105, 106, 29, 717, 718, 719, 720, 721, 722, 731, 732] (by decide +kernel) (by decide +kernel)
set_option maxRecDepth 20000 in
theorem gL_law_X2_meanNumber : GoodIn wsL_law (wsV RL 195 RX2 yX2_meanNumber wsX2_meanNumber) := goodIn_app (goodIn_of _ (by decide +kernel)) ggL_law_X2_meanNumber
set_option maxRecDepth 20000 in
theorem ggL_law_X3_meanNumber : GoodIn wsL_law wsX3_meanNumber := goodIn_r _ [676, 72, 40, 363, 364, 365, 5, 366, 41, 723, 724, 725, 726, 727, 728, 729, 730] (by decide +kernel) (by decide +kernel)
set_option maxRecDepth 20000 in
theorem gL_law_X3_meanNumber : GoodIn wsL_law (wsV RL 199 RX3 yX3_meanNumber wsX3_meanNumber) := goodIn_app (goodIn_of _ (by decide +kernel)) ggL_law_X3_meanNumber
set_option maxRecDepth 20000 in
theorem ggL_law_X2_digest : GoodIn wsL_law wsX2_digest := goodIn_ca (goodIn_ca (goodIn_r _ [680, 681, 682, 320, 321, 2, 322, 16, 56, 57, 58, 15, 59, 30, 683, 684, 685, 686, 687, 339, 340, 341, 18, 688, 347, 348, 349, 19, 689, 355, 356, 357, 358, 252, 253, 254, 139, 104, 105, 106, 29, 690, 368, 369, 370, 371, 256, 257, 258, 259, 260, 261, 262, 691, 382, 383, 384, 385, 386, 387, 388, 389, 282, 125, 283, 390, 391, 392, 393, 692, 406, 407, 408, 409, 693, 435, 436, 437, 425, 216, 217, 218, 140, 141, 142, 143, 694, 447, 448, 449, 450, 212, 213, 214, 215, 695, 475, 476, 477, 462, 463, 464, 465, 696, 487, 488, 489, 123, 124, 126, 697, 540, 541, 542, 184, 185, 186, 187, 97, 98, 17, 247, 248, 249, 250, 251, 255, 698, 575, 576, 577, 263, 264, 265, 266, 24, 267, 268, 269, 23, 270, 35, 34, 271, 272, 273, 274, 275, 276, 277, 278, 279, 280, 281, 284, 285, 286, 287, 288, 289, 290, 291, 292, 699, 587, 588, 589, 590, 591, 592, 593, 20, 188, 189, 190, 191, 64, 65, 66, 67, 207, 208, 209, 210, 211, 219, 132, 133, 134, 135, 136, 137, 138, 700, 607, 608, 609, 701, 638, 639, 640, 641, 625, 626, 627, 628, 131, 702, 654, 655, 656, 99, 100, 101, 102, 54, 55, 657, 658, 659, 660, 107, 703, 704, 705, 706, 103, 707, 708, 709, 710, 516, 517, 518, 519, 717, 718, 719, 720, 721, 722, 731, 732, 733, 734] (by decide +kernel) (by decide +kernel)) (goodIn_sub (fun _ h => List.mem_append_left _ (List.mem_append_right _ h)) (by decide +kernel))) (goodIn_sub (fun _ h => List.mem_append_left _ (List.mem_append_left _ (List.mem_append_right _ h))) (by decide +kernel))
set_option maxRecDepth 20000 in
theorem gL_law_X2_digest : GoodIn wsL_law (wsV RL 200 RX2 yX2_digest wsX2_digest) := goodIn_app (goodIn_of _ (by decide +kernel)) ggL_law_X2_digest
set_option maxRecDepth 20000 in
theorem ggL_law_X3_digest : GoodIn wsL_law wsX3_digest := goodIn_r _ [714, 72, 28, 40, 73, 148, 41, 715, 716, 363, 364, 365, 5, 366, 376, 377, 378, 379, 380, 260, 261, 262, 398, 399, 400, 401, 306, 282, 125, 283, 402, 403, 404, 414, 415, 416, 417, 442, 443, 444, 445, 232, 233, 234, 235, 154, 155, 156, 157, 228, 229, 230, 231, 482, 483, 484, 485, 470, 471, 472, 473, 494, 495, 496, 497, 149, 124, 126, 547, 548, 549, 550, 307, 308, 309, 310, 44, 311, 312, 313, 314, 315, 316, 317, 318, 43, 582, 583, 584, 585, 305, 301, 302, 303, 304, 598, 599, 600, 601, 42, 602, 603, 604, 605, 196, 197, 198, 199, 224, 225, 226, 227, 150, 151, 152, 153, 614, 615, 616, 617, 646, 647, 648, 649, 633, 634, 635, 636, 665, 666, 667, 668, 524, 525, 526, 527, 723, 724, 725, 726, 727, 728, 729, 730] (by decide +kernel) (by decide +kernel)
set_option maxRecDepth 20000 in
theorem gL_law_X3_digest : GoodIn wsL_law (wsV RL 204 RX3 yX3_digest wsX3_digest) := goodIn_app (goodIn_of _ (by decide +kernel)) ggL_law_X3_digest
theorem dL_law_0 : decode cL_law 0 = .ok (.new 8, 3) := by decide +kernel
theorem dL_law_3 : decode cL_law 3 = .ok (.dup, 1) := by decide +kernel
theorem dL_law_4 : decode cL_law 4 = .ok (.invokespecial 67, 3) := by decide +kernel
theorem dL_law_7 : decode cL_law 7 = .ok (.astore_n 1, 1) := by decide +kernel
theorem dL_law_8 : decode cL_law 8 = .ok (.new 68, 3) := by decide +kernel
theorem dL_law_11 : decode cL_law 11 = .ok (.dup, 1) := by decide +kernel
theorem dL_law_12 : decode cL_law 12 = .ok (.invokespecial 70, 3) := by decide +kernel
theorem dL_law_15 : decode cL_law 15 = .ok (.astore_n 2, 1) := by decide +kernel
theorem dL_law_16 : decode cL_law 16 = .ok (.iconst 1, 1) := by decide +kernel
theorem dL_law_17 : decode cL_law 17 = .ok (.newarray .long, 2) := by decide +kernel
theorem dL_law_19 : decode cL_law 19 = .ok (.astore_n 3, 1) := by decide +kernel
theorem dL_law_20 : decode cL_law 20 = .ok (.iconst 0, 1) := by decide +kernel
theorem dL_law_21 : decode cL_law 21 = .ok (.istore 4, 2) := by decide +kernel
theorem dL_law_23 : decode cL_law 23 = .ok (.iload 4, 2) := by decide +kernel
theorem dL_law_25 : decode cL_law 25 = .ok (.aload_n 0, 1) := by decide +kernel
theorem dL_law_26 : decode cL_law 26 = .ok (.arraylength, 1) := by decide +kernel
theorem dL_law_27 : decode cL_law 27 = .ok (.iconst 3, 1) := by decide +kernel
theorem dL_law_28 : decode cL_law 28 = .ok (.isub, 1) := by decide +kernel
theorem dL_law_29 : decode cL_law 29 = .ok (.if_icmp .gt 1403, 3) := by decide +kernel
theorem dL_law_32 : decode cL_law 32 = .ok (.aload_n 0, 1) := by decide +kernel
theorem dL_law_33 : decode cL_law 33 = .ok (.iload 4, 2) := by decide +kernel
theorem dL_law_35 : decode cL_law 35 = .ok (.iaload, 1) := by decide +kernel
theorem dL_law_36 : decode cL_law 36 = .ok (.bipush 63, 2) := by decide +kernel
theorem dL_law_38 : decode cL_law 38 = .ok (.iand, 1) := by decide +kernel
theorem dL_law_39 : decode cL_law 39 = .ok (.tableswitch 1387 0 34 #[153, 209, 277, 345, 358, 402, 458, 514, 527, 583, 596, 609, 622, 635, 648, 661, 724, 737, 750, 806, 819, 832, 900, 956, 1019, 1032, 1100, 1156, 1169, 1182, 1195, 1263, 1276, 1332, 1373], 153) := by decide +kernel
theorem dL_law_192 : decode cL_law 192 = .ok (.aload_n 1, 1) := by decide +kernel
theorem dL_law_193 : decode cL_law 193 = .ok (.aload_n 0, 1) := by decide +kernel
theorem dL_law_194 : decode cL_law 194 = .ok (.iload 4, 2) := by decide +kernel
theorem dL_law_196 : decode cL_law 196 = .ok (.iconst 1, 1) := by decide +kernel
theorem dL_law_197 : decode cL_law 197 = .ok (.iadd, 1) := by decide +kernel
theorem dL_law_198 : decode cL_law 198 = .ok (.iaload, 1) := by decide +kernel
theorem dL_law_199 : decode cL_law 199 = .ok (.aload_n 3, 1) := by decide +kernel
theorem dL_law_200 : decode cL_law 200 = .ok (.invokestatic 71, 3) := by decide +kernel
theorem dL_law_203 : decode cL_law 203 = .ok (.istore 5, 2) := by decide +kernel
theorem dL_law_205 : decode cL_law 205 = .ok (.aload_n 2, 1) := by decide +kernel
theorem dL_law_206 : decode cL_law 206 = .ok (.aload_n 0, 1) := by decide +kernel
theorem dL_law_207 : decode cL_law 207 = .ok (.iload 4, 2) := by decide +kernel
theorem dL_law_209 : decode cL_law 209 = .ok (.iconst 1, 1) := by decide +kernel
theorem dL_law_210 : decode cL_law 210 = .ok (.iadd, 1) := by decide +kernel
theorem dL_law_211 : decode cL_law 211 = .ok (.iaload, 1) := by decide +kernel
theorem dL_law_212 : decode cL_law 212 = .ok (.invokevirtual 76, 3) := by decide +kernel
theorem dL_law_215 : decode cL_law 215 = .ok (.istore 6, 2) := by decide +kernel
theorem dL_law_217 : decode cL_law 217 = .ok (.aload_n 2, 1) := by decide +kernel
theorem dL_law_218 : decode cL_law 218 = .ok (.invokevirtual 77, 3) := by decide +kernel
theorem dL_law_221 : decode cL_law 221 = .ok (.iload 5, 2) := by decide +kernel
theorem dL_law_223 : decode cL_law 223 = .ok (.if_icmp .eq 5, 3) := by decide +kernel
theorem dL_law_226 : decode cL_law 226 = .ok (.iconst 0, 1) := by decide +kernel
theorem dL_law_227 : decode cL_law 227 = .ok (.ireturn, 1) := by decide +kernel
theorem dL_law_228 : decode cL_law 228 = .ok (.iload 5, 2) := by decide +kernel
theorem dL_law_230 : decode cL_law 230 = .ok (.ifCond .ne 15, 3) := by decide +kernel
theorem dL_law_233 : decode cL_law 233 = .ok (.aload_n 3, 1) := by decide +kernel
theorem dL_law_234 : decode cL_law 234 = .ok (.iconst 0, 1) := by decide +kernel
theorem dL_law_235 : decode cL_law 235 = .ok (.laload, 1) := by decide +kernel
theorem dL_law_236 : decode cL_law 236 = .ok (.iload 6, 2) := by decide +kernel
theorem dL_law_238 : decode cL_law 238 = .ok (.i2l, 1) := by decide +kernel
theorem dL_law_239 : decode cL_law 239 = .ok (.lcmp, 1) := by decide +kernel
theorem dL_law_240 : decode cL_law 240 = .ok (.ifCond .eq 5, 3) := by decide +kernel
theorem dL_law_243 : decode cL_law 243 = .ok (.iconst 0, 1) := by decide +kernel
theorem dL_law_244 : decode cL_law 244 = .ok (.ireturn, 1) := by decide +kernel
theorem dL_law_245 : decode cL_law 245 = .ok (.goto 1181, 3) := by decide +kernel
theorem dL_law_248 : decode cL_law 248 = .ok (.aload_n 1, 1) := by decide +kernel
theorem dL_law_249 : decode cL_law 249 = .ok (.aload_n 0, 1) := by decide +kernel
theorem dL_law_250 : decode cL_law 250 = .ok (.iload 4, 2) := by decide +kernel
theorem dL_law_252 : decode cL_law 252 = .ok (.iconst 1, 1) := by decide +kernel
theorem dL_law_253 : decode cL_law 253 = .ok (.iadd, 1) := by decide +kernel
theorem dL_law_254 : decode cL_law 254 = .ok (.iaload, 1) := by decide +kernel
theorem dL_law_255 : decode cL_law 255 = .ok (.aload_n 0, 1) := by decide +kernel
theorem dL_law_256 : decode cL_law 256 = .ok (.iload 4, 2) := by decide +kernel
theorem dL_law_258 : decode cL_law 258 = .ok (.iconst 2, 1) := by decide +kernel
theorem dL_law_259 : decode cL_law 259 = .ok (.iadd, 1) := by decide +kernel
theorem dL_law_260 : decode cL_law 260 = .ok (.iaload, 1) := by decide +kernel
theorem dL_law_261 : decode cL_law 261 = .ok (.aload_n 3, 1) := by decide +kernel
theorem dL_law_262 : decode cL_law 262 = .ok (.invokestatic 80, 3) := by decide +kernel
theorem dL_law_265 : decode cL_law 265 = .ok (.istore 5, 2) := by decide +kernel
theorem dL_law_267 : decode cL_law 267 = .ok (.aload_n 2, 1) := by decide +kernel
theorem dL_law_268 : decode cL_law 268 = .ok (.aload_n 0, 1) := by decide +kernel
theorem dL_law_269 : decode cL_law 269 = .ok (.iload 4, 2) := by decide +kernel
theorem dL_law_271 : decode cL_law 271 = .ok (.iconst 1, 1) := by decide +kernel
theorem dL_law_272 : decode cL_law 272 = .ok (.iadd, 1) := by decide +kernel
theorem dL_law_273 : decode cL_law 273 = .ok (.iaload, 1) := by decide +kernel
theorem dL_law_274 : decode cL_law 274 = .ok (.aload_n 0, 1) := by decide +kernel
theorem dL_law_275 : decode cL_law 275 = .ok (.iload 4, 2) := by decide +kernel
theorem dL_law_277 : decode cL_law 277 = .ok (.iconst 2, 1) := by decide +kernel
theorem dL_law_278 : decode cL_law 278 = .ok (.iadd, 1) := by decide +kernel
theorem dL_law_279 : decode cL_law 279 = .ok (.iaload, 1) := by decide +kernel
theorem dL_law_280 : decode cL_law 280 = .ok (.invokevirtual 83, 3) := by decide +kernel
theorem dL_law_283 : decode cL_law 283 = .ok (.istore 6, 2) := by decide +kernel
theorem dL_law_285 : decode cL_law 285 = .ok (.aload_n 2, 1) := by decide +kernel
theorem dL_law_286 : decode cL_law 286 = .ok (.invokevirtual 77, 3) := by decide +kernel
theorem dL_law_289 : decode cL_law 289 = .ok (.iload 5, 2) := by decide +kernel
theorem dL_law_291 : decode cL_law 291 = .ok (.if_icmp .eq 5, 3) := by decide +kernel
theorem dL_law_294 : decode cL_law 294 = .ok (.iconst 0, 1) := by decide +kernel
theorem dL_law_295 : decode cL_law 295 = .ok (.ireturn, 1) := by decide +kernel
theorem dL_law_296 : decode cL_law 296 = .ok (.iload 5, 2) := by decide +kernel
theorem dL_law_298 : decode cL_law 298 = .ok (.ifCond .ne 15, 3) := by decide +kernel
theorem dL_law_301 : decode cL_law 301 = .ok (.aload_n 3, 1) := by decide +kernel
theorem dL_law_302 : decode cL_law 302 = .ok (.iconst 0, 1) := by decide +kernel
theorem dL_law_303 : decode cL_law 303 = .ok (.laload, 1) := by decide +kernel
theorem dL_law_304 : decode cL_law 304 = .ok (.iload 6, 2) := by decide +kernel
theorem dL_law_306 : decode cL_law 306 = .ok (.i2l, 1) := by decide +kernel
theorem dL_law_307 : decode cL_law 307 = .ok (.lcmp, 1) := by decide +kernel
theorem dL_law_308 : decode cL_law 308 = .ok (.ifCond .eq 5, 3) := by decide +kernel
theorem dL_law_311 : decode cL_law 311 = .ok (.iconst 0, 1) := by decide +kernel
theorem dL_law_312 : decode cL_law 312 = .ok (.ireturn, 1) := by decide +kernel
theorem dL_law_313 : decode cL_law 313 = .ok (.goto 1113, 3) := by decide +kernel
theorem dL_law_316 : decode cL_law 316 = .ok (.aload_n 1, 1) := by decide +kernel
theorem dL_law_317 : decode cL_law 317 = .ok (.aload_n 0, 1) := by decide +kernel
theorem dL_law_318 : decode cL_law 318 = .ok (.iload 4, 2) := by decide +kernel
theorem dL_law_320 : decode cL_law 320 = .ok (.iconst 1, 1) := by decide +kernel
theorem dL_law_321 : decode cL_law 321 = .ok (.iadd, 1) := by decide +kernel
theorem dL_law_322 : decode cL_law 322 = .ok (.iaload, 1) := by decide +kernel
theorem dL_law_323 : decode cL_law 323 = .ok (.aload_n 0, 1) := by decide +kernel
theorem dL_law_324 : decode cL_law 324 = .ok (.iload 4, 2) := by decide +kernel
theorem dL_law_326 : decode cL_law 326 = .ok (.iconst 2, 1) := by decide +kernel
theorem dL_law_327 : decode cL_law 327 = .ok (.iadd, 1) := by decide +kernel
theorem dL_law_328 : decode cL_law 328 = .ok (.iaload, 1) := by decide +kernel
theorem dL_law_329 : decode cL_law 329 = .ok (.aload_n 3, 1) := by decide +kernel
theorem dL_law_330 : decode cL_law 330 = .ok (.invokestatic 84, 3) := by decide +kernel
theorem dL_law_333 : decode cL_law 333 = .ok (.istore 5, 2) := by decide +kernel
theorem dL_law_335 : decode cL_law 335 = .ok (.aload_n 2, 1) := by decide +kernel
theorem dL_law_336 : decode cL_law 336 = .ok (.aload_n 0, 1) := by decide +kernel
theorem dL_law_337 : decode cL_law 337 = .ok (.iload 4, 2) := by decide +kernel
theorem dL_law_339 : decode cL_law 339 = .ok (.iconst 1, 1) := by decide +kernel
theorem dL_law_340 : decode cL_law 340 = .ok (.iadd, 1) := by decide +kernel
theorem dL_law_341 : decode cL_law 341 = .ok (.iaload, 1) := by decide +kernel
theorem dL_law_342 : decode cL_law 342 = .ok (.aload_n 0, 1) := by decide +kernel
theorem dL_law_343 : decode cL_law 343 = .ok (.iload 4, 2) := by decide +kernel
theorem dL_law_345 : decode cL_law 345 = .ok (.iconst 2, 1) := by decide +kernel
theorem dL_law_346 : decode cL_law 346 = .ok (.iadd, 1) := by decide +kernel
theorem dL_law_347 : decode cL_law 347 = .ok (.iaload, 1) := by decide +kernel
theorem dL_law_348 : decode cL_law 348 = .ok (.invokevirtual 86, 3) := by decide +kernel
theorem dL_law_351 : decode cL_law 351 = .ok (.istore 6, 2) := by decide +kernel
theorem dL_law_353 : decode cL_law 353 = .ok (.aload_n 2, 1) := by decide +kernel
theorem dL_law_354 : decode cL_law 354 = .ok (.invokevirtual 77, 3) := by decide +kernel
theorem dL_law_357 : decode cL_law 357 = .ok (.iload 5, 2) := by decide +kernel
theorem dL_law_359 : decode cL_law 359 = .ok (.if_icmp .eq 5, 3) := by decide +kernel
theorem dL_law_362 : decode cL_law 362 = .ok (.iconst 0, 1) := by decide +kernel
theorem dL_law_363 : decode cL_law 363 = .ok (.ireturn, 1) := by decide +kernel
theorem dL_law_364 : decode cL_law 364 = .ok (.iload 5, 2) := by decide +kernel
theorem dL_law_366 : decode cL_law 366 = .ok (.ifCond .ne 15, 3) := by decide +kernel
theorem dL_law_369 : decode cL_law 369 = .ok (.aload_n 3, 1) := by decide +kernel
theorem dL_law_370 : decode cL_law 370 = .ok (.iconst 0, 1) := by decide +kernel
theorem dL_law_371 : decode cL_law 371 = .ok (.laload, 1) := by decide +kernel
theorem dL_law_372 : decode cL_law 372 = .ok (.iload 6, 2) := by decide +kernel
theorem dL_law_374 : decode cL_law 374 = .ok (.i2l, 1) := by decide +kernel
theorem dL_law_375 : decode cL_law 375 = .ok (.lcmp, 1) := by decide +kernel
theorem dL_law_376 : decode cL_law 376 = .ok (.ifCond .eq 5, 3) := by decide +kernel
theorem dL_law_379 : decode cL_law 379 = .ok (.iconst 0, 1) := by decide +kernel
theorem dL_law_380 : decode cL_law 380 = .ok (.ireturn, 1) := by decide +kernel
theorem dL_law_381 : decode cL_law 381 = .ok (.goto 1045, 3) := by decide +kernel
theorem dL_law_384 : decode cL_law 384 = .ok (.aload_n 1, 1) := by decide +kernel
theorem dL_law_385 : decode cL_law 385 = .ok (.invokevirtual 87, 3) := by decide +kernel
theorem dL_law_388 : decode cL_law 388 = .ok (.aload_n 2, 1) := by decide +kernel
theorem dL_law_389 : decode cL_law 389 = .ok (.invokevirtual 90, 3) := by decide +kernel
theorem dL_law_392 : decode cL_law 392 = .ok (.if_icmp .eq 1034, 3) := by decide +kernel
theorem dL_law_395 : decode cL_law 395 = .ok (.iconst 0, 1) := by decide +kernel
theorem dL_law_396 : decode cL_law 396 = .ok (.ireturn, 1) := by decide +kernel
theorem dL_law_397 : decode cL_law 397 = .ok (.aload_n 1, 1) := by decide +kernel
theorem dL_law_398 : decode cL_law 398 = .ok (.aload_n 3, 1) := by decide +kernel
theorem dL_law_399 : decode cL_law 399 = .ok (.invokestatic 91, 3) := by decide +kernel
theorem dL_law_402 : decode cL_law 402 = .ok (.istore 5, 2) := by decide +kernel
theorem dL_law_404 : decode cL_law 404 = .ok (.aload_n 2, 1) := by decide +kernel
theorem dL_law_405 : decode cL_law 405 = .ok (.invokevirtual 94, 3) := by decide +kernel
theorem dL_law_408 : decode cL_law 408 = .ok (.istore 6, 2) := by decide +kernel
theorem dL_law_410 : decode cL_law 410 = .ok (.aload_n 2, 1) := by decide +kernel
theorem dL_law_411 : decode cL_law 411 = .ok (.invokevirtual 77, 3) := by decide +kernel
theorem dL_law_414 : decode cL_law 414 = .ok (.iload 5, 2) := by decide +kernel
theorem dL_law_416 : decode cL_law 416 = .ok (.if_icmp .eq 5, 3) := by decide +kernel
theorem dL_law_419 : decode cL_law 419 = .ok (.iconst 0, 1) := by decide +kernel
theorem dL_law_420 : decode cL_law 420 = .ok (.ireturn, 1) := by decide +kernel
theorem dL_law_421 : decode cL_law 421 = .ok (.iload 5, 2) := by decide +kernel
theorem dL_law_423 : decode cL_law 423 = .ok (.ifCond .ne 15, 3) := by decide +kernel
theorem dL_law_426 : decode cL_law 426 = .ok (.aload_n 3, 1) := by decide +kernel
theorem dL_law_427 : decode cL_law 427 = .ok (.iconst 0, 1) := by decide +kernel
theorem dL_law_428 : decode cL_law 428 = .ok (.laload, 1) := by decide +kernel
theorem dL_law_429 : decode cL_law 429 = .ok (.iload 6, 2) := by decide +kernel
theorem dL_law_431 : decode cL_law 431 = .ok (.i2l, 1) := by decide +kernel
theorem dL_law_432 : decode cL_law 432 = .ok (.lcmp, 1) := by decide +kernel
theorem dL_law_433 : decode cL_law 433 = .ok (.ifCond .eq 5, 3) := by decide +kernel
theorem dL_law_436 : decode cL_law 436 = .ok (.iconst 0, 1) := by decide +kernel
theorem dL_law_437 : decode cL_law 437 = .ok (.ireturn, 1) := by decide +kernel
theorem dL_law_438 : decode cL_law 438 = .ok (.goto 988, 3) := by decide +kernel
theorem dL_law_441 : decode cL_law 441 = .ok (.aload_n 1, 1) := by decide +kernel
theorem dL_law_442 : decode cL_law 442 = .ok (.aload_n 0, 1) := by decide +kernel
theorem dL_law_443 : decode cL_law 443 = .ok (.iload 4, 2) := by decide +kernel
theorem dL_law_445 : decode cL_law 445 = .ok (.iconst 1, 1) := by decide +kernel
theorem dL_law_446 : decode cL_law 446 = .ok (.iadd, 1) := by decide +kernel
theorem dL_law_447 : decode cL_law 447 = .ok (.iaload, 1) := by decide +kernel
theorem dL_law_448 : decode cL_law 448 = .ok (.aload_n 3, 1) := by decide +kernel
theorem dL_law_449 : decode cL_law 449 = .ok (.invokestatic 95, 3) := by decide +kernel
theorem dL_law_452 : decode cL_law 452 = .ok (.istore 5, 2) := by decide +kernel
theorem dL_law_454 : decode cL_law 454 = .ok (.aload_n 2, 1) := by decide +kernel
theorem dL_law_455 : decode cL_law 455 = .ok (.aload_n 0, 1) := by decide +kernel
theorem dL_law_456 : decode cL_law 456 = .ok (.iload 4, 2) := by decide +kernel
theorem dL_law_458 : decode cL_law 458 = .ok (.iconst 1, 1) := by decide +kernel
theorem dL_law_459 : decode cL_law 459 = .ok (.iadd, 1) := by decide +kernel
theorem dL_law_460 : decode cL_law 460 = .ok (.iaload, 1) := by decide +kernel
theorem dL_law_461 : decode cL_law 461 = .ok (.invokevirtual 97, 3) := by decide +kernel
theorem dL_law_464 : decode cL_law 464 = .ok (.istore 6, 2) := by decide +kernel
theorem dL_law_466 : decode cL_law 466 = .ok (.aload_n 2, 1) := by decide +kernel
theorem dL_law_467 : decode cL_law 467 = .ok (.invokevirtual 77, 3) := by decide +kernel
theorem dL_law_470 : decode cL_law 470 = .ok (.iload 5, 2) := by decide +kernel
theorem dL_law_472 : decode cL_law 472 = .ok (.if_icmp .eq 5, 3) := by decide +kernel
theorem dL_law_475 : decode cL_law 475 = .ok (.iconst 0, 1) := by decide +kernel
theorem dL_law_476 : decode cL_law 476 = .ok (.ireturn, 1) := by decide +kernel
theorem dL_law_477 : decode cL_law 477 = .ok (.iload 5, 2) := by decide +kernel
theorem dL_law_479 : decode cL_law 479 = .ok (.ifCond .ne 15, 3) := by decide +kernel
theorem dL_law_482 : decode cL_law 482 = .ok (.aload_n 3, 1) := by decide +kernel
theorem dL_law_483 : decode cL_law 483 = .ok (.iconst 0, 1) := by decide +kernel
theorem dL_law_484 : decode cL_law 484 = .ok (.laload, 1) := by decide +kernel
theorem dL_law_485 : decode cL_law 485 = .ok (.iload 6, 2) := by decide +kernel
theorem dL_law_487 : decode cL_law 487 = .ok (.i2l, 1) := by decide +kernel
theorem dL_law_488 : decode cL_law 488 = .ok (.lcmp, 1) := by decide +kernel
theorem dL_law_489 : decode cL_law 489 = .ok (.ifCond .eq 5, 3) := by decide +kernel
theorem dL_law_492 : decode cL_law 492 = .ok (.iconst 0, 1) := by decide +kernel
theorem dL_law_493 : decode cL_law 493 = .ok (.ireturn, 1) := by decide +kernel
theorem dL_law_494 : decode cL_law 494 = .ok (.goto 932, 3) := by decide +kernel
theorem dL_law_497 : decode cL_law 497 = .ok (.aload_n 1, 1) := by decide +kernel
theorem dL_law_498 : decode cL_law 498 = .ok (.aload_n 0, 1) := by decide +kernel
theorem dL_law_499 : decode cL_law 499 = .ok (.iload 4, 2) := by decide +kernel
theorem dL_law_501 : decode cL_law 501 = .ok (.iconst 1, 1) := by decide +kernel
theorem dL_law_502 : decode cL_law 502 = .ok (.iadd, 1) := by decide +kernel
theorem dL_law_503 : decode cL_law 503 = .ok (.iaload, 1) := by decide +kernel
theorem dL_law_504 : decode cL_law 504 = .ok (.aload_n 3, 1) := by decide +kernel
theorem dL_law_505 : decode cL_law 505 = .ok (.invokestatic 98, 3) := by decide +kernel
theorem dL_law_508 : decode cL_law 508 = .ok (.istore 5, 2) := by decide +kernel
theorem dL_law_510 : decode cL_law 510 = .ok (.aload_n 2, 1) := by decide +kernel
theorem dL_law_511 : decode cL_law 511 = .ok (.aload_n 0, 1) := by decide +kernel
theorem dL_law_512 : decode cL_law 512 = .ok (.iload 4, 2) := by decide +kernel
theorem dL_law_514 : decode cL_law 514 = .ok (.iconst 1, 1) := by decide +kernel
theorem dL_law_515 : decode cL_law 515 = .ok (.iadd, 1) := by decide +kernel
theorem dL_law_516 : decode cL_law 516 = .ok (.iaload, 1) := by decide +kernel
theorem dL_law_517 : decode cL_law 517 = .ok (.invokevirtual 100, 3) := by decide +kernel
theorem dL_law_520 : decode cL_law 520 = .ok (.istore 6, 2) := by decide +kernel
theorem dL_law_522 : decode cL_law 522 = .ok (.aload_n 2, 1) := by decide +kernel
theorem dL_law_523 : decode cL_law 523 = .ok (.invokevirtual 77, 3) := by decide +kernel
theorem dL_law_526 : decode cL_law 526 = .ok (.iload 5, 2) := by decide +kernel
theorem dL_law_528 : decode cL_law 528 = .ok (.if_icmp .eq 5, 3) := by decide +kernel
theorem dL_law_531 : decode cL_law 531 = .ok (.iconst 0, 1) := by decide +kernel
theorem dL_law_532 : decode cL_law 532 = .ok (.ireturn, 1) := by decide +kernel
theorem dL_law_533 : decode cL_law 533 = .ok (.iload 5, 2) := by decide +kernel
theorem dL_law_535 : decode cL_law 535 = .ok (.ifCond .ne 15, 3) := by decide +kernel
theorem dL_law_538 : decode cL_law 538 = .ok (.aload_n 3, 1) := by decide +kernel
theorem dL_law_539 : decode cL_law 539 = .ok (.iconst 0, 1) := by decide +kernel
theorem dL_law_540 : decode cL_law 540 = .ok (.laload, 1) := by decide +kernel
theorem dL_law_541 : decode cL_law 541 = .ok (.iload 6, 2) := by decide +kernel
theorem dL_law_543 : decode cL_law 543 = .ok (.i2l, 1) := by decide +kernel
theorem dL_law_544 : decode cL_law 544 = .ok (.lcmp, 1) := by decide +kernel
theorem dL_law_545 : decode cL_law 545 = .ok (.ifCond .eq 5, 3) := by decide +kernel
theorem dL_law_548 : decode cL_law 548 = .ok (.iconst 0, 1) := by decide +kernel
theorem dL_law_549 : decode cL_law 549 = .ok (.ireturn, 1) := by decide +kernel
theorem dL_law_550 : decode cL_law 550 = .ok (.goto 876, 3) := by decide +kernel
theorem dL_law_553 : decode cL_law 553 = .ok (.aload_n 1, 1) := by decide +kernel
theorem dL_law_554 : decode cL_law 554 = .ok (.invokevirtual 101, 3) := by decide +kernel
theorem dL_law_557 : decode cL_law 557 = .ok (.aload_n 2, 1) := by decide +kernel
theorem dL_law_558 : decode cL_law 558 = .ok (.invokevirtual 104, 3) := by decide +kernel
theorem dL_law_561 : decode cL_law 561 = .ok (.if_icmp .eq 865, 3) := by decide +kernel
theorem dL_law_564 : decode cL_law 564 = .ok (.iconst 0, 1) := by decide +kernel
theorem dL_law_565 : decode cL_law 565 = .ok (.ireturn, 1) := by decide +kernel
theorem dL_law_566 : decode cL_law 566 = .ok (.aload_n 1, 1) := by decide +kernel
theorem dL_law_567 : decode cL_law 567 = .ok (.aload_n 0, 1) := by decide +kernel
theorem dL_law_568 : decode cL_law 568 = .ok (.iload 4, 2) := by decide +kernel
theorem dL_law_570 : decode cL_law 570 = .ok (.iconst 1, 1) := by decide +kernel
theorem dL_law_571 : decode cL_law 571 = .ok (.iadd, 1) := by decide +kernel
theorem dL_law_572 : decode cL_law 572 = .ok (.iaload, 1) := by decide +kernel
theorem dL_law_573 : decode cL_law 573 = .ok (.aload_n 3, 1) := by decide +kernel
theorem dL_law_574 : decode cL_law 574 = .ok (.invokestatic 105, 3) := by decide +kernel
theorem dL_law_577 : decode cL_law 577 = .ok (.istore 5, 2) := by decide +kernel
theorem dL_law_579 : decode cL_law 579 = .ok (.aload_n 2, 1) := by decide +kernel
theorem dL_law_580 : decode cL_law 580 = .ok (.aload_n 0, 1) := by decide +kernel
theorem dL_law_581 : decode cL_law 581 = .ok (.iload 4, 2) := by decide +kernel
theorem dL_law_583 : decode cL_law 583 = .ok (.iconst 1, 1) := by decide +kernel
theorem dL_law_584 : decode cL_law 584 = .ok (.iadd, 1) := by decide +kernel
theorem dL_law_585 : decode cL_law 585 = .ok (.iaload, 1) := by decide +kernel
theorem dL_law_586 : decode cL_law 586 = .ok (.invokevirtual 107, 3) := by decide +kernel
theorem dL_law_589 : decode cL_law 589 = .ok (.istore 6, 2) := by decide +kernel
theorem dL_law_591 : decode cL_law 591 = .ok (.aload_n 2, 1) := by decide +kernel
theorem dL_law_592 : decode cL_law 592 = .ok (.invokevirtual 77, 3) := by decide +kernel
theorem dL_law_595 : decode cL_law 595 = .ok (.iload 5, 2) := by decide +kernel
theorem dL_law_597 : decode cL_law 597 = .ok (.if_icmp .eq 5, 3) := by decide +kernel
theorem dL_law_600 : decode cL_law 600 = .ok (.iconst 0, 1) := by decide +kernel
theorem dL_law_601 : decode cL_law 601 = .ok (.ireturn, 1) := by decide +kernel
theorem dL_law_602 : decode cL_law 602 = .ok (.iload 5, 2) := by decide +kernel
theorem dL_law_604 : decode cL_law 604 = .ok (.ifCond .ne 15, 3) := by decide +kernel
theorem dL_law_607 : decode cL_law 607 = .ok (.aload_n 3, 1) := by decide +kernel
theorem dL_law_608 : decode cL_law 608 = .ok (.iconst 0, 1) := by decide +kernel
theorem dL_law_609 : decode cL_law 609 = .ok (.laload, 1) := by decide +kernel
theorem dL_law_610 : decode cL_law 610 = .ok (.iload 6, 2) := by decide +kernel
theorem dL_law_612 : decode cL_law 612 = .ok (.i2l, 1) := by decide +kernel
theorem dL_law_613 : decode cL_law 613 = .ok (.lcmp, 1) := by decide +kernel
theorem dL_law_614 : decode cL_law 614 = .ok (.ifCond .eq 5, 3) := by decide +kernel
theorem dL_law_617 : decode cL_law 617 = .ok (.iconst 0, 1) := by decide +kernel
theorem dL_law_618 : decode cL_law 618 = .ok (.ireturn, 1) := by decide +kernel
theorem dL_law_619 : decode cL_law 619 = .ok (.goto 807, 3) := by decide +kernel
theorem dL_law_622 : decode cL_law 622 = .ok (.aload_n 1, 1) := by decide +kernel
theorem dL_law_623 : decode cL_law 623 = .ok (.invokevirtual 108, 3) := by decide +kernel
theorem dL_law_626 : decode cL_law 626 = .ok (.aload_n 2, 1) := by decide +kernel
theorem dL_law_627 : decode cL_law 627 = .ok (.invokevirtual 111, 3) := by decide +kernel
theorem dL_law_630 : decode cL_law 630 = .ok (.if_icmp .eq 796, 3) := by decide +kernel
theorem dL_law_633 : decode cL_law 633 = .ok (.iconst 0, 1) := by decide +kernel
theorem dL_law_634 : decode cL_law 634 = .ok (.ireturn, 1) := by decide +kernel
theorem dL_law_635 : decode cL_law 635 = .ok (.aload_n 1, 1) := by decide +kernel
theorem dL_law_636 : decode cL_law 636 = .ok (.invokevirtual 112, 3) := by decide +kernel
theorem dL_law_639 : decode cL_law 639 = .ok (.aload_n 2, 1) := by decide +kernel
theorem dL_law_640 : decode cL_law 640 = .ok (.invokevirtual 115, 3) := by decide +kernel
theorem dL_law_643 : decode cL_law 643 = .ok (.if_icmp .eq 783, 3) := by decide +kernel
theorem dL_law_646 : decode cL_law 646 = .ok (.iconst 0, 1) := by decide +kernel
theorem dL_law_647 : decode cL_law 647 = .ok (.ireturn, 1) := by decide +kernel
theorem dL_law_648 : decode cL_law 648 = .ok (.aload_n 1, 1) := by decide +kernel
theorem dL_law_649 : decode cL_law 649 = .ok (.invokevirtual 116, 3) := by decide +kernel
theorem dL_law_652 : decode cL_law 652 = .ok (.aload_n 2, 1) := by decide +kernel
theorem dL_law_653 : decode cL_law 653 = .ok (.invokevirtual 119, 3) := by decide +kernel
theorem dL_law_656 : decode cL_law 656 = .ok (.if_icmp .eq 770, 3) := by decide +kernel
theorem dL_law_659 : decode cL_law 659 = .ok (.iconst 0, 1) := by decide +kernel
theorem dL_law_660 : decode cL_law 660 = .ok (.ireturn, 1) := by decide +kernel
theorem dL_law_661 : decode cL_law 661 = .ok (.aload_n 1, 1) := by decide +kernel
theorem dL_law_662 : decode cL_law 662 = .ok (.invokevirtual 120, 3) := by decide +kernel
theorem dL_law_665 : decode cL_law 665 = .ok (.aload_n 2, 1) := by decide +kernel
theorem dL_law_666 : decode cL_law 666 = .ok (.invokevirtual 123, 3) := by decide +kernel
theorem dL_law_669 : decode cL_law 669 = .ok (.if_icmp .eq 757, 3) := by decide +kernel
theorem dL_law_672 : decode cL_law 672 = .ok (.iconst 0, 1) := by decide +kernel
theorem dL_law_673 : decode cL_law 673 = .ok (.ireturn, 1) := by decide +kernel
theorem dL_law_674 : decode cL_law 674 = .ok (.aload_n 1, 1) := by decide +kernel
theorem dL_law_675 : decode cL_law 675 = .ok (.invokevirtual 124, 3) := by decide +kernel
theorem dL_law_678 : decode cL_law 678 = .ok (.aload_n 2, 1) := by decide +kernel
theorem dL_law_679 : decode cL_law 679 = .ok (.invokevirtual 127, 3) := by decide +kernel
theorem dL_law_682 : decode cL_law 682 = .ok (.if_icmp .eq 744, 3) := by decide +kernel
theorem dL_law_685 : decode cL_law 685 = .ok (.iconst 0, 1) := by decide +kernel
theorem dL_law_686 : decode cL_law 686 = .ok (.ireturn, 1) := by decide +kernel
theorem dL_law_687 : decode cL_law 687 = .ok (.aload_n 1, 1) := by decide +kernel
theorem dL_law_688 : decode cL_law 688 = .ok (.invokevirtual 128, 3) := by decide +kernel
theorem dL_law_691 : decode cL_law 691 = .ok (.aload_n 2, 1) := by decide +kernel
theorem dL_law_692 : decode cL_law 692 = .ok (.invokevirtual 131, 3) := by decide +kernel
theorem dL_law_695 : decode cL_law 695 = .ok (.if_icmp .eq 731, 3) := by decide +kernel
theorem dL_law_698 : decode cL_law 698 = .ok (.iconst 0, 1) := by decide +kernel
theorem dL_law_699 : decode cL_law 699 = .ok (.ireturn, 1) := by decide +kernel
theorem dL_law_700 : decode cL_law 700 = .ok (.aload_n 1, 1) := by decide +kernel
theorem dL_law_701 : decode cL_law 701 = .ok (.aload_n 0, 1) := by decide +kernel
theorem dL_law_702 : decode cL_law 702 = .ok (.iload 4, 2) := by decide +kernel
theorem dL_law_704 : decode cL_law 704 = .ok (.iconst 1, 1) := by decide +kernel
theorem dL_law_705 : decode cL_law 705 = .ok (.iadd, 1) := by decide +kernel
theorem dL_law_706 : decode cL_law 706 = .ok (.iaload, 1) := by decide +kernel
theorem dL_law_707 : decode cL_law 707 = .ok (.aload_n 3, 1) := by decide +kernel
theorem dL_law_708 : decode cL_law 708 = .ok (.invokestatic 132, 3) := by decide +kernel
theorem dL_law_711 : decode cL_law 711 = .ok (.istore 5, 2) := by decide +kernel
theorem dL_law_713 : decode cL_law 713 = .ok (.aload_n 2, 1) := by decide +kernel
theorem dL_law_714 : decode cL_law 714 = .ok (.aload_n 0, 1) := by decide +kernel
theorem dL_law_715 : decode cL_law 715 = .ok (.iload 4, 2) := by decide +kernel
theorem dL_law_717 : decode cL_law 717 = .ok (.iconst 1, 1) := by decide +kernel
theorem dL_law_718 : decode cL_law 718 = .ok (.iadd, 1) := by decide +kernel
theorem dL_law_719 : decode cL_law 719 = .ok (.iaload, 1) := by decide +kernel
theorem dL_law_720 : decode cL_law 720 = .ok (.invokevirtual 134, 3) := by decide +kernel
theorem dL_law_723 : decode cL_law 723 = .ok (.istore 6, 2) := by decide +kernel
theorem dL_law_725 : decode cL_law 725 = .ok (.aload_n 2, 1) := by decide +kernel
theorem dL_law_726 : decode cL_law 726 = .ok (.invokevirtual 77, 3) := by decide +kernel
theorem dL_law_729 : decode cL_law 729 = .ok (.iload 5, 2) := by decide +kernel
theorem dL_law_731 : decode cL_law 731 = .ok (.if_icmp .eq 5, 3) := by decide +kernel
theorem dL_law_734 : decode cL_law 734 = .ok (.iconst 0, 1) := by decide +kernel
theorem dL_law_735 : decode cL_law 735 = .ok (.ireturn, 1) := by decide +kernel
theorem dL_law_736 : decode cL_law 736 = .ok (.iload 5, 2) := by decide +kernel
theorem dL_law_738 : decode cL_law 738 = .ok (.ifCond .ne 22, 3) := by decide +kernel
theorem dL_law_741 : decode cL_law 741 = .ok (.aload_n 3, 1) := by decide +kernel
theorem dL_law_742 : decode cL_law 742 = .ok (.iconst 0, 1) := by decide +kernel
theorem dL_law_743 : decode cL_law 743 = .ok (.laload, 1) := by decide +kernel
theorem dL_law_744 : decode cL_law 744 = .ok (.iload 6, 2) := by decide +kernel
theorem dL_law_746 : decode cL_law 746 = .ok (.ifCond .eq 7, 3) := by decide +kernel
theorem dL_law_749 : decode cL_law 749 = .ok (.lconst 1, 1) := by decide +kernel
theorem dL_law_750 : decode cL_law 750 = .ok (.goto 4, 3) := by decide +kernel
theorem dL_law_753 : decode cL_law 753 = .ok (.lconst 0, 1) := by decide +kernel
theorem dL_law_754 : decode cL_law 754 = .ok (.lcmp, 1) := by decide +kernel
theorem dL_law_755 : decode cL_law 755 = .ok (.ifCond .eq 5, 3) := by decide +kernel
theorem dL_law_758 : decode cL_law 758 = .ok (.iconst 0, 1) := by decide +kernel
theorem dL_law_759 : decode cL_law 759 = .ok (.ireturn, 1) := by decide +kernel
theorem dL_law_760 : decode cL_law 760 = .ok (.goto 666, 3) := by decide +kernel
theorem dL_law_763 : decode cL_law 763 = .ok (.aload_n 1, 1) := by decide +kernel
theorem dL_law_764 : decode cL_law 764 = .ok (.invokevirtual 135, 3) := by decide +kernel
theorem dL_law_767 : decode cL_law 767 = .ok (.aload_n 2, 1) := by decide +kernel
theorem dL_law_768 : decode cL_law 768 = .ok (.invokevirtual 138, 3) := by decide +kernel
theorem dL_law_771 : decode cL_law 771 = .ok (.if_icmp .eq 655, 3) := by decide +kernel
theorem dL_law_774 : decode cL_law 774 = .ok (.iconst 0, 1) := by decide +kernel
theorem dL_law_775 : decode cL_law 775 = .ok (.ireturn, 1) := by decide +kernel
theorem dL_law_776 : decode cL_law 776 = .ok (.aload_n 1, 1) := by decide +kernel
theorem dL_law_777 : decode cL_law 777 = .ok (.invokevirtual 139, 3) := by decide +kernel
theorem dL_law_780 : decode cL_law 780 = .ok (.aload_n 2, 1) := by decide +kernel
theorem dL_law_781 : decode cL_law 781 = .ok (.invokevirtual 142, 3) := by decide +kernel
theorem dL_law_784 : decode cL_law 784 = .ok (.if_icmp .eq 642, 3) := by decide +kernel
theorem dL_law_787 : decode cL_law 787 = .ok (.iconst 0, 1) := by decide +kernel
theorem dL_law_788 : decode cL_law 788 = .ok (.ireturn, 1) := by decide +kernel
theorem dL_law_789 : decode cL_law 789 = .ok (.aload_n 1, 1) := by decide +kernel
theorem dL_law_790 : decode cL_law 790 = .ok (.aload_n 0, 1) := by decide +kernel
theorem dL_law_791 : decode cL_law 791 = .ok (.iload 4, 2) := by decide +kernel
theorem dL_law_793 : decode cL_law 793 = .ok (.iconst 1, 1) := by decide +kernel
theorem dL_law_794 : decode cL_law 794 = .ok (.iadd, 1) := by decide +kernel
theorem dL_law_795 : decode cL_law 795 = .ok (.iaload, 1) := by decide +kernel
theorem dL_law_796 : decode cL_law 796 = .ok (.aload_n 3, 1) := by decide +kernel
theorem dL_law_797 : decode cL_law 797 = .ok (.invokestatic 143, 3) := by decide +kernel
theorem dL_law_800 : decode cL_law 800 = .ok (.istore 5, 2) := by decide +kernel
theorem dL_law_802 : decode cL_law 802 = .ok (.aload_n 2, 1) := by decide +kernel
theorem dL_law_803 : decode cL_law 803 = .ok (.aload_n 0, 1) := by decide +kernel
theorem dL_law_804 : decode cL_law 804 = .ok (.iload 4, 2) := by decide +kernel
theorem dL_law_806 : decode cL_law 806 = .ok (.iconst 1, 1) := by decide +kernel
theorem dL_law_807 : decode cL_law 807 = .ok (.iadd, 1) := by decide +kernel
theorem dL_law_808 : decode cL_law 808 = .ok (.iaload, 1) := by decide +kernel
theorem dL_law_809 : decode cL_law 809 = .ok (.invokevirtual 145, 3) := by decide +kernel
theorem dL_law_812 : decode cL_law 812 = .ok (.istore 6, 2) := by decide +kernel
theorem dL_law_814 : decode cL_law 814 = .ok (.aload_n 2, 1) := by decide +kernel
theorem dL_law_815 : decode cL_law 815 = .ok (.invokevirtual 77, 3) := by decide +kernel
theorem dL_law_818 : decode cL_law 818 = .ok (.iload 5, 2) := by decide +kernel
theorem dL_law_820 : decode cL_law 820 = .ok (.if_icmp .eq 5, 3) := by decide +kernel
theorem dL_law_823 : decode cL_law 823 = .ok (.iconst 0, 1) := by decide +kernel
theorem dL_law_824 : decode cL_law 824 = .ok (.ireturn, 1) := by decide +kernel
theorem dL_law_825 : decode cL_law 825 = .ok (.iload 5, 2) := by decide +kernel
theorem dL_law_827 : decode cL_law 827 = .ok (.ifCond .ne 15, 3) := by decide +kernel
theorem dL_law_830 : decode cL_law 830 = .ok (.aload_n 3, 1) := by decide +kernel
theorem dL_law_831 : decode cL_law 831 = .ok (.iconst 0, 1) := by decide +kernel
theorem dL_law_832 : decode cL_law 832 = .ok (.laload, 1) := by decide +kernel
theorem dL_law_833 : decode cL_law 833 = .ok (.iload 6, 2) := by decide +kernel
theorem dL_law_835 : decode cL_law 835 = .ok (.i2l, 1) := by decide +kernel
theorem dL_law_836 : decode cL_law 836 = .ok (.lcmp, 1) := by decide +kernel
theorem dL_law_837 : decode cL_law 837 = .ok (.ifCond .eq 5, 3) := by decide +kernel
theorem dL_law_840 : decode cL_law 840 = .ok (.iconst 0, 1) := by decide +kernel
theorem dL_law_841 : decode cL_law 841 = .ok (.ireturn, 1) := by decide +kernel
theorem dL_law_842 : decode cL_law 842 = .ok (.goto 584, 3) := by decide +kernel
theorem dL_law_845 : decode cL_law 845 = .ok (.aload_n 1, 1) := by decide +kernel
theorem dL_law_846 : decode cL_law 846 = .ok (.invokevirtual 146, 3) := by decide +kernel
theorem dL_law_849 : decode cL_law 849 = .ok (.aload_n 2, 1) := by decide +kernel
theorem dL_law_850 : decode cL_law 850 = .ok (.invokevirtual 149, 3) := by decide +kernel
theorem dL_law_853 : decode cL_law 853 = .ok (.if_icmp .eq 573, 3) := by decide +kernel
theorem dL_law_856 : decode cL_law 856 = .ok (.iconst 0, 1) := by decide +kernel
theorem dL_law_857 : decode cL_law 857 = .ok (.ireturn, 1) := by decide +kernel
theorem dL_law_858 : decode cL_law 858 = .ok (.aload_n 1, 1) := by decide +kernel
theorem dL_law_859 : decode cL_law 859 = .ok (.invokevirtual 150, 3) := by decide +kernel
theorem dL_law_862 : decode cL_law 862 = .ok (.aload_n 2, 1) := by decide +kernel
theorem dL_law_863 : decode cL_law 863 = .ok (.invokevirtual 153, 3) := by decide +kernel
theorem dL_law_866 : decode cL_law 866 = .ok (.if_icmp .eq 560, 3) := by decide +kernel
theorem dL_law_869 : decode cL_law 869 = .ok (.iconst 0, 1) := by decide +kernel
theorem dL_law_870 : decode cL_law 870 = .ok (.ireturn, 1) := by decide +kernel
theorem dL_law_871 : decode cL_law 871 = .ok (.aload_n 1, 1) := by decide +kernel
theorem dL_law_872 : decode cL_law 872 = .ok (.aload_n 0, 1) := by decide +kernel
theorem dL_law_873 : decode cL_law 873 = .ok (.iload 4, 2) := by decide +kernel
theorem dL_law_875 : decode cL_law 875 = .ok (.iconst 1, 1) := by decide +kernel
theorem dL_law_876 : decode cL_law 876 = .ok (.iadd, 1) := by decide +kernel
theorem dL_law_877 : decode cL_law 877 = .ok (.iaload, 1) := by decide +kernel
theorem dL_law_878 : decode cL_law 878 = .ok (.aload_n 0, 1) := by decide +kernel
theorem dL_law_879 : decode cL_law 879 = .ok (.iload 4, 2) := by decide +kernel
theorem dL_law_881 : decode cL_law 881 = .ok (.iconst 2, 1) := by decide +kernel
theorem dL_law_882 : decode cL_law 882 = .ok (.iadd, 1) := by decide +kernel
theorem dL_law_883 : decode cL_law 883 = .ok (.iaload, 1) := by decide +kernel
theorem dL_law_884 : decode cL_law 884 = .ok (.aload_n 3, 1) := by decide +kernel
theorem dL_law_885 : decode cL_law 885 = .ok (.invokestatic 154, 3) := by decide +kernel
theorem dL_law_888 : decode cL_law 888 = .ok (.istore 5, 2) := by decide +kernel
theorem dL_law_890 : decode cL_law 890 = .ok (.aload_n 2, 1) := by decide +kernel
theorem dL_law_891 : decode cL_law 891 = .ok (.aload_n 0, 1) := by decide +kernel
theorem dL_law_892 : decode cL_law 892 = .ok (.iload 4, 2) := by decide +kernel
theorem dL_law_894 : decode cL_law 894 = .ok (.iconst 1, 1) := by decide +kernel
theorem dL_law_895 : decode cL_law 895 = .ok (.iadd, 1) := by decide +kernel
theorem dL_law_896 : decode cL_law 896 = .ok (.iaload, 1) := by decide +kernel
theorem dL_law_897 : decode cL_law 897 = .ok (.aload_n 0, 1) := by decide +kernel
theorem dL_law_898 : decode cL_law 898 = .ok (.iload 4, 2) := by decide +kernel
theorem dL_law_900 : decode cL_law 900 = .ok (.iconst 2, 1) := by decide +kernel
theorem dL_law_901 : decode cL_law 901 = .ok (.iadd, 1) := by decide +kernel
theorem dL_law_902 : decode cL_law 902 = .ok (.iaload, 1) := by decide +kernel
theorem dL_law_903 : decode cL_law 903 = .ok (.invokevirtual 156, 3) := by decide +kernel
theorem dL_law_906 : decode cL_law 906 = .ok (.istore 6, 2) := by decide +kernel
theorem dL_law_908 : decode cL_law 908 = .ok (.aload_n 2, 1) := by decide +kernel
theorem dL_law_909 : decode cL_law 909 = .ok (.invokevirtual 77, 3) := by decide +kernel
theorem dL_law_912 : decode cL_law 912 = .ok (.iload 5, 2) := by decide +kernel
theorem dL_law_914 : decode cL_law 914 = .ok (.if_icmp .eq 5, 3) := by decide +kernel
theorem dL_law_917 : decode cL_law 917 = .ok (.iconst 0, 1) := by decide +kernel
theorem dL_law_918 : decode cL_law 918 = .ok (.ireturn, 1) := by decide +kernel
theorem dL_law_919 : decode cL_law 919 = .ok (.iload 5, 2) := by decide +kernel
theorem dL_law_921 : decode cL_law 921 = .ok (.ifCond .ne 15, 3) := by decide +kernel
theorem dL_law_924 : decode cL_law 924 = .ok (.aload_n 3, 1) := by decide +kernel
theorem dL_law_925 : decode cL_law 925 = .ok (.iconst 0, 1) := by decide +kernel
theorem dL_law_926 : decode cL_law 926 = .ok (.laload, 1) := by decide +kernel
theorem dL_law_927 : decode cL_law 927 = .ok (.iload 6, 2) := by decide +kernel
theorem dL_law_929 : decode cL_law 929 = .ok (.i2l, 1) := by decide +kernel
theorem dL_law_930 : decode cL_law 930 = .ok (.lcmp, 1) := by decide +kernel
theorem dL_law_931 : decode cL_law 931 = .ok (.ifCond .eq 5, 3) := by decide +kernel
theorem dL_law_934 : decode cL_law 934 = .ok (.iconst 0, 1) := by decide +kernel
theorem dL_law_935 : decode cL_law 935 = .ok (.ireturn, 1) := by decide +kernel
theorem dL_law_936 : decode cL_law 936 = .ok (.goto 490, 3) := by decide +kernel
theorem dL_law_939 : decode cL_law 939 = .ok (.aload_n 1, 1) := by decide +kernel
theorem dL_law_940 : decode cL_law 940 = .ok (.aload_n 0, 1) := by decide +kernel
theorem dL_law_941 : decode cL_law 941 = .ok (.iload 4, 2) := by decide +kernel
theorem dL_law_943 : decode cL_law 943 = .ok (.iconst 1, 1) := by decide +kernel
theorem dL_law_944 : decode cL_law 944 = .ok (.iadd, 1) := by decide +kernel
theorem dL_law_945 : decode cL_law 945 = .ok (.iaload, 1) := by decide +kernel
theorem dL_law_946 : decode cL_law 946 = .ok (.aload_n 3, 1) := by decide +kernel
theorem dL_law_947 : decode cL_law 947 = .ok (.invokestatic 157, 3) := by decide +kernel
theorem dL_law_950 : decode cL_law 950 = .ok (.istore 5, 2) := by decide +kernel
theorem dL_law_952 : decode cL_law 952 = .ok (.aload_n 2, 1) := by decide +kernel
theorem dL_law_953 : decode cL_law 953 = .ok (.aload_n 0, 1) := by decide +kernel
theorem dL_law_954 : decode cL_law 954 = .ok (.iload 4, 2) := by decide +kernel
theorem dL_law_956 : decode cL_law 956 = .ok (.iconst 1, 1) := by decide +kernel
theorem dL_law_957 : decode cL_law 957 = .ok (.iadd, 1) := by decide +kernel
theorem dL_law_958 : decode cL_law 958 = .ok (.iaload, 1) := by decide +kernel
theorem dL_law_959 : decode cL_law 959 = .ok (.invokevirtual 159, 3) := by decide +kernel
theorem dL_law_962 : decode cL_law 962 = .ok (.istore 6, 2) := by decide +kernel
theorem dL_law_964 : decode cL_law 964 = .ok (.aload_n 2, 1) := by decide +kernel
theorem dL_law_965 : decode cL_law 965 = .ok (.invokevirtual 77, 3) := by decide +kernel
theorem dL_law_968 : decode cL_law 968 = .ok (.iload 5, 2) := by decide +kernel
theorem dL_law_970 : decode cL_law 970 = .ok (.if_icmp .eq 5, 3) := by decide +kernel
theorem dL_law_973 : decode cL_law 973 = .ok (.iconst 0, 1) := by decide +kernel
theorem dL_law_974 : decode cL_law 974 = .ok (.ireturn, 1) := by decide +kernel
theorem dL_law_975 : decode cL_law 975 = .ok (.iload 5, 2) := by decide +kernel
theorem dL_law_977 : decode cL_law 977 = .ok (.ifCond .ne 15, 3) := by decide +kernel
theorem dL_law_980 : decode cL_law 980 = .ok (.aload_n 3, 1) := by decide +kernel
theorem dL_law_981 : decode cL_law 981 = .ok (.iconst 0, 1) := by decide +kernel
theorem dL_law_982 : decode cL_law 982 = .ok (.laload, 1) := by decide +kernel
theorem dL_law_983 : decode cL_law 983 = .ok (.iload 6, 2) := by decide +kernel
theorem dL_law_985 : decode cL_law 985 = .ok (.i2l, 1) := by decide +kernel
theorem dL_law_986 : decode cL_law 986 = .ok (.lcmp, 1) := by decide +kernel
theorem dL_law_987 : decode cL_law 987 = .ok (.ifCond .eq 5, 3) := by decide +kernel
theorem dL_law_990 : decode cL_law 990 = .ok (.iconst 0, 1) := by decide +kernel
theorem dL_law_991 : decode cL_law 991 = .ok (.ireturn, 1) := by decide +kernel
theorem dL_law_992 : decode cL_law 992 = .ok (.goto 434, 3) := by decide +kernel
theorem dL_law_995 : decode cL_law 995 = .ok (.aload_n 1, 1) := by decide +kernel
theorem dL_law_996 : decode cL_law 996 = .ok (.aload_n 0, 1) := by decide +kernel
theorem dL_law_997 : decode cL_law 997 = .ok (.iload 4, 2) := by decide +kernel
theorem dL_law_999 : decode cL_law 999 = .ok (.iconst 1, 1) := by decide +kernel
theorem dL_law_1000 : decode cL_law 1000 = .ok (.iadd, 1) := by decide +kernel
theorem dL_law_1001 : decode cL_law 1001 = .ok (.iaload, 1) := by decide +kernel
theorem dL_law_1002 : decode cL_law 1002 = .ok (.aload_n 3, 1) := by decide +kernel
theorem dL_law_1003 : decode cL_law 1003 = .ok (.invokestatic 160, 3) := by decide +kernel
theorem dL_law_1006 : decode cL_law 1006 = .ok (.istore 5, 2) := by decide +kernel
theorem dL_law_1008 : decode cL_law 1008 = .ok (.aload_n 2, 1) := by decide +kernel
theorem dL_law_1009 : decode cL_law 1009 = .ok (.aload_n 0, 1) := by decide +kernel
theorem dL_law_1010 : decode cL_law 1010 = .ok (.iload 4, 2) := by decide +kernel
theorem dL_law_1012 : decode cL_law 1012 = .ok (.iconst 1, 1) := by decide +kernel
theorem dL_law_1013 : decode cL_law 1013 = .ok (.iadd, 1) := by decide +kernel
theorem dL_law_1014 : decode cL_law 1014 = .ok (.iaload, 1) := by decide +kernel
theorem dL_law_1015 : decode cL_law 1015 = .ok (.invokevirtual 162, 3) := by decide +kernel
theorem dL_law_1018 : decode cL_law 1018 = .ok (.istore 6, 2) := by decide +kernel
theorem dL_law_1020 : decode cL_law 1020 = .ok (.aload_n 2, 1) := by decide +kernel
theorem dL_law_1021 : decode cL_law 1021 = .ok (.invokevirtual 77, 3) := by decide +kernel
theorem dL_law_1024 : decode cL_law 1024 = .ok (.iload 5, 2) := by decide +kernel
theorem dL_law_1026 : decode cL_law 1026 = .ok (.if_icmp .eq 5, 3) := by decide +kernel
theorem dL_law_1029 : decode cL_law 1029 = .ok (.iconst 0, 1) := by decide +kernel
theorem dL_law_1030 : decode cL_law 1030 = .ok (.ireturn, 1) := by decide +kernel
theorem dL_law_1031 : decode cL_law 1031 = .ok (.iload 5, 2) := by decide +kernel
theorem dL_law_1033 : decode cL_law 1033 = .ok (.ifCond .ne 22, 3) := by decide +kernel
theorem dL_law_1036 : decode cL_law 1036 = .ok (.aload_n 3, 1) := by decide +kernel
theorem dL_law_1037 : decode cL_law 1037 = .ok (.iconst 0, 1) := by decide +kernel
theorem dL_law_1038 : decode cL_law 1038 = .ok (.laload, 1) := by decide +kernel
theorem dL_law_1039 : decode cL_law 1039 = .ok (.iload 6, 2) := by decide +kernel
theorem dL_law_1041 : decode cL_law 1041 = .ok (.ifCond .eq 7, 3) := by decide +kernel
theorem dL_law_1044 : decode cL_law 1044 = .ok (.lconst 1, 1) := by decide +kernel
theorem dL_law_1045 : decode cL_law 1045 = .ok (.goto 4, 3) := by decide +kernel
theorem dL_law_1048 : decode cL_law 1048 = .ok (.lconst 0, 1) := by decide +kernel
theorem dL_law_1049 : decode cL_law 1049 = .ok (.lcmp, 1) := by decide +kernel
theorem dL_law_1050 : decode cL_law 1050 = .ok (.ifCond .eq 5, 3) := by decide +kernel
theorem dL_law_1053 : decode cL_law 1053 = .ok (.iconst 0, 1) := by decide +kernel
theorem dL_law_1054 : decode cL_law 1054 = .ok (.ireturn, 1) := by decide +kernel
theorem dL_law_1055 : decode cL_law 1055 = .ok (.goto 371, 3) := by decide +kernel
theorem dL_law_1058 : decode cL_law 1058 = .ok (.aload_n 1, 1) := by decide +kernel
theorem dL_law_1059 : decode cL_law 1059 = .ok (.invokevirtual 163, 3) := by decide +kernel
theorem dL_law_1062 : decode cL_law 1062 = .ok (.aload_n 2, 1) := by decide +kernel
theorem dL_law_1063 : decode cL_law 1063 = .ok (.invokevirtual 166, 3) := by decide +kernel
theorem dL_law_1066 : decode cL_law 1066 = .ok (.if_icmp .eq 360, 3) := by decide +kernel
theorem dL_law_1069 : decode cL_law 1069 = .ok (.iconst 0, 1) := by decide +kernel
theorem dL_law_1070 : decode cL_law 1070 = .ok (.ireturn, 1) := by decide +kernel
theorem dL_law_1071 : decode cL_law 1071 = .ok (.aload_n 1, 1) := by decide +kernel
theorem dL_law_1072 : decode cL_law 1072 = .ok (.aload_n 0, 1) := by decide +kernel
theorem dL_law_1073 : decode cL_law 1073 = .ok (.iload 4, 2) := by decide +kernel
theorem dL_law_1075 : decode cL_law 1075 = .ok (.iconst 1, 1) := by decide +kernel
theorem dL_law_1076 : decode cL_law 1076 = .ok (.iadd, 1) := by decide +kernel
theorem dL_law_1077 : decode cL_law 1077 = .ok (.iaload, 1) := by decide +kernel
theorem dL_law_1078 : decode cL_law 1078 = .ok (.aload_n 0, 1) := by decide +kernel
theorem dL_law_1079 : decode cL_law 1079 = .ok (.iload 4, 2) := by decide +kernel
theorem dL_law_1081 : decode cL_law 1081 = .ok (.iconst 2, 1) := by decide +kernel
theorem dL_law_1082 : decode cL_law 1082 = .ok (.iadd, 1) := by decide +kernel
theorem dL_law_1083 : decode cL_law 1083 = .ok (.iaload, 1) := by decide +kernel
theorem dL_law_1084 : decode cL_law 1084 = .ok (.aload_n 3, 1) := by decide +kernel
theorem dL_law_1085 : decode cL_law 1085 = .ok (.invokestatic 167, 3) := by decide +kernel
theorem dL_law_1088 : decode cL_law 1088 = .ok (.istore 5, 2) := by decide +kernel
theorem dL_law_1090 : decode cL_law 1090 = .ok (.aload_n 2, 1) := by decide +kernel
theorem dL_law_1091 : decode cL_law 1091 = .ok (.aload_n 0, 1) := by decide +kernel
theorem dL_law_1092 : decode cL_law 1092 = .ok (.iload 4, 2) := by decide +kernel
theorem dL_law_1094 : decode cL_law 1094 = .ok (.iconst 1, 1) := by decide +kernel
theorem dL_law_1095 : decode cL_law 1095 = .ok (.iadd, 1) := by decide +kernel
theorem dL_law_1096 : decode cL_law 1096 = .ok (.iaload, 1) := by decide +kernel
theorem dL_law_1097 : decode cL_law 1097 = .ok (.aload_n 0, 1) := by decide +kernel
theorem dL_law_1098 : decode cL_law 1098 = .ok (.iload 4, 2) := by decide +kernel
theorem dL_law_1100 : decode cL_law 1100 = .ok (.iconst 2, 1) := by decide +kernel
theorem dL_law_1101 : decode cL_law 1101 = .ok (.iadd, 1) := by decide +kernel
theorem dL_law_1102 : decode cL_law 1102 = .ok (.iaload, 1) := by decide +kernel
theorem dL_law_1103 : decode cL_law 1103 = .ok (.invokevirtual 169, 3) := by decide +kernel
theorem dL_law_1106 : decode cL_law 1106 = .ok (.istore 6, 2) := by decide +kernel
theorem dL_law_1108 : decode cL_law 1108 = .ok (.aload_n 2, 1) := by decide +kernel
theorem dL_law_1109 : decode cL_law 1109 = .ok (.invokevirtual 77, 3) := by decide +kernel
theorem dL_law_1112 : decode cL_law 1112 = .ok (.iload 5, 2) := by decide +kernel
theorem dL_law_1114 : decode cL_law 1114 = .ok (.if_icmp .eq 5, 3) := by decide +kernel
theorem dL_law_1117 : decode cL_law 1117 = .ok (.iconst 0, 1) := by decide +kernel
theorem dL_law_1118 : decode cL_law 1118 = .ok (.ireturn, 1) := by decide +kernel
theorem dL_law_1119 : decode cL_law 1119 = .ok (.iload 5, 2) := by decide +kernel
theorem dL_law_1121 : decode cL_law 1121 = .ok (.ifCond .ne 15, 3) := by decide +kernel
theorem dL_law_1124 : decode cL_law 1124 = .ok (.aload_n 3, 1) := by decide +kernel
theorem dL_law_1125 : decode cL_law 1125 = .ok (.iconst 0, 1) := by decide +kernel
theorem dL_law_1126 : decode cL_law 1126 = .ok (.laload, 1) := by decide +kernel
theorem dL_law_1127 : decode cL_law 1127 = .ok (.iload 6, 2) := by decide +kernel
theorem dL_law_1129 : decode cL_law 1129 = .ok (.i2l, 1) := by decide +kernel
theorem dL_law_1130 : decode cL_law 1130 = .ok (.lcmp, 1) := by decide +kernel
theorem dL_law_1131 : decode cL_law 1131 = .ok (.ifCond .eq 5, 3) := by decide +kernel
theorem dL_law_1134 : decode cL_law 1134 = .ok (.iconst 0, 1) := by decide +kernel
theorem dL_law_1135 : decode cL_law 1135 = .ok (.ireturn, 1) := by decide +kernel
theorem dL_law_1136 : decode cL_law 1136 = .ok (.goto 290, 3) := by decide +kernel
theorem dL_law_1139 : decode cL_law 1139 = .ok (.aload_n 1, 1) := by decide +kernel
theorem dL_law_1140 : decode cL_law 1140 = .ok (.aload_n 0, 1) := by decide +kernel
theorem dL_law_1141 : decode cL_law 1141 = .ok (.iload 4, 2) := by decide +kernel
theorem dL_law_1143 : decode cL_law 1143 = .ok (.iconst 1, 1) := by decide +kernel
theorem dL_law_1144 : decode cL_law 1144 = .ok (.iadd, 1) := by decide +kernel
theorem dL_law_1145 : decode cL_law 1145 = .ok (.iaload, 1) := by decide +kernel
theorem dL_law_1146 : decode cL_law 1146 = .ok (.aload_n 3, 1) := by decide +kernel
theorem dL_law_1147 : decode cL_law 1147 = .ok (.invokestatic 170, 3) := by decide +kernel
theorem dL_law_1150 : decode cL_law 1150 = .ok (.istore 5, 2) := by decide +kernel
theorem dL_law_1152 : decode cL_law 1152 = .ok (.aload_n 2, 1) := by decide +kernel
theorem dL_law_1153 : decode cL_law 1153 = .ok (.aload_n 0, 1) := by decide +kernel
theorem dL_law_1154 : decode cL_law 1154 = .ok (.iload 4, 2) := by decide +kernel
theorem dL_law_1156 : decode cL_law 1156 = .ok (.iconst 1, 1) := by decide +kernel
theorem dL_law_1157 : decode cL_law 1157 = .ok (.iadd, 1) := by decide +kernel
theorem dL_law_1158 : decode cL_law 1158 = .ok (.iaload, 1) := by decide +kernel
theorem dL_law_1159 : decode cL_law 1159 = .ok (.invokevirtual 172, 3) := by decide +kernel
theorem dL_law_1162 : decode cL_law 1162 = .ok (.istore 6, 2) := by decide +kernel
theorem dL_law_1164 : decode cL_law 1164 = .ok (.aload_n 2, 1) := by decide +kernel
theorem dL_law_1165 : decode cL_law 1165 = .ok (.invokevirtual 77, 3) := by decide +kernel
theorem dL_law_1168 : decode cL_law 1168 = .ok (.iload 5, 2) := by decide +kernel
theorem dL_law_1170 : decode cL_law 1170 = .ok (.if_icmp .eq 5, 3) := by decide +kernel
theorem dL_law_1173 : decode cL_law 1173 = .ok (.iconst 0, 1) := by decide +kernel
theorem dL_law_1174 : decode cL_law 1174 = .ok (.ireturn, 1) := by decide +kernel
theorem dL_law_1175 : decode cL_law 1175 = .ok (.iload 5, 2) := by decide +kernel
theorem dL_law_1177 : decode cL_law 1177 = .ok (.ifCond .ne 15, 3) := by decide +kernel
theorem dL_law_1180 : decode cL_law 1180 = .ok (.aload_n 3, 1) := by decide +kernel
theorem dL_law_1181 : decode cL_law 1181 = .ok (.iconst 0, 1) := by decide +kernel
theorem dL_law_1182 : decode cL_law 1182 = .ok (.laload, 1) := by decide +kernel
theorem dL_law_1183 : decode cL_law 1183 = .ok (.iload 6, 2) := by decide +kernel
theorem dL_law_1185 : decode cL_law 1185 = .ok (.i2l, 1) := by decide +kernel
theorem dL_law_1186 : decode cL_law 1186 = .ok (.lcmp, 1) := by decide +kernel
theorem dL_law_1187 : decode cL_law 1187 = .ok (.ifCond .eq 5, 3) := by decide +kernel
theorem dL_law_1190 : decode cL_law 1190 = .ok (.iconst 0, 1) := by decide +kernel
theorem dL_law_1191 : decode cL_law 1191 = .ok (.ireturn, 1) := by decide +kernel
theorem dL_law_1192 : decode cL_law 1192 = .ok (.goto 234, 3) := by decide +kernel
theorem dL_law_1195 : decode cL_law 1195 = .ok (.aload_n 1, 1) := by decide +kernel
theorem dL_law_1196 : decode cL_law 1196 = .ok (.invokevirtual 173, 3) := by decide +kernel
theorem dL_law_1199 : decode cL_law 1199 = .ok (.aload_n 2, 1) := by decide +kernel
theorem dL_law_1200 : decode cL_law 1200 = .ok (.invokevirtual 176, 3) := by decide +kernel
theorem dL_law_1203 : decode cL_law 1203 = .ok (.if_icmp .eq 223, 3) := by decide +kernel
theorem dL_law_1206 : decode cL_law 1206 = .ok (.iconst 0, 1) := by decide +kernel
theorem dL_law_1207 : decode cL_law 1207 = .ok (.ireturn, 1) := by decide +kernel
theorem dL_law_1208 : decode cL_law 1208 = .ok (.aload_n 1, 1) := by decide +kernel
theorem dL_law_1209 : decode cL_law 1209 = .ok (.invokevirtual 177, 3) := by decide +kernel
theorem dL_law_1212 : decode cL_law 1212 = .ok (.aload_n 2, 1) := by decide +kernel
theorem dL_law_1213 : decode cL_law 1213 = .ok (.invokevirtual 180, 3) := by decide +kernel
theorem dL_law_1216 : decode cL_law 1216 = .ok (.if_icmp .eq 210, 3) := by decide +kernel
theorem dL_law_1219 : decode cL_law 1219 = .ok (.iconst 0, 1) := by decide +kernel
theorem dL_law_1220 : decode cL_law 1220 = .ok (.ireturn, 1) := by decide +kernel
theorem dL_law_1221 : decode cL_law 1221 = .ok (.aload_n 1, 1) := by decide +kernel
theorem dL_law_1222 : decode cL_law 1222 = .ok (.invokevirtual 181, 3) := by decide +kernel
theorem dL_law_1225 : decode cL_law 1225 = .ok (.aload_n 2, 1) := by decide +kernel
theorem dL_law_1226 : decode cL_law 1226 = .ok (.invokevirtual 184, 3) := by decide +kernel
theorem dL_law_1229 : decode cL_law 1229 = .ok (.if_icmp .eq 197, 3) := by decide +kernel
theorem dL_law_1232 : decode cL_law 1232 = .ok (.iconst 0, 1) := by decide +kernel
theorem dL_law_1233 : decode cL_law 1233 = .ok (.ireturn, 1) := by decide +kernel
theorem dL_law_1234 : decode cL_law 1234 = .ok (.aload_n 1, 1) := by decide +kernel
theorem dL_law_1235 : decode cL_law 1235 = .ok (.aload_n 0, 1) := by decide +kernel
theorem dL_law_1236 : decode cL_law 1236 = .ok (.iload 4, 2) := by decide +kernel
theorem dL_law_1238 : decode cL_law 1238 = .ok (.iconst 1, 1) := by decide +kernel
theorem dL_law_1239 : decode cL_law 1239 = .ok (.iadd, 1) := by decide +kernel
theorem dL_law_1240 : decode cL_law 1240 = .ok (.iaload, 1) := by decide +kernel
theorem dL_law_1241 : decode cL_law 1241 = .ok (.aload_n 0, 1) := by decide +kernel
theorem dL_law_1242 : decode cL_law 1242 = .ok (.iload 4, 2) := by decide +kernel
theorem dL_law_1244 : decode cL_law 1244 = .ok (.iconst 2, 1) := by decide +kernel
theorem dL_law_1245 : decode cL_law 1245 = .ok (.iadd, 1) := by decide +kernel
theorem dL_law_1246 : decode cL_law 1246 = .ok (.iaload, 1) := by decide +kernel
theorem dL_law_1247 : decode cL_law 1247 = .ok (.aload_n 3, 1) := by decide +kernel
theorem dL_law_1248 : decode cL_law 1248 = .ok (.invokestatic 185, 3) := by decide +kernel
theorem dL_law_1251 : decode cL_law 1251 = .ok (.istore 5, 2) := by decide +kernel
theorem dL_law_1253 : decode cL_law 1253 = .ok (.aload_n 2, 1) := by decide +kernel
theorem dL_law_1254 : decode cL_law 1254 = .ok (.aload_n 0, 1) := by decide +kernel
theorem dL_law_1255 : decode cL_law 1255 = .ok (.iload 4, 2) := by decide +kernel
theorem dL_law_1257 : decode cL_law 1257 = .ok (.iconst 1, 1) := by decide +kernel
theorem dL_law_1258 : decode cL_law 1258 = .ok (.iadd, 1) := by decide +kernel
theorem dL_law_1259 : decode cL_law 1259 = .ok (.iaload, 1) := by decide +kernel
theorem dL_law_1260 : decode cL_law 1260 = .ok (.aload_n 0, 1) := by decide +kernel
theorem dL_law_1261 : decode cL_law 1261 = .ok (.iload 4, 2) := by decide +kernel
theorem dL_law_1263 : decode cL_law 1263 = .ok (.iconst 2, 1) := by decide +kernel
theorem dL_law_1264 : decode cL_law 1264 = .ok (.iadd, 1) := by decide +kernel
theorem dL_law_1265 : decode cL_law 1265 = .ok (.iaload, 1) := by decide +kernel
theorem dL_law_1266 : decode cL_law 1266 = .ok (.invokevirtual 187, 3) := by decide +kernel
theorem dL_law_1269 : decode cL_law 1269 = .ok (.istore 6, 2) := by decide +kernel
theorem dL_law_1271 : decode cL_law 1271 = .ok (.aload_n 2, 1) := by decide +kernel
theorem dL_law_1272 : decode cL_law 1272 = .ok (.invokevirtual 77, 3) := by decide +kernel
theorem dL_law_1275 : decode cL_law 1275 = .ok (.iload 5, 2) := by decide +kernel
theorem dL_law_1277 : decode cL_law 1277 = .ok (.if_icmp .eq 5, 3) := by decide +kernel
theorem dL_law_1280 : decode cL_law 1280 = .ok (.iconst 0, 1) := by decide +kernel
theorem dL_law_1281 : decode cL_law 1281 = .ok (.ireturn, 1) := by decide +kernel
theorem dL_law_1282 : decode cL_law 1282 = .ok (.iload 5, 2) := by decide +kernel
theorem dL_law_1284 : decode cL_law 1284 = .ok (.ifCond .ne 15, 3) := by decide +kernel
theorem dL_law_1287 : decode cL_law 1287 = .ok (.aload_n 3, 1) := by decide +kernel
theorem dL_law_1288 : decode cL_law 1288 = .ok (.iconst 0, 1) := by decide +kernel
theorem dL_law_1289 : decode cL_law 1289 = .ok (.laload, 1) := by decide +kernel
theorem dL_law_1290 : decode cL_law 1290 = .ok (.iload 6, 2) := by decide +kernel
theorem dL_law_1292 : decode cL_law 1292 = .ok (.i2l, 1) := by decide +kernel
theorem dL_law_1293 : decode cL_law 1293 = .ok (.lcmp, 1) := by decide +kernel
theorem dL_law_1294 : decode cL_law 1294 = .ok (.ifCond .eq 5, 3) := by decide +kernel
theorem dL_law_1297 : decode cL_law 1297 = .ok (.iconst 0, 1) := by decide +kernel
theorem dL_law_1298 : decode cL_law 1298 = .ok (.ireturn, 1) := by decide +kernel
theorem dL_law_1299 : decode cL_law 1299 = .ok (.goto 127, 3) := by decide +kernel
theorem dL_law_1302 : decode cL_law 1302 = .ok (.aload_n 1, 1) := by decide +kernel
theorem dL_law_1303 : decode cL_law 1303 = .ok (.invokevirtual 188, 3) := by decide +kernel
theorem dL_law_1306 : decode cL_law 1306 = .ok (.aload_n 2, 1) := by decide +kernel
theorem dL_law_1307 : decode cL_law 1307 = .ok (.invokevirtual 191, 3) := by decide +kernel
theorem dL_law_1310 : decode cL_law 1310 = .ok (.if_icmp .eq 116, 3) := by decide +kernel
theorem dL_law_1313 : decode cL_law 1313 = .ok (.iconst 0, 1) := by decide +kernel
theorem dL_law_1314 : decode cL_law 1314 = .ok (.ireturn, 1) := by decide +kernel
theorem dL_law_1315 : decode cL_law 1315 = .ok (.aload_n 1, 1) := by decide +kernel
theorem dL_law_1316 : decode cL_law 1316 = .ok (.aload_n 0, 1) := by decide +kernel
theorem dL_law_1317 : decode cL_law 1317 = .ok (.iload 4, 2) := by decide +kernel
theorem dL_law_1319 : decode cL_law 1319 = .ok (.iconst 1, 1) := by decide +kernel
theorem dL_law_1320 : decode cL_law 1320 = .ok (.iadd, 1) := by decide +kernel
theorem dL_law_1321 : decode cL_law 1321 = .ok (.iaload, 1) := by decide +kernel
theorem dL_law_1322 : decode cL_law 1322 = .ok (.aload_n 3, 1) := by decide +kernel
theorem dL_law_1323 : decode cL_law 1323 = .ok (.invokestatic 192, 3) := by decide +kernel
theorem dL_law_1326 : decode cL_law 1326 = .ok (.istore 5, 2) := by decide +kernel
theorem dL_law_1328 : decode cL_law 1328 = .ok (.aload_n 2, 1) := by decide +kernel
theorem dL_law_1329 : decode cL_law 1329 = .ok (.aload_n 0, 1) := by decide +kernel
theorem dL_law_1330 : decode cL_law 1330 = .ok (.iload 4, 2) := by decide +kernel
theorem dL_law_1332 : decode cL_law 1332 = .ok (.iconst 1, 1) := by decide +kernel
theorem dL_law_1333 : decode cL_law 1333 = .ok (.iadd, 1) := by decide +kernel
theorem dL_law_1334 : decode cL_law 1334 = .ok (.iaload, 1) := by decide +kernel
theorem dL_law_1335 : decode cL_law 1335 = .ok (.invokevirtual 194, 3) := by decide +kernel
theorem dL_law_1338 : decode cL_law 1338 = .ok (.istore 6, 2) := by decide +kernel
theorem dL_law_1340 : decode cL_law 1340 = .ok (.aload_n 2, 1) := by decide +kernel
theorem dL_law_1341 : decode cL_law 1341 = .ok (.invokevirtual 77, 3) := by decide +kernel
theorem dL_law_1344 : decode cL_law 1344 = .ok (.iload 5, 2) := by decide +kernel
theorem dL_law_1346 : decode cL_law 1346 = .ok (.if_icmp .eq 5, 3) := by decide +kernel
theorem dL_law_1349 : decode cL_law 1349 = .ok (.iconst 0, 1) := by decide +kernel
theorem dL_law_1350 : decode cL_law 1350 = .ok (.ireturn, 1) := by decide +kernel
theorem dL_law_1351 : decode cL_law 1351 = .ok (.iload 5, 2) := by decide +kernel
theorem dL_law_1353 : decode cL_law 1353 = .ok (.ifCond .ne 15, 3) := by decide +kernel
theorem dL_law_1356 : decode cL_law 1356 = .ok (.aload_n 3, 1) := by decide +kernel
theorem dL_law_1357 : decode cL_law 1357 = .ok (.iconst 0, 1) := by decide +kernel
theorem dL_law_1358 : decode cL_law 1358 = .ok (.laload, 1) := by decide +kernel
theorem dL_law_1359 : decode cL_law 1359 = .ok (.iload 6, 2) := by decide +kernel
theorem dL_law_1361 : decode cL_law 1361 = .ok (.i2l, 1) := by decide +kernel
theorem dL_law_1362 : decode cL_law 1362 = .ok (.lcmp, 1) := by decide +kernel
theorem dL_law_1363 : decode cL_law 1363 = .ok (.ifCond .eq 5, 3) := by decide +kernel
theorem dL_law_1366 : decode cL_law 1366 = .ok (.iconst 0, 1) := by decide +kernel
theorem dL_law_1367 : decode cL_law 1367 = .ok (.ireturn, 1) := by decide +kernel
theorem dL_law_1368 : decode cL_law 1368 = .ok (.goto 58, 3) := by decide +kernel
theorem dL_law_1371 : decode cL_law 1371 = .ok (.aload_n 1, 1) := by decide +kernel
theorem dL_law_1372 : decode cL_law 1372 = .ok (.invokevirtual 195, 3) := by decide +kernel
theorem dL_law_1375 : decode cL_law 1375 = .ok (.dstore 5, 2) := by decide +kernel
theorem dL_law_1377 : decode cL_law 1377 = .ok (.aload_n 2, 1) := by decide +kernel
theorem dL_law_1378 : decode cL_law 1378 = .ok (.invokevirtual 199, 3) := by decide +kernel
theorem dL_law_1381 : decode cL_law 1381 = .ok (.dstore 7, 2) := by decide +kernel
theorem dL_law_1383 : decode cL_law 1383 = .ok (.dload 5, 2) := by decide +kernel
theorem dL_law_1385 : decode cL_law 1385 = .ok (.dload 7, 2) := by decide +kernel
theorem dL_law_1387 : decode cL_law 1387 = .ok (.dcmp .l, 1) := by decide +kernel
theorem dL_law_1388 : decode cL_law 1388 = .ok (.ifCond .eq 21, 3) := by decide +kernel
theorem dL_law_1391 : decode cL_law 1391 = .ok (.dload 5, 2) := by decide +kernel
theorem dL_law_1393 : decode cL_law 1393 = .ok (.dload 5, 2) := by decide +kernel
theorem dL_law_1395 : decode cL_law 1395 = .ok (.dcmp .l, 1) := by decide +kernel
theorem dL_law_1396 : decode cL_law 1396 = .ok (.ifCond .eq 11, 3) := by decide +kernel
theorem dL_law_1399 : decode cL_law 1399 = .ok (.dload 7, 2) := by decide +kernel
theorem dL_law_1401 : decode cL_law 1401 = .ok (.dload 7, 2) := by decide +kernel
theorem dL_law_1403 : decode cL_law 1403 = .ok (.dcmp .l, 1) := by decide +kernel
theorem dL_law_1404 : decode cL_law 1404 = .ok (.ifCond .ne 5, 3) := by decide +kernel
theorem dL_law_1407 : decode cL_law 1407 = .ok (.iconst 0, 1) := by decide +kernel
theorem dL_law_1408 : decode cL_law 1408 = .ok (.ireturn, 1) := by decide +kernel
theorem dL_law_1409 : decode cL_law 1409 = .ok (.goto 17, 3) := by decide +kernel
theorem dL_law_1412 : decode cL_law 1412 = .ok (.aload_n 1, 1) := by decide +kernel
theorem dL_law_1413 : decode cL_law 1413 = .ok (.invokevirtual 200, 3) := by decide +kernel
theorem dL_law_1416 : decode cL_law 1416 = .ok (.aload_n 2, 1) := by decide +kernel
theorem dL_law_1417 : decode cL_law 1417 = .ok (.invokevirtual 204, 3) := by decide +kernel
theorem dL_law_1420 : decode cL_law 1420 = .ok (.lcmp, 1) := by decide +kernel
theorem dL_law_1421 : decode cL_law 1421 = .ok (.ifCond .eq 5, 3) := by decide +kernel
theorem dL_law_1424 : decode cL_law 1424 = .ok (.iconst 0, 1) := by decide +kernel
theorem dL_law_1425 : decode cL_law 1425 = .ok (.ireturn, 1) := by decide +kernel
theorem dL_law_1426 : decode cL_law 1426 = .ok (.iinc 4 3, 3) := by decide +kernel
theorem dL_law_1429 : decode cL_law 1429 = .ok (.goto (-1406), 3) := by decide +kernel
theorem dL_law_1432 : decode cL_law 1432 = .ok (.iconst 1, 1) := by decide +kernel
theorem dL_law_1433 : decode cL_law 1433 = .ok (.ireturn, 1) := by decide +kernel
abbrev vwCl : List vw_C := [(RX0, TX0, 2), (RX1, TX1, 2), (RX2, TX2, 6), (RX3, TX3, 8)]
end
section
/-! worlds, contracts and call rows in the words of this proof: xR a method that changes nothing (its answer is a function of its world), xM one that changes its world's cells in place -/
abbrev xRow : Type := Nat → Int32
abbrev xG : Type := va_G × ClassId × ClassId × ClassId
abbrev xTy (γ : xG) : List (ClassId × FieldType) := [(γ.2.1, .int), (γ.2.2.1, .object RX0), (γ.2.2.2, .long)]
abbrev xK (γ : xG) (U : State) : Prop := va_K γ.1 vwCl (xTy γ) U
abbrev xP (γ : xG) (ws : va_W) (H : Heap) : Prop := va_P γ.1 vwCl ws H
abbrev xA (γ : xG) (q n : Nat) (f : xRow) : Nat × va_E := (q, .inl (γ.2.1, n, .inl f))
abbrev xO (q ci : Nat) (fs : List Value) : Nat × va_E := (q, .inr (ci, fs))
abbrev xQ (γ : xG) (q n : Nat) (f : Nat → Option Nat) : Nat × va_E := (q, .inl (γ.2.2.1, n, .inr (.inr (.inr (.inr f)))))
abbrev xL (γ : xG) (q n : Nat) (f : Nat → Int64) : Nat × va_E := (q, .inl (γ.2.2.2, n, .inr (.inl f)))
def xRQ (r : Option Value) : Array Value → State → Outcome → State → Prop := fun _ st o t => o = .returned r ∧ t.heap = st.heap
def xR (γ : xG) (l : Launch) (y : MethodName) (ws : List Cond) (rm : Room) (av : List Value) (wc : va_W) (r : Option Value) : Prop :=
  Met l y ws rm (va_Pc av (fun U => xP γ wc U.heap ∧ xK γ U)) (xRQ r) 0 0 (fun _ => False)
def xMQ (γ : xG) (fs : List Nat) (A : Nat → Prop) (Pw : Option Value → va_W → Prop) : Array Value → State → Outcome → State → Prop := fun _ st o t =>
  (∃ (r : Option Value) (w1 : va_W), o = .returned r ∧ Pw r w1 ∧ w1.map Prod.fst = fs ∧ xP γ w1 t.heap) ∧ va_F A st t
def xM (γ : xG) (l : Launch) (y : MethodName) (ws : List Cond) (rm : Room) (av : List Value) (wc : va_W) (Pw : Option Value → va_W → Prop) (mc ms : Nat) : Prop :=
  ∀ sz : Nat, Met l y ws rm (va_Pc av (fun U => U.heap.size = sz ∧ xP γ wc U.heap ∧ xK γ U ∧ va_D (fun _ => True) wc)) (xMQ γ (wc.map Prod.fst) (va_A wc sz) Pw) mc ms (va_A wc sz)
theorem xR.of {γ : xG} {l : Launch} {y : MethodName} {ws ws' : List Cond} {rm : Room} {av : List Value} {wc : va_W} {r : Option Value} {cc : ByteArray} {maxL : Nat} {ret : Option FieldType}
    (hy : plainName y.cls = true) (hw : ws = Cond.code y cc maxL ret :: ws') (hlen : (lg_sl av).length ≤ maxL)
    (body : ∀ (p : Program) (e : Env) (s : State) (m : MethodId) (below : List Frame) (meth : Method) (c : Code), p.tables.exec = Jvm.exec → c.code = cc → meth.sig.returnType = ret → c.maxLocals = maxL → (∀ w ∈ ws, w.before av.toArray s = true) → s.vm.findClass y.cls = some m.cls → meth.locks = false → xP γ wc s.heap → xK γ s → ∀ ls : Array Slot, lv_has ls maxL (lv_args 0 av) →
      W p l e rm s m av.toArray below meth c s.heap [] 0 0 (MQ below (xRQ r) av.toArray s 0 0 (fun _ => False)) (F0 m 0 ls [])) : xR γ l y ws rm av wc r := by
  refine Met.ofW (cc := cc) (maxL := maxL) (ret := ret) hy hw ?_
  intro p e s m args below meth c s₁ B hml hv
  obtain ⟨rfl, hP, hK⟩ := hv
  have hl := lv_entry av (n := maxL) hlen
  rw [lg_entry_eq]
  exact body p e s m below meth c B.exec B.bytes B.returns hml (atoms_spec (ws := ws) B.pre) (findClass_of_methodNamed B.named) B.notSynchronized hP hK _ hl
theorem xM.of {γ : xG} {l : Launch} {y : MethodName} {ws ws' : List Cond} {rm : Room} {av : List Value} {wc : va_W} {Pw : Option Value → va_W → Prop} {mc ms : Nat} {cc : ByteArray} {maxL : Nat} {ret : Option FieldType}
    (hy : plainName y.cls = true) (hw : ws = Cond.code y cc maxL ret :: ws') (hlen : (lg_sl av).length ≤ maxL)
    (body : ∀ (p : Program) (e : Env) (s : State) (m : MethodId) (below : List Frame) (meth : Method) (c : Code), p.tables.exec = Jvm.exec → c.code = cc → meth.sig.returnType = ret → c.maxLocals = maxL → (∀ w ∈ ws, w.before av.toArray s = true) → s.vm.findClass y.cls = some m.cls → meth.locks = false → meth.name = y.name → xP γ wc s.heap → xK γ s → ∀ A : Nat → Prop, (∀ q : Nat, s.heap.size ≤ q → A q) → va_D A wc → ∀ ls : Array Slot, lv_has ls maxL (lv_args 0 av) →
      W p l e rm s m av.toArray below meth c s.heap [] 0 0 (MQ below (xMQ γ (wc.map Prod.fst) A Pw) av.toArray s mc ms A) (F0 m 0 ls [])) : xM γ l y ws rm av wc Pw mc ms := by
  intro sz
  refine Met.ofW (cc := cc) (maxL := maxL) (ret := ret) hy hw ?_
  intro p e s m args below meth c s₁ B hml hv
  obtain ⟨rfl, hsz, hP, hK, hD0⟩ := hv
  subst hsz
  have hl := lv_entry av (n := maxL) hlen
  rw [lg_entry_eq]
  exact body p e s m below meth c B.exec B.bytes B.returns hml (atoms_spec (ws := ws) B.pre) (findClass_of_methodNamed B.named) B.notSynchronized (name_of_methodNamed B.named B.method).1 hP hK (va_A wc s.heap.size) (fun q h => Or.inr h) (hD0.self (sz := s.heap.size)) _ hl
theorem xR_blind {γ : xG} {av : List Value} {wc : va_W} : FrameBlind (va_Pc av (fun U => xP γ wc U.heap ∧ xK γ U)) := fun a U g mk q => ⟨q.1, q.2.1, va_K.moved (u := U) (U := U.calling g mk a) (Vm.Alike.refl U.vm) q.2.2⟩
theorem xM_blind {γ : xG} {av : List Value} {wc : va_W} {sz : Nat} : FrameBlind (va_Pc av (fun U => U.heap.size = sz ∧ xP γ wc U.heap ∧ xK γ U ∧ va_D (fun _ => True) wc)) := fun a U g mk q => ⟨q.1, q.2.1, q.2.2.1, va_K.moved (u := U) (U := U.calling g mk a) (Vm.Alike.refl U.vm) q.2.2.2.1, q.2.2.2.2⟩
/-- a world with some of its cells put anew -/
def xup (W0 : va_W) : List Nat → va_W → va_W
  | i :: is, e :: w => xup (W0.set i e) is w
  | _, _ => W0
theorem xup_get : ∀ (is : List Nat) (w : va_W) (W0 : va_W) (k : Nat) (q : Nat × va_E), is.length = w.length → (xup W0 is w)[k]? = some q → (∃ j, is[j]? = some k ∧ w[j]? = some q) ∨ (k ∉ is ∧ W0[k]? = some q)
  | [], [], W0, k, q, _, h => Or.inr ⟨List.not_mem_nil, h⟩
  | [], _ :: _, _, _, _, hl, _ => by simp at hl
  | _ :: _, [], _, _, _, hl, _ => by simp at hl
  | i :: is, e :: w, W0, k, q, hl, h => by
    have hl' : is.length = w.length := by simpa using hl
    rcases xup_get is w (W0.set i e) k q hl' h with ⟨j, h1, h2⟩ | ⟨h1, h2⟩
    · exact Or.inl ⟨j + 1, by simpa using h1, by simpa using h2⟩
    · by_cases hik : i = k
      · subst hik
        have hlt : i < (W0.set i e).length := (List.getElem?_eq_some_iff.mp h2).1
        have hlt' : i < W0.length := by simpa using hlt
        rw [List.getElem?_set_self hlt'] at h2
        exact Or.inl ⟨0, rfl, by simpa using h2⟩
      · rw [List.getElem?_set_ne hik] at h2
        exact Or.inr ⟨by simp only [List.mem_cons, not_or]; exact ⟨fun h => hik h.symm, h1⟩, h2⟩
theorem xjoin {γ : xG} {A0 : Nat → Prop} {W0 wc w1 : va_W} {H H1 : Heap} {is : List Nat} (hP : xP γ W0 H) (hD : va_D A0 W0) (hC : is.map (fun i => W0[i]?) = wc.map some) (ha : w1.map Prod.fst = wc.map Prod.fst)
    (hk : ∀ q : Nat, q < H.size → ¬ va_A wc H.size q → H1[q]? = H[q]?) (hP1 : xP γ w1 H1) : xP γ (xup W0 is w1) H1 ∧ va_D A0 (xup W0 is w1) := by
  have hlen : is.length = w1.length := by
    have h1 := congrArg List.length hC
    have h2 := congrArg List.length ha
    simp only [List.length_map] at h1 h2
    omega
  have at' : ∀ (j : Nat) (q : Nat × va_E), wc[j]? = some q → ∃ i, is[j]? = some i ∧ W0[i]? = some q := by
    intro j q hq
    have h1 : (is.map (fun i => W0[i]?))[j]? = some (some q) := by rw [hC, List.getElem?_map, hq]; rfl
    rw [List.getElem?_map] at h1
    cases hi : is[j]? with
    | none => rw [hi] at h1; cases h1
    | some i => rw [hi] at h1; exact ⟨i, rfl, Option.some.inj h1⟩
  have old : ∀ (j : Nat) (q : Nat × va_E), w1[j]? = some q → ∃ q' i, is[j]? = some i ∧ W0[i]? = some q' ∧ q'.1 = q.1 := by
    intro j q hq
    have h1 : (w1.map Prod.fst)[j]? = some q.1 := by rw [List.getElem?_map, hq]; rfl
    rw [ha, List.getElem?_map] at h1
    cases hw : wc[j]? with
    | none => rw [hw] at h1; cases h1
    | some q' =>
      rw [hw] at h1
      obtain ⟨i, h2, h3⟩ := at' j q' hw
      exact ⟨q', i, h2, h3, Option.some.inj h1⟩
  have was : ∀ (k : Nat) (q : Nat × va_E), (xup W0 is w1)[k]? = some q → ∃ q', W0[k]? = some q' ∧ q'.1 = q.1 := by
    intro k q hq
    rcases xup_get is w1 W0 k q hlen hq with ⟨j, h1, h2⟩ | ⟨h1, h2⟩
    · obtain ⟨q', i, g1, g2, g3⟩ := old j q h2
      cases Option.some.inj (h1.symm.trans g1)
      exact ⟨q', g2, g3⟩
    · exact ⟨q, h2, rfl⟩
  refine ⟨fun k q hq => ?_, fun i j p q hp hq hpq => ?_, fun k q hq => ?_⟩
  · rcases xup_get is w1 W0 k q hlen hq with ⟨j, h1, h2⟩ | ⟨h1, h2⟩
    · exact hP1 j q h2
    · refine (hP k q h2).kept (hk q.1 (hP k q h2).lt (fun h => ?_))
      rcases h with ⟨j, e, h⟩ | h
      · obtain ⟨i, g1, g2⟩ := at' j (q.1, e) h
        have hik := hD.1 i k (q.1, e) q g2 h2 rfl
        subst hik
        exact h1 (List.mem_of_getElem? g1)
      · have := (hP k q h2).lt
        omega
  · obtain ⟨p', h1, h2⟩ := was i p hp
    obtain ⟨q', h3, h4⟩ := was j q hq
    exact hD.1 i j p' q' h1 h3 (by rw [h2, h4, hpq])
  · obtain ⟨q', h1, h2⟩ := was k q hq
    rw [← h2]
    exact hD.2 k q' h1
section X
variable {p : Program} {l : Launch} {e : Env} {R : Room} {s : State} {m : MethodId} {args : Array Value} {below : List Frame} {meth : Method} {c : Code} {H : Heap} {locs : List Loc} {cells slots : Nat} {Q : State → Prop}
variable {cc : ByteArray} {pc : Nat} {ls : Array Slot} {γ : xG}
theorem x_top {x y : Int32} {rest : List Value} (h : x = y) (k : W p l e R s m args below meth c H locs cells slots Q (F0 m pc ls (.int y :: rest))) : W p l e R s m args below meth c H locs cells slots Q (F0 m pc ls (.int x :: rest)) := h ▸ k
theorem x_topl {x y : Int64} {rest : List Value} (h : x = y) (k : W p l e R s m args below meth c H locs cells slots Q (F0 m pc ls (.long y :: rest))) : W p l e R s m args below meth c H locs cells slots Q (F0 m pc ls (.long x :: rest)) := h ▸ k
theorem x_iald {rest : List Value} {a : Nat} {W0 : va_W} (hx : p.tables.exec = Jvm.exec) (hb : c.code = cc) (hK : xK γ s) (hP : xP γ W0 H) (q0 : Nat) {n : Nat} {f : xRow} (ha : W0[q0]? = some (xA γ a n f)) {i : Int32} (k : Nat) (hi : i = nI k) (hk : k < n) (hn : n < 2 ^ 31) (hdg : decode cc pc = .ok (.iaload, 1))
    (kk : W p l e R s m args below meth c H locs cells slots Q (F0 m (pc + 1) ls (.int (f k) :: rest))) : W p l e R s m args below meth c H locs cells slots Q (F0 m pc ls (.int i :: .ref a :: rest)) := by
  subst hi
  have e1 : (nI k).toNatClampNeg = k := nI_clamp (by omega)
  refine va_iald hx hb hK hP q0 0 ha rfl (vp_in_nI hk hn) hdg ?_
  rw [e1]
  exact kk
theorem x_iast {rest : List Value} {a : Nat} {W0 : va_W} {A : Nat → Prop} {H0 : Heap} (hx : p.tables.exec = Jvm.exec) (hb : c.code = cc) (hK : xK γ s) (hP : xP γ W0 H) (hD : va_D A W0) (hS : va_S A H0 H locs) (q0 : Nat) {n : Nat} {f : xRow} (ha : W0[q0]? = some (xA γ a n f)) {i x : Int32} (k : Nat) (hi : i = nI k) (hk : k < n) (hn : n < 2 ^ 31) (hdg : decode cc pc = .ok (.iastore, 1))
    (kk : ∀ (H1 : Heap) (locs1 : List Loc), xP γ (W0.set q0 (xA γ a n (upd f k x))) H1 → va_D A (W0.set q0 (xA γ a n (upd f k x))) → va_S A H0 H1 locs1 → W p l e R s m args below meth c H1 locs1 cells slots Q (F0 m (pc + 1) ls rest)) : W p l e R s m args below meth c H locs cells slots Q (F0 m pc ls (.int x :: .int i :: .ref a :: rest)) := by
  subst hi
  have e1 : (nI k).toNatClampNeg = k := nI_clamp (by omega)
  refine va_iast hx hb hK hP hD hS q0 0 ha rfl (vp_in_nI hk hn) hdg ?_
  rw [e1]
  exact kk
theorem xR_i {x v : Int32} (hx : p.tables.exec = Jvm.exec) (hb : c.code = cc) (hr : meth.sig.returnType = some .int) (hlocks : meth.locks = false) (hdg : decode cc pc = .ok (.ireturn, 1)) (hv : x = v) : W p l e R s m args below meth c s.heap [] 0 0 (MQ below (xRQ (some (.int v))) args s 0 0 (fun _ => False)) (F0 m pc ls [.int x]) := by
  subst hv
  exact W.iret hx hb hr (fun t ht _ => ⟨rfl, ht⟩) (fun q h => by cases h) hdg hlocks
theorem xR_z {x v : Int32} (hx : p.tables.exec = Jvm.exec) (hb : c.code = cc) (hr : meth.sig.returnType = some .boolean) (hlocks : meth.locks = false) (hdg : decode cc pc = .ok (.ireturn, 1)) (hz : x = 0 ∨ x = 1) (hv : x = v) : W p l e R s m args below meth c s.heap [] 0 0 (MQ below (xRQ (some (.int v))) args s 0 0 (fun _ => False)) (F0 m pc ls [.int x]) := by
  subst hv
  exact W.zret hx hb hr (by rcases hz with h | h <;> rw [h] <;> rfl) (fun t ht _ => ⟨rfl, ht⟩) (fun q h => by cases h) hdg hlocks
theorem xR_l {x v : Int64} (hx : p.tables.exec = Jvm.exec) (hb : c.code = cc) (hr : meth.sig.returnType = some .long) (hlocks : meth.locks = false) (hdg : decode cc pc = .ok (.lreturn, 1)) (hv : x = v) : W p l e R s m args below meth c s.heap [] 0 0 (MQ below (xRQ (some (.long v))) args s 0 0 (fun _ => False)) (F0 m pc ls [.long x]) := by
  subst hv
  exact W.lret hx hb hr (fun t ht _ => ⟨rfl, ht⟩) (fun q h => by cases h) hdg hlocks
theorem xR_v (hx : p.tables.exec = Jvm.exec) (hb : c.code = cc) (hr : meth.sig.returnType = none) (hlocks : meth.locks = false) (hdg : decode cc pc = .ok (.return_, 1)) : W p l e R s m args below meth c s.heap [] 0 0 (MQ below (xRQ none) args s 0 0 (fun _ => False)) (F0 m pc ls []) :=
  W.vret hx hb hr (fun t ht _ => ⟨rfl, ht⟩) (fun q h => by cases h) hdg hlocks
theorem xR_a {a b : Nat} {rt : FieldType} (hx : p.tables.exec = Jvm.exec) (hb : c.code = cc) (hr : meth.sig.returnType = some rt) (hrt : (∃ n, rt = .object n) ∨ ∃ t, rt = .array t) (hlocks : meth.locks = false) (hdg : decode cc pc = .ok (.areturn, 1)) (hv : a = b) : W p l e R s m args below meth c s.heap [] 0 0 (MQ below (xRQ (some (.ref b))) args s 0 0 (fun _ => False)) (F0 m pc ls [.ref a]) := by
  subst hv
  exact W.aret hx hb hr hrt (Or.inr ⟨_, rfl⟩) (fun t ht _ => ⟨rfl, ht⟩) (fun q h => by cases h) hdg hlocks
variable {A : Nat → Prop} {W0 : va_W} {Pw : Option Value → va_W → Prop} {fs : List Nat} {mc ms : Nat}
theorem xM_i {x : Int32} (hx : p.tables.exec = Jvm.exec) (hb : c.code = cc) (hr : meth.sig.returnType = some .int) (hlocks : meth.locks = false) (hdg : decode cc pc = .ok (.ireturn, 1)) (hP : xP γ W0 H) (hf : W0.map Prod.fst = fs) (hS : va_S A s.heap H locs) (hc : cells ≤ mc) (hs : slots ≤ ms) (hp : Pw (some (.int x)) W0) : W p l e R s m args below meth c H locs cells slots (MQ below (xMQ γ fs A Pw) args s mc ms A) (F0 m pc ls [.int x]) :=
  W.widen hc hs (W.iret hx hb hr (fun t ht _ => ⟨⟨_, W0, rfl, hp, hf, by rw [ht]; exact hP⟩, hS.F ht⟩) hS.2.2 hdg hlocks)
theorem xM_z {x : Int32} (hx : p.tables.exec = Jvm.exec) (hb : c.code = cc) (hr : meth.sig.returnType = some .boolean) (hlocks : meth.locks = false) (hdg : decode cc pc = .ok (.ireturn, 1)) (hz : x = 0 ∨ x = 1) (hP : xP γ W0 H) (hf : W0.map Prod.fst = fs) (hS : va_S A s.heap H locs) (hc : cells ≤ mc) (hs : slots ≤ ms) (hp : Pw (some (.int x)) W0) : W p l e R s m args below meth c H locs cells slots (MQ below (xMQ γ fs A Pw) args s mc ms A) (F0 m pc ls [.int x]) :=
  W.widen hc hs (W.zret hx hb hr (by rcases hz with h | h <;> rw [h] <;> rfl) (fun t ht _ => ⟨⟨_, W0, rfl, hp, hf, by rw [ht]; exact hP⟩, hS.F ht⟩) hS.2.2 hdg hlocks)
theorem xM_l {x : Int64} (hx : p.tables.exec = Jvm.exec) (hb : c.code = cc) (hr : meth.sig.returnType = some .long) (hlocks : meth.locks = false) (hdg : decode cc pc = .ok (.lreturn, 1)) (hP : xP γ W0 H) (hf : W0.map Prod.fst = fs) (hS : va_S A s.heap H locs) (hc : cells ≤ mc) (hs : slots ≤ ms) (hp : Pw (some (.long x)) W0) : W p l e R s m args below meth c H locs cells slots (MQ below (xMQ γ fs A Pw) args s mc ms A) (F0 m pc ls [.long x]) :=
  W.widen hc hs (W.lret hx hb hr (fun t ht _ => ⟨⟨_, W0, rfl, hp, hf, by rw [ht]; exact hP⟩, hS.F ht⟩) hS.2.2 hdg hlocks)
theorem xM_v (hx : p.tables.exec = Jvm.exec) (hb : c.code = cc) (hr : meth.sig.returnType = none) (hlocks : meth.locks = false) (hdg : decode cc pc = .ok (.return_, 1)) (hP : xP γ W0 H) (hf : W0.map Prod.fst = fs) (hS : va_S A s.heap H locs) (hc : cells ≤ mc) (hs : slots ≤ ms) (hp : Pw none W0) : W p l e R s m args below meth c H locs cells slots (MQ below (xMQ γ fs A Pw) args s mc ms A) (F0 m pc ls []) :=
  W.widen hc hs (W.vret hx hb hr (fun t ht _ => ⟨⟨_, W0, rfl, hp, hf, by rw [ht]; exact hP⟩, hS.F ht⟩) hS.2.2 hdg hlocks)
variable {rest st0 stk As : List Value} {a : Array Value} {r : Option Value} {wc : va_W} {nL n index : Nat} {y : MethodName} {bytes : ByteArray} {maxL : Nat} {ret : Option FieldType} {ws Ts : List Cond} {rm : Room} {own C : String} {b : Addr}
theorem xcR (hr : va_Run p l e R s m args below meth c H locs cells slots 0 0 (F0 m pc ls st0) rest (xRQ r a) (fun _ => False)) (kk : W p l e R s m args below meth c H locs cells slots Q (F0 m (pc + 3) ls (r.toList ++ rest))) : W p l e R s m args below meth c H locs cells slots Q (F0 m pc ls st0) := by
  intro T hT X
  obtain ⟨v, st₀, t, T', L, h0, X', hL, e1, e2, ⟨hv, hh⟩, st⟩ := hr T hT X
  cases hv
  obtain ⟨t2, a1, b1⟩ := kk T' (by rw [e1, hh, h0]) (Stand.forget X' (fun q h => (hL q h).elim))
  exact ⟨t2, st t2 a1, b1⟩
theorem xcM {H0 : Heap} {is : List Nat} (hr : va_Run p l e R s m args below meth c H locs cells slots mc ms (F0 m pc ls st0) rest (xMQ γ (wc.map Prod.fst) (va_A wc H.size) Pw a) (va_A wc H.size)) (hP : xP γ W0 H) (hD : va_D A W0) (hS : va_S A H0 H locs) (hA : ∀ q : Nat, H0.size ≤ q → A q) (hC : is.map (fun i => W0[i]?) = wc.map some)
    (kk : ∀ (r : Option Value) (w1 : va_W) (H1 : Heap) (locs1 : List Loc), Pw r w1 → xP γ (xup W0 is w1) H1 → va_D A (xup W0 is w1) → va_S A H0 H1 locs1 → W p l e R s m args below meth c H1 locs1 (cells + mc) (slots + ms) Q (F0 m (pc + 3) ls (r.toList ++ rest))) : W p l e R s m args below meth c H locs cells slots Q (F0 m pc ls st0) := by
  intro T hT X
  obtain ⟨v, st₀, t, T', L, h0, X', hL, e1, e2, ⟨⟨r, w1, hv, hp, hfs, hP1⟩, hz, hk⟩, st⟩ := hr T hT X
  cases hv
  rw [h0] at hz hk
  have hF := va_free (wc := wc) hD hS hA is hC
  obtain ⟨hP2, hD2⟩ := xjoin hP hD hC hfs (fun q h1 h2 => hk q h1 h2) hP1
  obtain ⟨t2, a1, b1⟩ := kk v w1 T'.heap (locs ++ L) hp (by rw [e1]; exact hP2) hD2
    ⟨Nat.le_trans hS.1 (by rw [e1]; exact hz), fun q h1 h2 => by rw [e1, hk q (Nat.lt_of_lt_of_le h1 hS.1) (fun z => h2 (hF q z))]; exact hS.2.1 q h1 h2, fun q hq => by
      rcases List.mem_append.mp hq with h | h
      · exact hS.2.2 q h
      · exact hF _ (hL q h)⟩ T' rfl X'
  exact ⟨t2, st t2 a1, b1⟩
/-- a call of a method that changes nothing -/
theorem xVR {q0 ci : Nat} {fv : List Value} {qc : vw_C} (S : CallFix p m c cc nL s args Ts own) (hM : xR γ l y ws rm (.ref b :: As) wc r) (cw : CallW R s args own qc.1 index y bytes maxL ret ws rm 0 0 n) (hK : xK γ s) (hP : xP γ W0 H) (is : List Nat) (hC : is.filterMap (fun i => W0[i]?) = wc) (he : W0[q0]? = some (b, .inr (ci, fv))) (hc : vwCl[ci]? = some qc) (hn : As.length = n) (hl : ls.size = nL) (hst : st0 = As.reverse ++ .ref b :: rest) (hW : (rest.map fun v => v.category).sum ≤ 8) (hdg : decode cc pc = .ok (.invokevirtual index, 3)) (hcs : cells ≤ R.cells ∧ slots ≤ R.slots) (hk : r.toList ++ rest = stk)
    (kk : W p l e R s m args below meth c H locs cells slots Q (F0 m (pc + 3) ls stk)) : W p l e R s m args below meth c H locs cells slots Q (F0 m pc ls st0) := by
  subst hk
  exact xcR (va_runV (As := As) (rest := rest) S hM cw ⟨xR_blind, va_recv hK hP hc he, fun U hU hW => ⟨rfl, by rw [hU]; exact hP.sub is hC, va_K.moved hW.alike hK⟩⟩ rfl hn hl hst (lv_room hW) hdg hcs) kk
theorem xSR (S : CallFix p m c cc nL s args Ts own) (hM : xR γ l y ws rm As wc r) (cw : CallB R s args own index y bytes maxL ret ws rm 0 0 n ∧ (Cond.static y).before args s = true) (hK : xK γ s) (hP : xP γ W0 H) (is : List Nat) (hC : is.filterMap (fun i => W0[i]?) = wc) (hn : As.length = n) (hl : ls.size = nL) (hst : st0 = As.reverse ++ rest) (hW : (rest.map fun v => v.category).sum ≤ 8) (hdg : decode cc pc = .ok (.invokestatic index, 3)) (hcs : cells ≤ R.cells ∧ slots ≤ R.slots) (hk : r.toList ++ rest = stk)
    (kk : W p l e R s m args below meth c H locs cells slots Q (F0 m (pc + 3) ls stk)) : W p l e R s m args below meth c H locs cells slots Q (F0 m pc ls st0) := by
  subst hk
  exact xcR (va_runS (As := As) (rest := rest) S hM cw ⟨xR_blind, fun U hU hW => ⟨rfl, by rw [hU]; exact hP.sub is hC, va_K.moved hW.alike hK⟩⟩ rfl hn hl hst (lv_room hW) hdg hcs) kk
/-- a call of a method that changes its world's cells in place -/
theorem xVM {q0 ci : Nat} {fv : List Value} {qc : vw_C} {H0 : Heap} (S : CallFix p m c cc nL s args Ts own) (hM : xM γ l y ws rm (.ref b :: As) wc Pw mc ms) (cw : CallW R s args own qc.1 index y bytes maxL ret ws rm mc ms n) (hK : xK γ s) (hP : xP γ W0 H) (hD : va_D A W0) (hS : va_S A H0 H locs) (hA : ∀ q : Nat, H0.size ≤ q → A q) (is : List Nat) (hnd : va_nd is = true) (hC : is.map (fun i => W0[i]?) = wc.map some) (he : W0[q0]? = some (b, .inr (ci, fv))) (hc : vwCl[ci]? = some qc) (hn : As.length = n) (hl : ls.size = nL) (hst : st0 = As.reverse ++ .ref b :: rest) (hW : (rest.map fun v => v.category).sum ≤ 8) (hdg : decode cc pc = .ok (.invokevirtual index, 3)) (hcs : cells + mc ≤ R.cells ∧ slots + ms ≤ R.slots)
    (kk : ∀ (r : Option Value) (w1 : va_W) (H1 : Heap) (locs1 : List Loc), Pw r w1 → xP γ (xup W0 is w1) H1 → va_D A (xup W0 is w1) → va_S A H0 H1 locs1 → W p l e R s m args below meth c H1 locs1 (cells + mc) (slots + ms) Q (F0 m (pc + 3) ls (r.toList ++ rest))) : W p l e R s m args below meth c H locs cells slots Q (F0 m pc ls st0) := by
  have hPc : xP γ wc H := fun k q hq => by
    have h1 : (is.map (fun i => W0[i]?))[k]? = some (some q) := by rw [hC, List.getElem?_map, hq]; rfl
    rw [List.getElem?_map] at h1
    cases hi : is[k]? with
    | none => rw [hi] at h1; cases h1
    | some i => rw [hi] at h1; exact hP i q (Option.some.inj h1)
  exact xcM (va_runV (As := As) (rest := rest) S (hM H.size) cw ⟨xM_blind, va_recv hK hP hc he, fun U hU hW => ⟨rfl, by rw [hU], by rw [hU]; exact hPc, va_K.moved hW.alike hK, (hD.sub is hnd hC).weaken (fun _ _ _ _ => trivial)⟩⟩ rfl hn hl hst (lv_room hW) hdg hcs) hP hD hS hA hC kk
theorem xSM {H0 : Heap} (S : CallFix p m c cc nL s args Ts own) (hM : xM γ l y ws rm As wc Pw mc ms) (cw : CallB R s args own index y bytes maxL ret ws rm mc ms n ∧ (Cond.static y).before args s = true) (hK : xK γ s) (hP : xP γ W0 H) (hD : va_D A W0) (hS : va_S A H0 H locs) (hA : ∀ q : Nat, H0.size ≤ q → A q) (is : List Nat) (hnd : va_nd is = true) (hC : is.map (fun i => W0[i]?) = wc.map some) (hn : As.length = n) (hl : ls.size = nL) (hst : st0 = As.reverse ++ rest) (hW : (rest.map fun v => v.category).sum ≤ 8) (hdg : decode cc pc = .ok (.invokestatic index, 3)) (hcs : cells + mc ≤ R.cells ∧ slots + ms ≤ R.slots)
    (kk : ∀ (r : Option Value) (w1 : va_W) (H1 : Heap) (locs1 : List Loc), Pw r w1 → xP γ (xup W0 is w1) H1 → va_D A (xup W0 is w1) → va_S A H0 H1 locs1 → W p l e R s m args below meth c H1 locs1 (cells + mc) (slots + ms) Q (F0 m (pc + 3) ls (r.toList ++ rest))) : W p l e R s m args below meth c H locs cells slots Q (F0 m pc ls st0) := by
  have hPc : xP γ wc H := fun k q hq => by
    have h1 : (is.map (fun i => W0[i]?))[k]? = some (some q) := by rw [hC, List.getElem?_map, hq]; rfl
    rw [List.getElem?_map] at h1
    cases hi : is[k]? with
    | none => rw [hi] at h1; cases h1
    | some i => rw [hi] at h1; exact hP i q (Option.some.inj h1)
  exact xcM (va_runS (As := As) (rest := rest) S (hM H.size) cw ⟨xM_blind, fun U hU hW => ⟨rfl, by rw [hU], by rw [hU]; exact hPc, va_K.moved hW.alike hK, (hD.sub is hnd hC).weaken (fun _ _ _ _ => trivial)⟩⟩ rfl hn hl hst (lv_room hW) hdg hcs) hP hD hS hA hC kk
end X
end

-- ===== PART A: goes FIRST, ahead of the names: the tables' words, and 'selects' of the private methods out of them =====
/-- a private method of a class that the tables say can be made, by its rows of tables_1 -/
def lw_okq (q : MethodName × Nat) : Prop := (q.1.cls ≠ "java/lang/invoke/MethodHandle" ∧ q.1.cls ≠ "java/lang/invoke/VarHandle") ∧ Cond.instantiable q.1.cls q.2 ∈ tables_1 ∧ Cond.privateMethod q.1 ∈ tables_1 ∧ Cond.instanceMethod q.1 ∈ tables_1
theorem lw_p0 : lw_okq (⟨"OvenLies$Town", "wipe", "()V"⟩, 12) := ⟨⟨by decide +kernel, by decide +kernel⟩, List.mem_of_getElem? (i := 23) (by decide +kernel), List.mem_of_getElem? (i := 261) (by decide +kernel), List.mem_of_getElem? (i := 262) (by decide +kernel)⟩
theorem lw_p1 : lw_okq (⟨"OvenLies$Table", "wipe", "()I"⟩, 4) := ⟨⟨by decide +kernel, by decide +kernel⟩, List.mem_of_getElem? (i := 29) (by decide +kernel), List.mem_of_getElem? (i := 265) (by decide +kernel), List.mem_of_getElem? (i := 266) (by decide +kernel)⟩
theorem lw_p2 : lw_okq (⟨"OvenLies$Past", "wipe", "()V"⟩, 2) := ⟨⟨by decide +kernel, by decide +kernel⟩, List.mem_of_getElem? (i := 53) (by decide +kernel), List.mem_of_getElem? (i := 269) (by decide +kernel), List.mem_of_getElem? (i := 270) (by decide +kernel)⟩
theorem lw_p3 : lw_okq (⟨"OvenLies", "bad", "()I"⟩, 13) := ⟨⟨by decide +kernel, by decide +kernel⟩, List.mem_of_getElem? (i := 15) (by decide +kernel), List.mem_of_getElem? (i := 280) (by decide +kernel), List.mem_of_getElem? (i := 281) (by decide +kernel)⟩
theorem lw_p4 : lw_okq (⟨"OvenLies", "full", "()I"⟩, 13) := ⟨⟨by decide +kernel, by decide +kernel⟩, List.mem_of_getElem? (i := 15) (by decide +kernel), List.mem_of_getElem? (i := 284) (by decide +kernel), List.mem_of_getElem? (i := 285) (by decide +kernel)⟩
theorem lw_p5 : lw_okq (⟨"OvenLies$Town", "addLie", "(II)I"⟩, 12) := ⟨⟨by decide +kernel, by decide +kernel⟩, List.mem_of_getElem? (i := 23) (by decide +kernel), List.mem_of_getElem? (i := 289) (by decide +kernel), List.mem_of_getElem? (i := 290) (by decide +kernel)⟩
theorem lw_p6 : lw_okq (⟨"OvenLies$Town", "addOven", "(I)I"⟩, 12) := ⟨⟨by decide +kernel, by decide +kernel⟩, List.mem_of_getElem? (i := 23) (by decide +kernel), List.mem_of_getElem? (i := 300) (by decide +kernel), List.mem_of_getElem? (i := 301) (by decide +kernel)⟩
theorem lw_p7 : lw_okq (⟨"OvenLies$Reader", "append", "(I)I"⟩, 6) := ⟨⟨by decide +kernel, by decide +kernel⟩, List.mem_of_getElem? (i := 132) (by decide +kernel), List.mem_of_getElem? (i := 308) (by decide +kernel), List.mem_of_getElem? (i := 309) (by decide +kernel)⟩
theorem lw_p8 : lw_okq (⟨"OvenLies$Reader", "readInto", "(LOvenLies$Town;)I"⟩, 6) := ⟨⟨by decide +kernel, by decide +kernel⟩, List.mem_of_getElem? (i := 132) (by decide +kernel), List.mem_of_getElem? (i := 320) (by decide +kernel), List.mem_of_getElem? (i := 321) (by decide +kernel)⟩
theorem lw_p9 : lw_okq (⟨"OvenLies$Reader", "step", "()V"⟩, 6) := ⟨⟨by decide +kernel, by decide +kernel⟩, List.mem_of_getElem? (i := 132) (by decide +kernel), List.mem_of_getElem? (i := 324) (by decide +kernel), List.mem_of_getElem? (i := 325) (by decide +kernel)⟩
theorem lw_p10 : lw_okq (⟨"OvenLies$Reader", "byteAt", "(I)I"⟩, 6) := ⟨⟨by decide +kernel, by decide +kernel⟩, List.mem_of_getElem? (i := 132) (by decide +kernel), List.mem_of_getElem? (i := 328) (by decide +kernel), List.mem_of_getElem? (i := 329) (by decide +kernel)⟩
theorem lw_p11 : lw_okq (⟨"OvenLies$Reader", "isWord", "(Ljava/lang/String;)Z"⟩, 6) := ⟨⟨by decide +kernel, by decide +kernel⟩, List.mem_of_getElem? (i := 132) (by decide +kernel), List.mem_of_getElem? (i := 339) (by decide +kernel), List.mem_of_getElem? (i := 340) (by decide +kernel)⟩
theorem lw_p12 : lw_okq (⟨"OvenLies$Reader", "fault", "()I"⟩, 6) := ⟨⟨by decide +kernel, by decide +kernel⟩, List.mem_of_getElem? (i := 132) (by decide +kernel), List.mem_of_getElem? (i := 391) (by decide +kernel), List.mem_of_getElem? (i := 392) (by decide +kernel)⟩
theorem lw_p13 : lw_okq (⟨"OvenLies$Reader", "readItem", "(LOvenLies$Town;)Z"⟩, 6) := ⟨⟨by decide +kernel, by decide +kernel⟩, List.mem_of_getElem? (i := 132) (by decide +kernel), List.mem_of_getElem? (i := 395) (by decide +kernel), List.mem_of_getElem? (i := 396) (by decide +kernel)⟩
theorem lw_p14 : lw_okq (⟨"OvenLies$Reader", "readLie", "(LOvenLies$Town;)Z"⟩, 6) := ⟨⟨by decide +kernel, by decide +kernel⟩, List.mem_of_getElem? (i := 132) (by decide +kernel), List.mem_of_getElem? (i := 400) (by decide +kernel), List.mem_of_getElem? (i := 401) (by decide +kernel)⟩
theorem lw_p15 : lw_okq (⟨"OvenLies$Reader", "stepToNumber", "(II)Z"⟩, 6) := ⟨⟨by decide +kernel, by decide +kernel⟩, List.mem_of_getElem? (i := 132) (by decide +kernel), List.mem_of_getElem? (i := 404) (by decide +kernel), List.mem_of_getElem? (i := 405) (by decide +kernel)⟩
def lw_privs_1 : List (MethodName × Nat) := [(⟨"OvenLies$Town", "wipe", "()V"⟩, 12), (⟨"OvenLies$Table", "wipe", "()I"⟩, 4), (⟨"OvenLies$Past", "wipe", "()V"⟩, 2), (⟨"OvenLies", "bad", "()I"⟩, 13), (⟨"OvenLies", "full", "()I"⟩, 13), (⟨"OvenLies$Town", "addLie", "(II)I"⟩, 12), (⟨"OvenLies$Town", "addOven", "(I)I"⟩, 12), (⟨"OvenLies$Reader", "append", "(I)I"⟩, 6), (⟨"OvenLies$Reader", "readInto", "(LOvenLies$Town;)I"⟩, 6), (⟨"OvenLies$Reader", "step", "()V"⟩, 6), (⟨"OvenLies$Reader", "byteAt", "(I)I"⟩, 6), (⟨"OvenLies$Reader", "isWord", "(Ljava/lang/String;)Z"⟩, 6), (⟨"OvenLies$Reader", "fault", "()I"⟩, 6), (⟨"OvenLies$Reader", "readItem", "(LOvenLies$Town;)Z"⟩, 6), (⟨"OvenLies$Reader", "readLie", "(LOvenLies$Town;)Z"⟩, 6), (⟨"OvenLies$Reader", "stepToNumber", "(II)Z"⟩, 6)]
theorem lw_r1 : ∀ q ∈ lw_privs_1, lw_okq q := List.forall_mem_cons.mpr ⟨lw_p0, List.forall_mem_cons.mpr ⟨lw_p1, List.forall_mem_cons.mpr ⟨lw_p2, List.forall_mem_cons.mpr ⟨lw_p3, List.forall_mem_cons.mpr ⟨lw_p4, List.forall_mem_cons.mpr ⟨lw_p5, List.forall_mem_cons.mpr ⟨lw_p6, List.forall_mem_cons.mpr ⟨lw_p7, List.forall_mem_cons.mpr ⟨lw_p8, List.forall_mem_cons.mpr ⟨lw_p9, List.forall_mem_cons.mpr ⟨lw_p10, List.forall_mem_cons.mpr ⟨lw_p11, List.forall_mem_cons.mpr ⟨lw_p12, List.forall_mem_cons.mpr ⟨lw_p13, List.forall_mem_cons.mpr ⟨lw_p14, List.forall_mem_cons.mpr ⟨lw_p15, fun _ h => absurd h List.not_mem_nil⟩⟩⟩⟩⟩⟩⟩⟩⟩⟩⟩⟩⟩⟩⟩⟩
theorem lw_p16 : lw_okq (⟨"OvenLies$Reader", "readOven", "(LOvenLies$Town;)Z"⟩, 6) := ⟨⟨by decide +kernel, by decide +kernel⟩, List.mem_of_getElem? (i := 132) (by decide +kernel), List.mem_of_getElem? (i := 411) (by decide +kernel), List.mem_of_getElem? (i := 412) (by decide +kernel)⟩
theorem lw_p17 : lw_okq (⟨"OvenLies$Reader", "readSaying", "(LOvenLies$Town;)Z"⟩, 6) := ⟨⟨by decide +kernel, by decide +kernel⟩, List.mem_of_getElem? (i := 132) (by decide +kernel), List.mem_of_getElem? (i := 417) (by decide +kernel), List.mem_of_getElem? (i := 418) (by decide +kernel)⟩
theorem lw_p18 : lw_okq (⟨"OvenLies$Town", "sayInto", "(II)V"⟩, 12) := ⟨⟨by decide +kernel, by decide +kernel⟩, List.mem_of_getElem? (i := 23) (by decide +kernel), List.mem_of_getElem? (i := 421) (by decide +kernel), List.mem_of_getElem? (i := 422) (by decide +kernel)⟩
theorem lw_p19 : lw_okq (⟨"OvenLies$Town", "takenNow", "(II)I"⟩, 12) := ⟨⟨by decide +kernel, by decide +kernel⟩, List.mem_of_getElem? (i := 23) (by decide +kernel), List.mem_of_getElem? (i := 428) (by decide +kernel), List.mem_of_getElem? (i := 429) (by decide +kernel)⟩
theorem lw_p20 : lw_okq (⟨"OvenLies$Reader", "readForgetting", "(LOvenLies$Town;)Z"⟩, 6) := ⟨⟨by decide +kernel, by decide +kernel⟩, List.mem_of_getElem? (i := 132) (by decide +kernel), List.mem_of_getElem? (i := 445) (by decide +kernel), List.mem_of_getElem? (i := 446) (by decide +kernel)⟩
theorem lw_p21 : lw_okq (⟨"OvenLies$Reader", "readDays", "(LOvenLies$Town;)Z"⟩, 6) := ⟨⟨by decide +kernel, by decide +kernel⟩, List.mem_of_getElem? (i := 132) (by decide +kernel), List.mem_of_getElem? (i := 451) (by decide +kernel), List.mem_of_getElem? (i := 452) (by decide +kernel)⟩
theorem lw_p22 : lw_okq (⟨"OvenLies$Town", "passDays", "(I)V"⟩, 12) := ⟨⟨by decide +kernel, by decide +kernel⟩, List.mem_of_getElem? (i := 23) (by decide +kernel), List.mem_of_getElem? (i := 455) (by decide +kernel), List.mem_of_getElem? (i := 456) (by decide +kernel)⟩
theorem lw_p23 : lw_okq (⟨"OvenLies$Town", "passDay", "()V"⟩, 12) := ⟨⟨by decide +kernel, by decide +kernel⟩, List.mem_of_getElem? (i := 23) (by decide +kernel), List.mem_of_getElem? (i := 459) (by decide +kernel), List.mem_of_getElem? (i := 460) (by decide +kernel)⟩
theorem lw_p24 : lw_okq (⟨"OvenLies$Town", "copyFrom", "(LOvenLies$Town;)V"⟩, 12) := ⟨⟨by decide +kernel, by decide +kernel⟩, List.mem_of_getElem? (i := 23) (by decide +kernel), List.mem_of_getElem? (i := 466) (by decide +kernel), List.mem_of_getElem? (i := 467) (by decide +kernel)⟩
theorem lw_p25 : lw_okq (⟨"OvenLies$Table", "copyFrom", "(LOvenLies$Table;)V"⟩, 4) := ⟨⟨by decide +kernel, by decide +kernel⟩, List.mem_of_getElem? (i := 29) (by decide +kernel), List.mem_of_getElem? (i := 473) (by decide +kernel), List.mem_of_getElem? (i := 474) (by decide +kernel)⟩
theorem lw_p26 : lw_okq (⟨"OvenLies$Past", "copyFrom", "(LOvenLies$Past;)V"⟩, 2) := ⟨⟨by decide +kernel, by decide +kernel⟩, List.mem_of_getElem? (i := 53) (by decide +kernel), List.mem_of_getElem? (i := 478) (by decide +kernel), List.mem_of_getElem? (i := 479) (by decide +kernel)⟩
theorem lw_p27 : lw_okq (⟨"OvenLies$Past", "remember", "(LOvenLies$Town;)V"⟩, 2) := ⟨⟨by decide +kernel, by decide +kernel⟩, List.mem_of_getElem? (i := 53) (by decide +kernel), List.mem_of_getElem? (i := 488) (by decide +kernel), List.mem_of_getElem? (i := 489) (by decide +kernel)⟩
theorem lw_p28 : lw_okq (⟨"OvenLies$Past", "dropOldest", "()V"⟩, 2) := ⟨⟨by decide +kernel, by decide +kernel⟩, List.mem_of_getElem? (i := 53) (by decide +kernel), List.mem_of_getElem? (i := 492) (by decide +kernel), List.mem_of_getElem? (i := 493) (by decide +kernel)⟩
theorem lw_p29 : lw_okq (⟨"OvenLies$Town", "hotOvens", "()I"⟩, 12) := ⟨⟨by decide +kernel, by decide +kernel⟩, List.mem_of_getElem? (i := 23) (by decide +kernel), List.mem_of_getElem? (i := 499) (by decide +kernel), List.mem_of_getElem? (i := 500) (by decide +kernel)⟩
theorem lw_p30 : lw_okq (⟨"OvenLies$Town", "hasLie", "(I)Z"⟩, 12) := ⟨⟨by decide +kernel, by decide +kernel⟩, List.mem_of_getElem? (i := 23) (by decide +kernel), List.mem_of_getElem? (i := 510) (by decide +kernel), List.mem_of_getElem? (i := 511) (by decide +kernel)⟩
theorem lw_p31 : lw_okq (⟨"OvenLies$Town", "hasOven", "(I)Z"⟩, 12) := ⟨⟨by decide +kernel, by decide +kernel⟩, List.mem_of_getElem? (i := 23) (by decide +kernel), List.mem_of_getElem? (i := 514) (by decide +kernel), List.mem_of_getElem? (i := 515) (by decide +kernel)⟩
def lw_privs_2 : List (MethodName × Nat) := [(⟨"OvenLies$Reader", "readOven", "(LOvenLies$Town;)Z"⟩, 6), (⟨"OvenLies$Reader", "readSaying", "(LOvenLies$Town;)Z"⟩, 6), (⟨"OvenLies$Town", "sayInto", "(II)V"⟩, 12), (⟨"OvenLies$Town", "takenNow", "(II)I"⟩, 12), (⟨"OvenLies$Reader", "readForgetting", "(LOvenLies$Town;)Z"⟩, 6), (⟨"OvenLies$Reader", "readDays", "(LOvenLies$Town;)Z"⟩, 6), (⟨"OvenLies$Town", "passDays", "(I)V"⟩, 12), (⟨"OvenLies$Town", "passDay", "()V"⟩, 12), (⟨"OvenLies$Town", "copyFrom", "(LOvenLies$Town;)V"⟩, 12), (⟨"OvenLies$Table", "copyFrom", "(LOvenLies$Table;)V"⟩, 4), (⟨"OvenLies$Past", "copyFrom", "(LOvenLies$Past;)V"⟩, 2), (⟨"OvenLies$Past", "remember", "(LOvenLies$Town;)V"⟩, 2), (⟨"OvenLies$Past", "dropOldest", "()V"⟩, 2), (⟨"OvenLies$Town", "hotOvens", "()I"⟩, 12), (⟨"OvenLies$Town", "hasLie", "(I)Z"⟩, 12), (⟨"OvenLies$Town", "hasOven", "(I)Z"⟩, 12)]
theorem lw_r2 : ∀ q ∈ lw_privs_2, lw_okq q := List.forall_mem_cons.mpr ⟨lw_p16, List.forall_mem_cons.mpr ⟨lw_p17, List.forall_mem_cons.mpr ⟨lw_p18, List.forall_mem_cons.mpr ⟨lw_p19, List.forall_mem_cons.mpr ⟨lw_p20, List.forall_mem_cons.mpr ⟨lw_p21, List.forall_mem_cons.mpr ⟨lw_p22, List.forall_mem_cons.mpr ⟨lw_p23, List.forall_mem_cons.mpr ⟨lw_p24, List.forall_mem_cons.mpr ⟨lw_p25, List.forall_mem_cons.mpr ⟨lw_p26, List.forall_mem_cons.mpr ⟨lw_p27, List.forall_mem_cons.mpr ⟨lw_p28, List.forall_mem_cons.mpr ⟨lw_p29, List.forall_mem_cons.mpr ⟨lw_p30, List.forall_mem_cons.mpr ⟨lw_p31, fun _ h => absurd h List.not_mem_nil⟩⟩⟩⟩⟩⟩⟩⟩⟩⟩⟩⟩⟩⟩⟩⟩
theorem lw_p32 : lw_okq (⟨"OvenLies", "no", "()I"⟩, 13) := ⟨⟨by decide +kernel, by decide +kernel⟩, List.mem_of_getElem? (i := 15) (by decide +kernel), List.mem_of_getElem? (i := 524) (by decide +kernel), List.mem_of_getElem? (i := 525) (by decide +kernel)⟩
theorem lw_p33 : lw_okq (⟨"OvenLies$Past", "takeBack", "(LOvenLies$Town;)V"⟩, 2) := ⟨⟨by decide +kernel, by decide +kernel⟩, List.mem_of_getElem? (i := 53) (by decide +kernel), List.mem_of_getElem? (i := 533) (by decide +kernel), List.mem_of_getElem? (i := 534) (by decide +kernel)⟩
theorem lw_p34 : lw_okq (⟨"OvenLies$Town", "lightsKnownTo", "(II)I"⟩, 12) := ⟨⟨by decide +kernel, by decide +kernel⟩, List.mem_of_getElem? (i := 23) (by decide +kernel), List.mem_of_getElem? (i := 541) (by decide +kernel), List.mem_of_getElem? (i := 542) (by decide +kernel)⟩
theorem lw_p35 : lw_okq (⟨"OvenLies", "badTen", "()I"⟩, 13) := ⟨⟨by decide +kernel, by decide +kernel⟩, List.mem_of_getElem? (i := 15) (by decide +kernel), List.mem_of_getElem? (i := 568) (by decide +kernel), List.mem_of_getElem? (i := 569) (by decide +kernel)⟩
theorem lw_p36 : lw_okq (⟨"OvenLies$FewSearch", "fewest", "(I)I"⟩, 5) := ⟨⟨by decide +kernel, by decide +kernel⟩, List.mem_of_getElem? (i := 160) (by decide +kernel), List.mem_of_getElem? (i := 572) (by decide +kernel), List.mem_of_getElem? (i := 573) (by decide +kernel)⟩
theorem lw_p37 : lw_okq (⟨"OvenLies$RoundSearch", "search", "()V"⟩, 8) := ⟨⟨by decide +kernel, by decide +kernel⟩, List.mem_of_getElem? (i := 183) (by decide +kernel), List.mem_of_getElem? (i := 592) (by decide +kernel), List.mem_of_getElem? (i := 593) (by decide +kernel)⟩
theorem lw_p38 : lw_okq (⟨"OvenLies$RoundSearch", "hopeAhead", "()V"⟩, 8) := ⟨⟨by decide +kernel, by decide +kernel⟩, List.mem_of_getElem? (i := 183) (by decide +kernel), List.mem_of_getElem? (i := 597) (by decide +kernel), List.mem_of_getElem? (i := 598) (by decide +kernel)⟩
theorem lw_p39 : lw_okq (⟨"OvenLies$RoundSearch", "isHopeless", "(III)Z"⟩, 8) := ⟨⟨by decide +kernel, by decide +kernel⟩, List.mem_of_getElem? (i := 183) (by decide +kernel), List.mem_of_getElem? (i := 610) (by decide +kernel), List.mem_of_getElem? (i := 611) (by decide +kernel)⟩
theorem lw_p40 : lw_okq (⟨"OvenLies", "keepsHot", "(III)Z"⟩, 13) := ⟨⟨by decide +kernel, by decide +kernel⟩, List.mem_of_getElem? (i := 15) (by decide +kernel), List.mem_of_getElem? (i := 621) (by decide +kernel), List.mem_of_getElem? (i := 622) (by decide +kernel)⟩
theorem lw_p41 : lw_okq (⟨"OvenLies$Table", "isFull", "()Z"⟩, 4) := ⟨⟨by decide +kernel, by decide +kernel⟩, List.mem_of_getElem? (i := 29) (by decide +kernel), List.mem_of_getElem? (i := 633) (by decide +kernel), List.mem_of_getElem? (i := 634) (by decide +kernel)⟩
theorem lw_p42 : lw_okq (⟨"OvenLies$Table", "add", "(IIIII)I"⟩, 4) := ⟨⟨by decide +kernel, by decide +kernel⟩, List.mem_of_getElem? (i := 29) (by decide +kernel), List.mem_of_getElem? (i := 637) (by decide +kernel), List.mem_of_getElem? (i := 638) (by decide +kernel)⟩
theorem lw_p43 : lw_okq (⟨"OvenLies", "liesThatFit", "()I"⟩, 13) := ⟨⟨by decide +kernel, by decide +kernel⟩, List.mem_of_getElem? (i := 15) (by decide +kernel), List.mem_of_getElem? (i := 646) (by decide +kernel), List.mem_of_getElem? (i := 647) (by decide +kernel)⟩
theorem lw_p44 : lw_okq (⟨"OvenLies", "fitsSeen", "(II)Z"⟩, 13) := ⟨⟨by decide +kernel, by decide +kernel⟩, List.mem_of_getElem? (i := 15) (by decide +kernel), List.mem_of_getElem? (i := 650) (by decide +kernel), List.mem_of_getElem? (i := 651) (by decide +kernel)⟩
theorem lw_p45 : lw_okq (⟨"OvenLies$Table", "at", "(II)I"⟩, 4) := ⟨⟨by decide +kernel, by decide +kernel⟩, List.mem_of_getElem? (i := 29) (by decide +kernel), List.mem_of_getElem? (i := 654) (by decide +kernel), List.mem_of_getElem? (i := 655) (by decide +kernel)⟩
theorem lw_p46 : lw_okq (⟨"OvenLies", "liesTakenAlike", "(IIII)I"⟩, 13) := ⟨⟨by decide +kernel, by decide +kernel⟩, List.mem_of_getElem? (i := 15) (by decide +kernel), List.mem_of_getElem? (i := 663) (by decide +kernel), List.mem_of_getElem? (i := 664) (by decide +kernel)⟩
theorem lw_p47 : lw_okq (⟨"OvenLies", "lieKindsThatFit", "(I)I"⟩, 13) := ⟨⟨by decide +kernel, by decide +kernel⟩, List.mem_of_getElem? (i := 15) (by decide +kernel), List.mem_of_getElem? (i := 691) (by decide +kernel), List.mem_of_getElem? (i := 692) (by decide +kernel)⟩
def lw_privs_3 : List (MethodName × Nat) := [(⟨"OvenLies", "no", "()I"⟩, 13), (⟨"OvenLies$Past", "takeBack", "(LOvenLies$Town;)V"⟩, 2), (⟨"OvenLies$Town", "lightsKnownTo", "(II)I"⟩, 12), (⟨"OvenLies", "badTen", "()I"⟩, 13), (⟨"OvenLies$FewSearch", "fewest", "(I)I"⟩, 5), (⟨"OvenLies$RoundSearch", "search", "()V"⟩, 8), (⟨"OvenLies$RoundSearch", "hopeAhead", "()V"⟩, 8), (⟨"OvenLies$RoundSearch", "isHopeless", "(III)Z"⟩, 8), (⟨"OvenLies", "keepsHot", "(III)Z"⟩, 13), (⟨"OvenLies$Table", "isFull", "()Z"⟩, 4), (⟨"OvenLies$Table", "add", "(IIIII)I"⟩, 4), (⟨"OvenLies", "liesThatFit", "()I"⟩, 13), (⟨"OvenLies", "fitsSeen", "(II)Z"⟩, 13), (⟨"OvenLies$Table", "at", "(II)I"⟩, 4), (⟨"OvenLies", "liesTakenAlike", "(IIII)I"⟩, 13), (⟨"OvenLies", "lieKindsThatFit", "(I)I"⟩, 13)]
theorem lw_r3 : ∀ q ∈ lw_privs_3, lw_okq q := List.forall_mem_cons.mpr ⟨lw_p32, List.forall_mem_cons.mpr ⟨lw_p33, List.forall_mem_cons.mpr ⟨lw_p34, List.forall_mem_cons.mpr ⟨lw_p35, List.forall_mem_cons.mpr ⟨lw_p36, List.forall_mem_cons.mpr ⟨lw_p37, List.forall_mem_cons.mpr ⟨lw_p38, List.forall_mem_cons.mpr ⟨lw_p39, List.forall_mem_cons.mpr ⟨lw_p40, List.forall_mem_cons.mpr ⟨lw_p41, List.forall_mem_cons.mpr ⟨lw_p42, List.forall_mem_cons.mpr ⟨lw_p43, List.forall_mem_cons.mpr ⟨lw_p44, List.forall_mem_cons.mpr ⟨lw_p45, List.forall_mem_cons.mpr ⟨lw_p46, List.forall_mem_cons.mpr ⟨lw_p47, fun _ h => absurd h List.not_mem_nil⟩⟩⟩⟩⟩⟩⟩⟩⟩⟩⟩⟩⟩⟩⟩⟩
theorem lw_p48 : lw_okq (⟨"OvenLies", "fitsNotes", "(II)Z"⟩, 13) := ⟨⟨by decide +kernel, by decide +kernel⟩, List.mem_of_getElem? (i := 15) (by decide +kernel), List.mem_of_getElem? (i := 695) (by decide +kernel), List.mem_of_getElem? (i := 696) (by decide +kernel)⟩
theorem lw_p49 : lw_okq (⟨"OvenLies", "kindsLitAlike", "(IIII)I"⟩, 13) := ⟨⟨by decide +kernel, by decide +kernel⟩, List.mem_of_getElem? (i := 15) (by decide +kernel), List.mem_of_getElem? (i := 703) (by decide +kernel), List.mem_of_getElem? (i := 704) (by decide +kernel)⟩
theorem lw_p50 : lw_okq (⟨"OvenLies", "ovenKindsThatFit", "(I)I"⟩, 13) := ⟨⟨by decide +kernel, by decide +kernel⟩, List.mem_of_getElem? (i := 15) (by decide +kernel), List.mem_of_getElem? (i := 711) (by decide +kernel), List.mem_of_getElem? (i := 712) (by decide +kernel)⟩
theorem lw_p51 : lw_okq (⟨"OvenLies", "fitsMarks", "(II)Z"⟩, 13) := ⟨⟨by decide +kernel, by decide +kernel⟩, List.mem_of_getElem? (i := 15) (by decide +kernel), List.mem_of_getElem? (i := 715) (by decide +kernel), List.mem_of_getElem? (i := 716) (by decide +kernel)⟩
theorem lw_p52 : lw_okq (⟨"OvenLies", "kindsTakingAlike", "(III)I"⟩, 13) := ⟨⟨by decide +kernel, by decide +kernel⟩, List.mem_of_getElem? (i := 15) (by decide +kernel), List.mem_of_getElem? (i := 723) (by decide +kernel), List.mem_of_getElem? (i := 724) (by decide +kernel)⟩
theorem lw_p53 : lw_okq (⟨"OvenLies", "isBestBeside", "(II)Z"⟩, 13) := ⟨⟨by decide +kernel, by decide +kernel⟩, List.mem_of_getElem? (i := 15) (by decide +kernel), List.mem_of_getElem? (i := 731) (by decide +kernel), List.mem_of_getElem? (i := 732) (by decide +kernel)⟩
theorem lw_p54 : lw_okq (⟨"OvenLies", "gets", "(II)I"⟩, 13) := ⟨⟨by decide +kernel, by decide +kernel⟩, List.mem_of_getElem? (i := 15) (by decide +kernel), List.mem_of_getElem? (i := 735) (by decide +kernel), List.mem_of_getElem? (i := 736) (by decide +kernel)⟩
theorem lw_p55 : lw_okq (⟨"OvenLies", "heatBehind", "(II)I"⟩, 13) := ⟨⟨by decide +kernel, by decide +kernel⟩, List.mem_of_getElem? (i := 15) (by decide +kernel), List.mem_of_getElem? (i := 749) (by decide +kernel), List.mem_of_getElem? (i := 750) (by decide +kernel)⟩
theorem lw_p56 : lw_okq (⟨"OvenLies", "hasImage", "(I)Z"⟩, 13) := ⟨⟨by decide +kernel, by decide +kernel⟩, List.mem_of_getElem? (i := 15) (by decide +kernel), List.mem_of_getElem? (i := 777) (by decide +kernel), List.mem_of_getElem? (i := 778) (by decide +kernel)⟩
theorem lw_p57 : lw_okq (⟨"OvenLies", "countOf", "(I)I"⟩, 13) := ⟨⟨by decide +kernel, by decide +kernel⟩, List.mem_of_getElem? (i := 15) (by decide +kernel), List.mem_of_getElem? (i := 793) (by decide +kernel), List.mem_of_getElem? (i := 794) (by decide +kernel)⟩
theorem lw_p58 : lw_okq (⟨"OvenLies$Town", "heatOfAll", "()I"⟩, 12) := ⟨⟨by decide +kernel, by decide +kernel⟩, List.mem_of_getElem? (i := 23) (by decide +kernel), List.mem_of_getElem? (i := 797) (by decide +kernel), List.mem_of_getElem? (i := 798) (by decide +kernel)⟩
theorem lw_p59 : lw_okq (⟨"OvenLies$Table", "mixInto", "(J)J"⟩, 4) := ⟨⟨by decide +kernel, by decide +kernel⟩, List.mem_of_getElem? (i := 29) (by decide +kernel), List.mem_of_getElem? (i := 807) (by decide +kernel), List.mem_of_getElem? (i := 808) (by decide +kernel)⟩
theorem lw_p60 : lw_okq (⟨"OvenLiesModel", "bad", "()I"⟩, 16) := ⟨⟨by decide +kernel, by decide +kernel⟩, List.mem_of_getElem? (i := 812) (by decide +kernel), List.mem_of_getElem? (i := 878) (by decide +kernel), List.mem_of_getElem? (i := 879) (by decide +kernel)⟩
theorem lw_p61 : lw_okq (⟨"OvenLiesModel", "full", "()I"⟩, 16) := ⟨⟨by decide +kernel, by decide +kernel⟩, List.mem_of_getElem? (i := 812) (by decide +kernel), List.mem_of_getElem? (i := 882) (by decide +kernel), List.mem_of_getElem? (i := 883) (by decide +kernel)⟩
theorem lw_p62 : lw_okq (⟨"OvenLiesModel", "next", "()V"⟩, 16) := ⟨⟨by decide +kernel, by decide +kernel⟩, List.mem_of_getElem? (i := 812) (by decide +kernel), List.mem_of_getElem? (i := 908) (by decide +kernel), List.mem_of_getElem? (i := 909) (by decide +kernel)⟩
theorem lw_p63 : lw_okq (⟨"OvenLiesModel", "byteAt", "(I)I"⟩, 16) := ⟨⟨by decide +kernel, by decide +kernel⟩, List.mem_of_getElem? (i := 812) (by decide +kernel), List.mem_of_getElem? (i := 912) (by decide +kernel), List.mem_of_getElem? (i := 913) (by decide +kernel)⟩
def lw_privs_4 : List (MethodName × Nat) := [(⟨"OvenLies", "fitsNotes", "(II)Z"⟩, 13), (⟨"OvenLies", "kindsLitAlike", "(IIII)I"⟩, 13), (⟨"OvenLies", "ovenKindsThatFit", "(I)I"⟩, 13), (⟨"OvenLies", "fitsMarks", "(II)Z"⟩, 13), (⟨"OvenLies", "kindsTakingAlike", "(III)I"⟩, 13), (⟨"OvenLies", "isBestBeside", "(II)Z"⟩, 13), (⟨"OvenLies", "gets", "(II)I"⟩, 13), (⟨"OvenLies", "heatBehind", "(II)I"⟩, 13), (⟨"OvenLies", "hasImage", "(I)Z"⟩, 13), (⟨"OvenLies", "countOf", "(I)I"⟩, 13), (⟨"OvenLies$Town", "heatOfAll", "()I"⟩, 12), (⟨"OvenLies$Table", "mixInto", "(J)J"⟩, 4), (⟨"OvenLiesModel", "bad", "()I"⟩, 16), (⟨"OvenLiesModel", "full", "()I"⟩, 16), (⟨"OvenLiesModel", "next", "()V"⟩, 16), (⟨"OvenLiesModel", "byteAt", "(I)I"⟩, 16)]
theorem lw_r4 : ∀ q ∈ lw_privs_4, lw_okq q := List.forall_mem_cons.mpr ⟨lw_p48, List.forall_mem_cons.mpr ⟨lw_p49, List.forall_mem_cons.mpr ⟨lw_p50, List.forall_mem_cons.mpr ⟨lw_p51, List.forall_mem_cons.mpr ⟨lw_p52, List.forall_mem_cons.mpr ⟨lw_p53, List.forall_mem_cons.mpr ⟨lw_p54, List.forall_mem_cons.mpr ⟨lw_p55, List.forall_mem_cons.mpr ⟨lw_p56, List.forall_mem_cons.mpr ⟨lw_p57, List.forall_mem_cons.mpr ⟨lw_p58, List.forall_mem_cons.mpr ⟨lw_p59, List.forall_mem_cons.mpr ⟨lw_p60, List.forall_mem_cons.mpr ⟨lw_p61, List.forall_mem_cons.mpr ⟨lw_p62, List.forall_mem_cons.mpr ⟨lw_p63, fun _ h => absurd h List.not_mem_nil⟩⟩⟩⟩⟩⟩⟩⟩⟩⟩⟩⟩⟩⟩⟩⟩
theorem lw_p64 : lw_okq (⟨"OvenLiesModel", "readItem", "(Z)V"⟩, 16) := ⟨⟨by decide +kernel, by decide +kernel⟩, List.mem_of_getElem? (i := 812) (by decide +kernel), List.mem_of_getElem? (i := 916) (by decide +kernel), List.mem_of_getElem? (i := 917) (by decide +kernel)⟩
theorem lw_p65 : lw_okq (⟨"OvenLiesModel", "takesWord", "(Z)V"⟩, 16) := ⟨⟨by decide +kernel, by decide +kernel⟩, List.mem_of_getElem? (i := 812) (by decide +kernel), List.mem_of_getElem? (i := 923) (by decide +kernel), List.mem_of_getElem? (i := 924) (by decide +kernel)⟩
theorem lw_p66 : lw_okq (⟨"OvenLiesModel", "readLie", "()V"⟩, 16) := ⟨⟨by decide +kernel, by decide +kernel⟩, List.mem_of_getElem? (i := 812) (by decide +kernel), List.mem_of_getElem? (i := 927) (by decide +kernel), List.mem_of_getElem? (i := 928) (by decide +kernel)⟩
theorem lw_p67 : lw_okq (⟨"OvenLiesModel", "takesNumber", "(II)I"⟩, 16) := ⟨⟨by decide +kernel, by decide +kernel⟩, List.mem_of_getElem? (i := 812) (by decide +kernel), List.mem_of_getElem? (i := 931) (by decide +kernel), List.mem_of_getElem? (i := 932) (by decide +kernel)⟩
theorem lw_p68 : lw_okq (⟨"OvenLiesModel", "readOven", "()V"⟩, 16) := ⟨⟨by decide +kernel, by decide +kernel⟩, List.mem_of_getElem? (i := 812) (by decide +kernel), List.mem_of_getElem? (i := 935) (by decide +kernel), List.mem_of_getElem? (i := 936) (by decide +kernel)⟩
theorem lw_p69 : lw_okq (⟨"OvenLiesModel", "readSay", "()V"⟩, 16) := ⟨⟨by decide +kernel, by decide +kernel⟩, List.mem_of_getElem? (i := 812) (by decide +kernel), List.mem_of_getElem? (i := 939) (by decide +kernel), List.mem_of_getElem? (i := 940) (by decide +kernel)⟩
theorem lw_p70 : lw_okq (⟨"OvenLiesModel", "readForget", "()V"⟩, 16) := ⟨⟨by decide +kernel, by decide +kernel⟩, List.mem_of_getElem? (i := 812) (by decide +kernel), List.mem_of_getElem? (i := 970) (by decide +kernel), List.mem_of_getElem? (i := 971) (by decide +kernel)⟩
theorem lw_p71 : lw_okq (⟨"OvenLiesModel", "readDays", "()V"⟩, 16) := ⟨⟨by decide +kernel, by decide +kernel⟩, List.mem_of_getElem? (i := 812) (by decide +kernel), List.mem_of_getElem? (i := 974) (by decide +kernel), List.mem_of_getElem? (i := 975) (by decide +kernel)⟩
theorem lw_p72 : lw_okq (⟨"OvenLiesModel", "notes", "()V"⟩, 16) := ⟨⟨by decide +kernel, by decide +kernel⟩, List.mem_of_getElem? (i := 812) (by decide +kernel), List.mem_of_getElem? (i := 988) (by decide +kernel), List.mem_of_getElem? (i := 989) (by decide +kernel)⟩
theorem lw_p73 : lw_okq (⟨"OvenLiesModel", "isLie", "(I)Z"⟩, 16) := ⟨⟨by decide +kernel, by decide +kernel⟩, List.mem_of_getElem? (i := 812) (by decide +kernel), List.mem_of_getElem? (i := 999) (by decide +kernel), List.mem_of_getElem? (i := 1000) (by decide +kernel)⟩
theorem lw_p74 : lw_okq (⟨"OvenLiesModel", "isOven", "(I)Z"⟩, 16) := ⟨⟨by decide +kernel, by decide +kernel⟩, List.mem_of_getElem? (i := 812) (by decide +kernel), List.mem_of_getElem? (i := 1003) (by decide +kernel), List.mem_of_getElem? (i := 1004) (by decide +kernel)⟩
theorem lw_p75 : lw_okq (⟨"OvenLiesModel", "no", "()I"⟩, 16) := ⟨⟨by decide +kernel, by decide +kernel⟩, List.mem_of_getElem? (i := 812) (by decide +kernel), List.mem_of_getElem? (i := 1011) (by decide +kernel), List.mem_of_getElem? (i := 1012) (by decide +kernel)⟩
theorem lw_p76 : lw_okq (⟨"OvenLiesModel", "badRow", "()I"⟩, 16) := ⟨⟨by decide +kernel, by decide +kernel⟩, List.mem_of_getElem? (i := 812) (by decide +kernel), List.mem_of_getElem? (i := 1043) (by decide +kernel), List.mem_of_getElem? (i := 1044) (by decide +kernel)⟩
theorem lw_p77 : lw_okq (⟨"OvenLiesModel", "asItIs", "()V"⟩, 16) := ⟨⟨by decide +kernel, by decide +kernel⟩, List.mem_of_getElem? (i := 812) (by decide +kernel), List.mem_of_getElem? (i := 1050) (by decide +kernel), List.mem_of_getElem? (i := 1051) (by decide +kernel)⟩
theorem lw_p78 : lw_okq (⟨"OvenLiesModel", "lieOf", "(III)I"⟩, 16) := ⟨⟨by decide +kernel, by decide +kernel⟩, List.mem_of_getElem? (i := 812) (by decide +kernel), List.mem_of_getElem? (i := 1054) (by decide +kernel), List.mem_of_getElem? (i := 1055) (by decide +kernel)⟩
theorem lw_p79 : lw_okq (⟨"OvenLiesModel", "rounds", "(I)V"⟩, 16) := ⟨⟨by decide +kernel, by decide +kernel⟩, List.mem_of_getElem? (i := 812) (by decide +kernel), List.mem_of_getElem? (i := 1062) (by decide +kernel), List.mem_of_getElem? (i := 1063) (by decide +kernel)⟩
def lw_privs_5 : List (MethodName × Nat) := [(⟨"OvenLiesModel", "readItem", "(Z)V"⟩, 16), (⟨"OvenLiesModel", "takesWord", "(Z)V"⟩, 16), (⟨"OvenLiesModel", "readLie", "()V"⟩, 16), (⟨"OvenLiesModel", "takesNumber", "(II)I"⟩, 16), (⟨"OvenLiesModel", "readOven", "()V"⟩, 16), (⟨"OvenLiesModel", "readSay", "()V"⟩, 16), (⟨"OvenLiesModel", "readForget", "()V"⟩, 16), (⟨"OvenLiesModel", "readDays", "()V"⟩, 16), (⟨"OvenLiesModel", "notes", "()V"⟩, 16), (⟨"OvenLiesModel", "isLie", "(I)Z"⟩, 16), (⟨"OvenLiesModel", "isOven", "(I)Z"⟩, 16), (⟨"OvenLiesModel", "no", "()I"⟩, 16), (⟨"OvenLiesModel", "badRow", "()I"⟩, 16), (⟨"OvenLiesModel", "asItIs", "()V"⟩, 16), (⟨"OvenLiesModel", "lieOf", "(III)I"⟩, 16), (⟨"OvenLiesModel", "rounds", "(I)V"⟩, 16)]
theorem lw_r5 : ∀ q ∈ lw_privs_5, lw_okq q := List.forall_mem_cons.mpr ⟨lw_p64, List.forall_mem_cons.mpr ⟨lw_p65, List.forall_mem_cons.mpr ⟨lw_p66, List.forall_mem_cons.mpr ⟨lw_p67, List.forall_mem_cons.mpr ⟨lw_p68, List.forall_mem_cons.mpr ⟨lw_p69, List.forall_mem_cons.mpr ⟨lw_p70, List.forall_mem_cons.mpr ⟨lw_p71, List.forall_mem_cons.mpr ⟨lw_p72, List.forall_mem_cons.mpr ⟨lw_p73, List.forall_mem_cons.mpr ⟨lw_p74, List.forall_mem_cons.mpr ⟨lw_p75, List.forall_mem_cons.mpr ⟨lw_p76, List.forall_mem_cons.mpr ⟨lw_p77, List.forall_mem_cons.mpr ⟨lw_p78, List.forall_mem_cons.mpr ⟨lw_p79, fun _ h => absurd h List.not_mem_nil⟩⟩⟩⟩⟩⟩⟩⟩⟩⟩⟩⟩⟩⟩⟩⟩
theorem lw_p80 : lw_okq (⟨"OvenLiesModel", "saidInto", "(II)I"⟩, 16) := ⟨⟨by decide +kernel, by decide +kernel⟩, List.mem_of_getElem? (i := 812) (by decide +kernel), List.mem_of_getElem? (i := 1066) (by decide +kernel), List.mem_of_getElem? (i := 1067) (by decide +kernel)⟩
theorem lw_p81 : lw_okq (⟨"OvenLiesModel", "fitsSeen", "(I)Z"⟩, 16) := ⟨⟨by decide +kernel, by decide +kernel⟩, List.mem_of_getElem? (i := 812) (by decide +kernel), List.mem_of_getElem? (i := 1085) (by decide +kernel), List.mem_of_getElem? (i := 1086) (by decide +kernel)⟩
theorem lw_p82 : lw_okq (⟨"OvenLiesModel", "layTells", "(III)V"⟩, 16) := ⟨⟨by decide +kernel, by decide +kernel⟩, List.mem_of_getElem? (i := 812) (by decide +kernel), List.mem_of_getElem? (i := 1094) (by decide +kernel), List.mem_of_getElem? (i := 1095) (by decide +kernel)⟩
theorem lw_p83 : lw_okq (⟨"OvenLiesModel", "most", "(I)I"⟩, 16) := ⟨⟨by decide +kernel, by decide +kernel⟩, List.mem_of_getElem? (i := 812) (by decide +kernel), List.mem_of_getElem? (i := 1098) (by decide +kernel), List.mem_of_getElem? (i := 1099) (by decide +kernel)⟩
theorem lw_p84 : lw_okq (⟨"OvenLiesModel", "lieKinds", "(I)I"⟩, 16) := ⟨⟨by decide +kernel, by decide +kernel⟩, List.mem_of_getElem? (i := 812) (by decide +kernel), List.mem_of_getElem? (i := 1121) (by decide +kernel), List.mem_of_getElem? (i := 1122) (by decide +kernel)⟩
theorem lw_p85 : lw_okq (⟨"OvenLiesModel", "ovenKinds", "(I)I"⟩, 16) := ⟨⟨by decide +kernel, by decide +kernel⟩, List.mem_of_getElem? (i := 812) (by decide +kernel), List.mem_of_getElem? (i := 1133) (by decide +kernel), List.mem_of_getElem? (i := 1134) (by decide +kernel)⟩
theorem lw_p86 : lw_okq (⟨"OvenLiesModel", "isBest", "(III)Z"⟩, 16) := ⟨⟨by decide +kernel, by decide +kernel⟩, List.mem_of_getElem? (i := 812) (by decide +kernel), List.mem_of_getElem? (i := 1145) (by decide +kernel), List.mem_of_getElem? (i := 1146) (by decide +kernel)⟩
theorem lw_p87 : lw_okq (⟨"OvenLiesModel", "gets", "(III)I"⟩, 16) := ⟨⟨by decide +kernel, by decide +kernel⟩, List.mem_of_getElem? (i := 812) (by decide +kernel), List.mem_of_getElem? (i := 1149) (by decide +kernel), List.mem_of_getElem? (i := 1150) (by decide +kernel)⟩
theorem lw_p88 : lw_okq (⟨"OvenLiesModel", "counted", "(I)I"⟩, 16) := ⟨⟨by decide +kernel, by decide +kernel⟩, List.mem_of_getElem? (i := 812) (by decide +kernel), List.mem_of_getElem? (i := 1193) (by decide +kernel), List.mem_of_getElem? (i := 1194) (by decide +kernel)⟩
theorem lw_p89 : lw_okq (⟨"OvenLiesModel", "digested", "(JII)J"⟩, 16) := ⟨⟨by decide +kernel, by decide +kernel⟩, List.mem_of_getElem? (i := 812) (by decide +kernel), List.mem_of_getElem? (i := 1203) (by decide +kernel), List.mem_of_getElem? (i := 1204) (by decide +kernel)⟩
def lw_privs_6 : List (MethodName × Nat) := [(⟨"OvenLiesModel", "saidInto", "(II)I"⟩, 16), (⟨"OvenLiesModel", "fitsSeen", "(I)Z"⟩, 16), (⟨"OvenLiesModel", "layTells", "(III)V"⟩, 16), (⟨"OvenLiesModel", "most", "(I)I"⟩, 16), (⟨"OvenLiesModel", "lieKinds", "(I)I"⟩, 16), (⟨"OvenLiesModel", "ovenKinds", "(I)I"⟩, 16), (⟨"OvenLiesModel", "isBest", "(III)Z"⟩, 16), (⟨"OvenLiesModel", "gets", "(III)I"⟩, 16), (⟨"OvenLiesModel", "counted", "(I)I"⟩, 16), (⟨"OvenLiesModel", "digested", "(JII)J"⟩, 16)]
theorem lw_r6 : ∀ q ∈ lw_privs_6, lw_okq q := List.forall_mem_cons.mpr ⟨lw_p80, List.forall_mem_cons.mpr ⟨lw_p81, List.forall_mem_cons.mpr ⟨lw_p82, List.forall_mem_cons.mpr ⟨lw_p83, List.forall_mem_cons.mpr ⟨lw_p84, List.forall_mem_cons.mpr ⟨lw_p85, List.forall_mem_cons.mpr ⟨lw_p86, List.forall_mem_cons.mpr ⟨lw_p87, List.forall_mem_cons.mpr ⟨lw_p88, List.forall_mem_cons.mpr ⟨lw_p89, fun _ h => absurd h List.not_mem_nil⟩⟩⟩⟩⟩⟩⟩⟩⟩⟩
def lw_privs : List (MethodName × Nat) := lw_privs_1 ++ (lw_privs_2 ++ (lw_privs_3 ++ (lw_privs_4 ++ (lw_privs_5 ++ (lw_privs_6)))))
def lw_tbl : List Cond := k2_sels lw_privs ++ tables_1
theorem lw_privs_ok : ∀ q ∈ lw_privs, lw_okq q := by
  show ∀ q ∈ lw_privs_1 ++ (lw_privs_2 ++ (lw_privs_3 ++ (lw_privs_4 ++ (lw_privs_5 ++ (lw_privs_6))))), lw_okq q
  exact List.forall_mem_append.mpr ⟨lw_r1, List.forall_mem_append.mpr ⟨lw_r2, List.forall_mem_append.mpr ⟨lw_r3, List.forall_mem_append.mpr ⟨lw_r4, List.forall_mem_append.mpr ⟨lw_r5, lw_r6⟩⟩⟩⟩⟩
def RX0 : String := "OvenLies$FewSearch"
def TX0 : u_T := fun k => match k with
  | 0 => ("OvenLies$FewSearch", "town", "LOvenLies$Town;", true)
  | 1 => ("OvenLies$FewSearch", "row", "[I", true)
  | 2 => ("OvenLies$FewSearch", "known", "[I", true)
  | 3 => ("OvenLies$FewSearch", "ovenKind", "I", false)
  | _ => ("OvenLies$FewSearch", "mostTaken", "I", false)
def tyX0 : Nat → FieldType := fun k => match k with
  | 0 => .object "OvenLies$Town"
  | 1 => .array .int
  | 2 => .array .int
  | 3 => .int
  | _ => .int
abbrev wsX00 : List Cond := u_ws RX0 TX0 5
theorem nmX0 : ∀ a, a < 5 → ∀ b, b < 5 → a ≠ b → (TX0 a).2.1 ≠ (TX0 b).2.1 := by decide +kernel
theorem tyX0_ok : ∀ k, k < 5 → parseFieldDescriptor (TX0 k).2.2.1 = some (tyX0 k) := by decide +kernel
abbrev cX0_init : ByteArray := prog_2_method_1_code
def yX0_init : MethodName := ⟨RX0, "<init>", "(LOvenLies$Town;)V"⟩
abbrev cX0_fewest : ByteArray := prog_2_method_2_code
def yX0_fewest : MethodName := ⟨RX0, "fewest", "(I)I"⟩
abbrev cX0_reaches : ByteArray := prog_2_method_3_code
def yX0_reaches : MethodName := ⟨RX0, "reaches", "(LOvenLies$FewSearch;III)Z"⟩
def RX1 : String := "OvenLies$Past"
def TX1 : u_T := fun k => match k with
  | 0 => ("OvenLies$Past", "cells", "[I", true)
  | _ => ("OvenLies$Past", "size", "I", false)
def tyX1 : Nat → FieldType := fun k => match k with
  | 0 => .array .int
  | _ => .int
abbrev wsX10 : List Cond := u_ws RX1 TX1 2
theorem nmX1 : ∀ a, a < 2 → ∀ b, b < 2 → a ≠ b → (TX1 a).2.1 ≠ (TX1 b).2.1 := by decide +kernel
theorem tyX1_ok : ∀ k, k < 2 → parseFieldDescriptor (TX1 k).2.2.1 = some (tyX1 k) := by decide +kernel
abbrev cX1_init : ByteArray := prog_3_method_1_code
def yX1_init : MethodName := ⟨RX1, "<init>", "()V"⟩
abbrev cX1_wipe : ByteArray := prog_3_method_2_code
def yX1_wipe : MethodName := ⟨RX1, "wipe", "()V"⟩
abbrev cX1_copyFrom : ByteArray := prog_3_method_3_code
def yX1_copyFrom : MethodName := ⟨RX1, "copyFrom", "(LOvenLies$Past;)V"⟩
abbrev cX1_remember : ByteArray := prog_3_method_4_code
def yX1_remember : MethodName := ⟨RX1, "remember", "(LOvenLies$Town;)V"⟩
abbrev cX1_dropOldest : ByteArray := prog_3_method_5_code
def yX1_dropOldest : MethodName := ⟨RX1, "dropOldest", "()V"⟩
abbrev cX1_takeBack : ByteArray := prog_3_method_6_code
def yX1_takeBack : MethodName := ⟨RX1, "takeBack", "(LOvenLies$Town;)V"⟩
def RX2 : String := "OvenLies$Reader"
def TX2 : u_T := fun k => match k with
  | 0 => ("OvenLies$Reader", "bytes", "[C", true)
  | 1 => ("OvenLies$Reader", "length", "I", false)
  | 2 => ("OvenLies$Reader", "place", "I", false)
  | 3 => ("OvenLies$Reader", "start", "I", false)
  | 4 => ("OvenLies$Reader", "token", "I", false)
  | _ => ("OvenLies$Reader", "value", "I", false)
def tyX2 : Nat → FieldType := fun k => match k with
  | 0 => .array .char
  | 1 => .int
  | 2 => .int
  | 3 => .int
  | 4 => .int
  | _ => .int
abbrev wsX20 : List Cond := u_ws RX2 TX2 6
theorem nmX2 : ∀ a, a < 6 → ∀ b, b < 6 → a ≠ b → (TX2 a).2.1 ≠ (TX2 b).2.1 := by decide +kernel
theorem tyX2_ok : ∀ k, k < 6 → parseFieldDescriptor (TX2 k).2.2.1 = some (tyX2 k) := by decide +kernel
abbrev cX2_init : ByteArray := prog_4_method_1_code
def yX2_init : MethodName := ⟨RX2, "<init>", "()V"⟩
abbrev cX2_append : ByteArray := prog_4_method_2_code
def yX2_append : MethodName := ⟨RX2, "append", "(I)I"⟩
abbrev cX2_readInto : ByteArray := prog_4_method_3_code
def yX2_readInto : MethodName := ⟨RX2, "readInto", "(LOvenLies$Town;)I"⟩
abbrev cX2_fault : ByteArray := prog_4_method_4_code
def yX2_fault : MethodName := ⟨RX2, "fault", "()I"⟩
abbrev cX2_readItem : ByteArray := prog_4_method_5_code
def yX2_readItem : MethodName := ⟨RX2, "readItem", "(LOvenLies$Town;)Z"⟩
abbrev cX2_readLie : ByteArray := prog_4_method_6_code
def yX2_readLie : MethodName := ⟨RX2, "readLie", "(LOvenLies$Town;)Z"⟩
abbrev cX2_readOven : ByteArray := prog_4_method_7_code
def yX2_readOven : MethodName := ⟨RX2, "readOven", "(LOvenLies$Town;)Z"⟩
abbrev cX2_readSaying : ByteArray := prog_4_method_8_code
def yX2_readSaying : MethodName := ⟨RX2, "readSaying", "(LOvenLies$Town;)Z"⟩
abbrev cX2_readForgetting : ByteArray := prog_4_method_9_code
def yX2_readForgetting : MethodName := ⟨RX2, "readForgetting", "(LOvenLies$Town;)Z"⟩
abbrev cX2_readDays : ByteArray := prog_4_method_10_code
def yX2_readDays : MethodName := ⟨RX2, "readDays", "(LOvenLies$Town;)Z"⟩
abbrev cX2_stepToNumber : ByteArray := prog_4_method_11_code
def yX2_stepToNumber : MethodName := ⟨RX2, "stepToNumber", "(II)Z"⟩
abbrev cX2_step : ByteArray := prog_4_method_12_code
def yX2_step : MethodName := ⟨RX2, "step", "()V"⟩
abbrev cX2_byteAt : ByteArray := prog_4_method_13_code
def yX2_byteAt : MethodName := ⟨RX2, "byteAt", "(I)I"⟩
abbrev cX2_isLetter : ByteArray := prog_4_method_14_code
def yX2_isLetter : MethodName := ⟨RX2, "isLetter", "(I)Z"⟩
abbrev cX2_isFigure : ByteArray := prog_4_method_15_code
def yX2_isFigure : MethodName := ⟨RX2, "isFigure", "(I)Z"⟩
abbrev cX2_isWord : ByteArray := prog_4_method_16_code
def yX2_isWord : MethodName := ⟨RX2, "isWord", "(Ljava/lang/String;)Z"⟩
def RX3 : String := "OvenLies$RoundSearch"
def TX3 : u_T := fun k => match k with
  | 0 => ("OvenLies$RoundSearch", "town", "LOvenLies$Town;", true)
  | 1 => ("OvenLies$RoundSearch", "way", "[I", true)
  | 2 => ("OvenLies$RoundSearch", "best", "[I", true)
  | 3 => ("OvenLies$RoundSearch", "known", "[I", true)
  | 4 => ("OvenLies$RoundSearch", "hotAhead", "[I", true)
  | 5 => ("OvenLies$RoundSearch", "heatAhead", "[I", true)
  | 6 => ("OvenLies$RoundSearch", "bestHot", "I", false)
  | _ => ("OvenLies$RoundSearch", "bestHeat", "I", false)
def tyX3 : Nat → FieldType := fun k => match k with
  | 0 => .object "OvenLies$Town"
  | 1 => .array .int
  | 2 => .array .int
  | 3 => .array .int
  | 4 => .array .int
  | 5 => .array .int
  | 6 => .int
  | _ => .int
abbrev wsX30 : List Cond := u_ws RX3 TX3 8
theorem nmX3 : ∀ a, a < 8 → ∀ b, b < 8 → a ≠ b → (TX3 a).2.1 ≠ (TX3 b).2.1 := by decide +kernel
theorem tyX3_ok : ∀ k, k < 8 → parseFieldDescriptor (TX3 k).2.2.1 = some (tyX3 k) := by decide +kernel
abbrev cX3_init : ByteArray := prog_5_method_1_code
def yX3_init : MethodName := ⟨RX3, "<init>", "(LOvenLies$Town;)V"⟩
abbrev cX3_search : ByteArray := prog_5_method_2_code
def yX3_search : MethodName := ⟨RX3, "search", "()V"⟩
abbrev cX3_hopeAhead : ByteArray := prog_5_method_3_code
def yX3_hopeAhead : MethodName := ⟨RX3, "hopeAhead", "()V"⟩
abbrev cX3_isHopeless : ByteArray := prog_5_method_4_code
def yX3_isHopeless : MethodName := ⟨RX3, "isHopeless", "(III)Z"⟩
abbrev cX3_place : ByteArray := prog_5_method_5_code
def yX3_place : MethodName := ⟨RX3, "place", "(LOvenLies$RoundSearch;III)V"⟩
def RX4 : String := "OvenLies$Table"
def TX4 : u_T := fun k => match k with
  | 0 => ("OvenLies$Table", "most", "I", true)
  | 1 => ("OvenLies$Table", "width", "I", true)
  | 2 => ("OvenLies$Table", "cells", "[I", true)
  | _ => ("OvenLies$Table", "size", "I", false)
def tyX4 : Nat → FieldType := fun k => match k with
  | 0 => .int
  | 1 => .int
  | 2 => .array .int
  | _ => .int
abbrev wsX40 : List Cond := u_ws RX4 TX4 4
theorem nmX4 : ∀ a, a < 4 → ∀ b, b < 4 → a ≠ b → (TX4 a).2.1 ≠ (TX4 b).2.1 := by decide +kernel
theorem tyX4_ok : ∀ k, k < 4 → parseFieldDescriptor (TX4 k).2.2.1 = some (tyX4 k) := by decide +kernel
abbrev cX4_init : ByteArray := prog_6_method_1_code
def yX4_init : MethodName := ⟨RX4, "<init>", "(II)V"⟩
abbrev cX4_isFull : ByteArray := prog_6_method_2_code
def yX4_isFull : MethodName := ⟨RX4, "isFull", "()Z"⟩
abbrev cX4_add : ByteArray := prog_6_method_3_code
def yX4_add : MethodName := ⟨RX4, "add", "(IIIII)I"⟩
abbrev cX4_at : ByteArray := prog_6_method_4_code
def yX4_at : MethodName := ⟨RX4, "at", "(II)I"⟩
abbrev cX4_wipe : ByteArray := prog_6_method_5_code
def yX4_wipe : MethodName := ⟨RX4, "wipe", "()I"⟩
abbrev cX4_copyFrom : ByteArray := prog_6_method_6_code
def yX4_copyFrom : MethodName := ⟨RX4, "copyFrom", "(LOvenLies$Table;)V"⟩
abbrev cX4_mixInto : ByteArray := prog_6_method_7_code
def yX4_mixInto : MethodName := ⟨RX4, "mixInto", "(J)J"⟩
def RX5 : String := "OvenLies$Town"
def TX5 : u_T := fun k => match k with
  | 0 => ("OvenLies$Town", "lies", "I", false)
  | 1 => ("OvenLies$Town", "ovens", "I", false)
  | 2 => ("OvenLies$Town", "day", "I", false)
  | 3 => ("OvenLies$Town", "lieKind", "[I", true)
  | 4 => ("OvenLies$Town", "untruth", "[I", true)
  | 5 => ("OvenLies$Town", "known", "[I", true)
  | 6 => ("OvenLies$Town", "ovenKind", "[I", true)
  | 7 => ("OvenLies$Town", "heat", "[I", true)
  | 8 => ("OvenLies$Town", "seenOnes", "LOvenLies$Table;", true)
  | 9 => ("OvenLies$Town", "notes", "LOvenLies$Table;", true)
  | 10 => ("OvenLies$Town", "marks", "LOvenLies$Table;", true)
  | _ => ("OvenLies$Town", "past", "LOvenLies$Past;", true)
def tyX5 : Nat → FieldType := fun k => match k with
  | 0 => .int
  | 1 => .int
  | 2 => .int
  | 3 => .array .int
  | 4 => .array .int
  | 5 => .array .int
  | 6 => .array .int
  | 7 => .array .int
  | 8 => .object "OvenLies$Table"
  | 9 => .object "OvenLies$Table"
  | 10 => .object "OvenLies$Table"
  | _ => .object "OvenLies$Past"
abbrev wsX50 : List Cond := u_ws RX5 TX5 12
theorem nmX5 : ∀ a, a < 12 → ∀ b, b < 12 → a ≠ b → (TX5 a).2.1 ≠ (TX5 b).2.1 := by decide +kernel
theorem tyX5_ok : ∀ k, k < 12 → parseFieldDescriptor (TX5 k).2.2.1 = some (tyX5 k) := by decide +kernel
abbrev cX5_init : ByteArray := prog_7_method_1_code
def yX5_init : MethodName := ⟨RX5, "<init>", "()V"⟩
abbrev cX5_wipe : ByteArray := prog_7_method_2_code
def yX5_wipe : MethodName := ⟨RX5, "wipe", "()V"⟩
abbrev cX5_copyFrom : ByteArray := prog_7_method_3_code
def yX5_copyFrom : MethodName := ⟨RX5, "copyFrom", "(LOvenLies$Town;)V"⟩
abbrev cX5_hasLie : ByteArray := prog_7_method_4_code
def yX5_hasLie : MethodName := ⟨RX5, "hasLie", "(I)Z"⟩
abbrev cX5_hasOven : ByteArray := prog_7_method_5_code
def yX5_hasOven : MethodName := ⟨RX5, "hasOven", "(I)Z"⟩
abbrev cX5_addLie : ByteArray := prog_7_method_6_code
def yX5_addLie : MethodName := ⟨RX5, "addLie", "(II)I"⟩
abbrev cX5_addOven : ByteArray := prog_7_method_7_code
def yX5_addOven : MethodName := ⟨RX5, "addOven", "(I)I"⟩
abbrev cX5_lightsKnownTo : ByteArray := prog_7_method_8_code
def yX5_lightsKnownTo : MethodName := ⟨RX5, "lightsKnownTo", "(II)I"⟩
abbrev cX5_takenNow : ByteArray := prog_7_method_9_code
def yX5_takenNow : MethodName := ⟨RX5, "takenNow", "(II)I"⟩
abbrev cX5_sayInto : ByteArray := prog_7_method_10_code
def yX5_sayInto : MethodName := ⟨RX5, "sayInto", "(II)V"⟩
abbrev cX5_passDay : ByteArray := prog_7_method_11_code
def yX5_passDay : MethodName := ⟨RX5, "passDay", "()V"⟩
abbrev cX5_passDays : ByteArray := prog_7_method_12_code
def yX5_passDays : MethodName := ⟨RX5, "passDays", "(I)V"⟩
abbrev cX5_hotOvens : ByteArray := prog_7_method_13_code
def yX5_hotOvens : MethodName := ⟨RX5, "hotOvens", "()I"⟩
abbrev cX5_heatOfAll : ByteArray := prog_7_method_14_code
def yX5_heatOfAll : MethodName := ⟨RX5, "heatOfAll", "()I"⟩
def RX6 : String := "OvenLies"
def TX6 : u_T := fun k => match k with
  | 0 => ("OvenLies", "now", "LOvenLies$Town;", true)
  | 1 => ("OvenLies", "spare", "LOvenLies$Town;", true)
  | 2 => ("OvenLies", "images", "[LOvenLies$Town;", true)
  | 3 => ("OvenLies", "kept", "[Z", true)
  | 4 => ("OvenLies", "reader", "LOvenLies$Reader;", true)
  | 5 => ("OvenLies", "fewSearch", "LOvenLies$FewSearch;", true)
  | 6 => ("OvenLies", "roundSearch", "LOvenLies$RoundSearch;", true)
  | 7 => ("OvenLies", "answers", "[I", true)
  | 8 => ("OvenLies", "above", "J", false)
  | 9 => ("OvenLies", "below", "J", false)
  | 10 => ("OvenLies", "badCalls", "I", false)
  | 11 => ("OvenLies", "noCalls", "I", false)
  | _ => ("OvenLies", "fullCalls", "I", false)
def tyX6 : Nat → FieldType := fun k => match k with
  | 0 => .object "OvenLies$Town"
  | 1 => .object "OvenLies$Town"
  | 2 => .array (.object "OvenLies$Town")
  | 3 => .array .boolean
  | 4 => .object "OvenLies$Reader"
  | 5 => .object "OvenLies$FewSearch"
  | 6 => .object "OvenLies$RoundSearch"
  | 7 => .array .int
  | 8 => .long
  | 9 => .long
  | 10 => .int
  | 11 => .int
  | _ => .int
abbrev wsX60 : List Cond := u_ws RX6 TX6 13
theorem nmX6 : ∀ a, a < 13 → ∀ b, b < 13 → a ≠ b → (TX6 a).2.1 ≠ (TX6 b).2.1 := by decide +kernel
theorem tyX6_ok : ∀ k, k < 13 → parseFieldDescriptor (TX6 k).2.2.1 = some (tyX6 k) := by decide +kernel
abbrev cX6_init : ByteArray := prog_1_method_1_code
def yX6_init : MethodName := ⟨RX6, "<init>", "()V"⟩
abbrev cX6_town : ByteArray := prog_1_method_2_code
def yX6_town : MethodName := ⟨RX6, "town", "()I"⟩
abbrev cX6_lie : ByteArray := prog_1_method_3_code
def yX6_lie : MethodName := ⟨RX6, "lie", "(II)I"⟩
abbrev cX6_oven : ByteArray := prog_1_method_4_code
def yX6_oven : MethodName := ⟨RX6, "oven", "(I)I"⟩
abbrev cX6_type : ByteArray := prog_1_method_5_code
def yX6_type : MethodName := ⟨RX6, "type", "(I)I"⟩
abbrev cX6_clear : ByteArray := prog_1_method_6_code
def yX6_clear : MethodName := ⟨RX6, "clear", "()I"⟩
abbrev cX6_read : ByteArray := prog_1_method_7_code
def yX6_read : MethodName := ⟨RX6, "read", "()I"⟩
abbrev cX6_days : ByteArray := prog_1_method_8_code
def yX6_days : MethodName := ⟨RX6, "days", "(I)I"⟩
abbrev cX6_says : ByteArray := prog_1_method_9_code
def yX6_says : MethodName := ⟨RX6, "says", "(II)I"⟩
abbrev cX6_forgets : ByteArray := prog_1_method_10_code
def yX6_forgets : MethodName := ⟨RX6, "forgets", "(I)I"⟩
abbrev cX6_undo : ByteArray := prog_1_method_11_code
def yX6_undo : MethodName := ⟨RX6, "undo", "()I"⟩
abbrev cX6_of : ByteArray := prog_1_method_12_code
def yX6_of : MethodName := ⟨RX6, "of", "(II)I"⟩
abbrev cX6_about : ByteArray := prog_1_method_13_code
def yX6_about : MethodName := ⟨RX6, "about", "(II)I"⟩
abbrev cX6_takes : ByteArray := prog_1_method_14_code
def yX6_takes : MethodName := ⟨RX6, "takes", "(II)I"⟩
abbrev cX6_then : ByteArray := prog_1_method_15_code
def yX6_then : MethodName := ⟨RX6, "then", "(II)I"⟩
abbrev cX6_cold : ByteArray := prog_1_method_16_code
def yX6_cold : MethodName := ⟨RX6, "cold", "(I)I"⟩
abbrev cX6_few : ByteArray := prog_1_method_17_code
def yX6_few : MethodName := ⟨RX6, "few", "(II)I"⟩
abbrev cX6_round : ByteArray := prog_1_method_18_code
def yX6_round : MethodName := ⟨RX6, "round", "(I)I"⟩
abbrev cX6_keep : ByteArray := prog_1_method_19_code
def yX6_keep : MethodName := ⟨RX6, "keep", "(II)I"⟩
abbrev cX6_seen : ByteArray := prog_1_method_20_code
def yX6_seen : MethodName := ⟨RX6, "seen", "(IIIII)I"⟩
abbrev cX6_which : ByteArray := prog_1_method_21_code
def yX6_which : MethodName := ⟨RX6, "which", "()I"⟩
abbrev cX6_tell : ByteArray := prog_1_method_22_code
def yX6_tell : MethodName := ⟨RX6, "tell", "(I)I"⟩
abbrev cX6_note : ByteArray := prog_1_method_23_code
def yX6_note : MethodName := ⟨RX6, "note", "(IIIII)I"⟩
abbrev cX6_mark : ByteArray := prog_1_method_24_code
def yX6_mark : MethodName := ⟨RX6, "mark", "(IIII)I"⟩
abbrev cX6_forget : ByteArray := prog_1_method_25_code
def yX6_forget : MethodName := ⟨RX6, "forget", "(I)I"⟩
abbrev cX6_is : ByteArray := prog_1_method_26_code
def yX6_is : MethodName := ⟨RX6, "is", "(I)I"⟩
abbrev cX6_look : ByteArray := prog_1_method_27_code
def yX6_look : MethodName := ⟨RX6, "look", "(I)I"⟩
abbrev cX6_kinds : ByteArray := prog_1_method_28_code
def yX6_kinds : MethodName := ⟨RX6, "kinds", "(I)I"⟩
abbrev cX6_ask : ByteArray := prog_1_method_29_code
def yX6_ask : MethodName := ⟨RX6, "ask", "(I)I"⟩
abbrev cX6_arch : ByteArray := prog_1_method_30_code
def yX6_arch : MethodName := ⟨RX6, "arch", "(II)I"⟩
abbrev cX6_trues : ByteArray := prog_1_method_31_code
def yX6_trues : MethodName := ⟨RX6, "trues", "(III)I"⟩
abbrev cX6_years : ByteArray := prog_1_method_32_code
def yX6_years : MethodName := ⟨RX6, "years", "(II)I"⟩
abbrev cX6_part : ByteArray := prog_1_method_33_code
def yX6_part : MethodName := ⟨RX6, "part", "(I)J"⟩
abbrev cX6_image : ByteArray := prog_1_method_34_code
def yX6_image : MethodName := ⟨RX6, "image", "(I)I"⟩
abbrev cX6_from : ByteArray := prog_1_method_35_code
def yX6_from : MethodName := ⟨RX6, "from", "(I)I"⟩
abbrev cX6_status : ByteArray := prog_1_method_36_code
def yX6_status : MethodName := ⟨RX6, "status", "(I)I"⟩
abbrev cX6_count : ByteArray := prog_1_method_37_code
def yX6_count : MethodName := ⟨RX6, "count", "(I)I"⟩
abbrev cX6_digest : ByteArray := prog_1_method_38_code
def yX6_digest : MethodName := ⟨RX6, "digest", "()J"⟩
abbrev cX6_bad : ByteArray := prog_1_method_39_code
def yX6_bad : MethodName := ⟨RX6, "bad", "()I"⟩
abbrev cX6_badTen : ByteArray := prog_1_method_40_code
def yX6_badTen : MethodName := ⟨RX6, "badTen", "()I"⟩
abbrev cX6_no : ByteArray := prog_1_method_41_code
def yX6_no : MethodName := ⟨RX6, "no", "()I"⟩
abbrev cX6_full : ByteArray := prog_1_method_42_code
def yX6_full : MethodName := ⟨RX6, "full", "()I"⟩
abbrev cX6_within : ByteArray := prog_1_method_43_code
def yX6_within : MethodName := ⟨RX6, "within", "(III)Z"⟩
abbrev cX6_bitsBelow : ByteArray := prog_1_method_44_code
def yX6_bitsBelow : MethodName := ⟨RX6, "bitsBelow", "(I)I"⟩
abbrev cX6_hasBit : ByteArray := prog_1_method_45_code
def yX6_hasBit : MethodName := ⟨RX6, "hasBit", "(II)Z"⟩
abbrev cX6_cell : ByteArray := prog_1_method_46_code
def yX6_cell : MethodName := ⟨RX6, "cell", "([II)I"⟩
abbrev cX6_put : ByteArray := prog_1_method_47_code
def yX6_put : MethodName := ⟨RX6, "put", "([III)V"⟩
abbrev cX6_copyRow : ByteArray := prog_1_method_48_code
def yX6_copyRow : MethodName := ⟨RX6, "copyRow", "([I[I)V"⟩
abbrev cX6_commonDivisor : ByteArray := prog_1_method_49_code
def yX6_commonDivisor : MethodName := ⟨RX6, "commonDivisor", "(JJ)J"⟩
abbrev cX6_mostAlike : ByteArray := prog_1_method_50_code
def yX6_mostAlike : MethodName := ⟨RX6, "mostAlike", "([II)I"⟩
abbrev cX6_lights : ByteArray := prog_1_method_51_code
def yX6_lights : MethodName := ⟨RX6, "lights", "(IIII)I"⟩
abbrev cX6_taken : ByteArray := prog_1_method_52_code
def yX6_taken : MethodName := ⟨RX6, "taken", "(III)I"⟩
abbrev cX6_heated : ByteArray := prog_1_method_53_code
def yX6_heated : MethodName := ⟨RX6, "heated", "(II)I"⟩
abbrev cX6_cooled : ByteArray := prog_1_method_54_code
def yX6_cooled : MethodName := ⟨RX6, "cooled", "(II)I"⟩
abbrev cX6_hotOne : ByteArray := prog_1_method_55_code
def yX6_hotOne : MethodName := ⟨RX6, "hotOne", "(I)I"⟩
abbrev cX6_knownToOneMore : ByteArray := prog_1_method_56_code
def yX6_knownToOneMore : MethodName := ⟨RX6, "knownToOneMore", "(I)I"⟩
abbrev cX6_keepsHot : ByteArray := prog_1_method_57_code
def yX6_keepsHot : MethodName := ⟨RX6, "keepsHot", "(III)Z"⟩
abbrev cX6_liesThatFit : ByteArray := prog_1_method_58_code
def yX6_liesThatFit : MethodName := ⟨RX6, "liesThatFit", "()I"⟩
abbrev cX6_fitsSeen : ByteArray := prog_1_method_59_code
def yX6_fitsSeen : MethodName := ⟨RX6, "fitsSeen", "(II)Z"⟩
abbrev cX6_lieKindsThatFit : ByteArray := prog_1_method_60_code
def yX6_lieKindsThatFit : MethodName := ⟨RX6, "lieKindsThatFit", "(I)I"⟩
abbrev cX6_fitsNotes : ByteArray := prog_1_method_61_code
def yX6_fitsNotes : MethodName := ⟨RX6, "fitsNotes", "(II)Z"⟩
abbrev cX6_ovenKindsThatFit : ByteArray := prog_1_method_62_code
def yX6_ovenKindsThatFit : MethodName := ⟨RX6, "ovenKindsThatFit", "(I)I"⟩
abbrev cX6_fitsMarks : ByteArray := prog_1_method_63_code
def yX6_fitsMarks : MethodName := ⟨RX6, "fitsMarks", "(II)Z"⟩
abbrev cX6_liesTakenAlike : ByteArray := prog_1_method_64_code
def yX6_liesTakenAlike : MethodName := ⟨RX6, "liesTakenAlike", "(IIII)I"⟩
abbrev cX6_kindsLitAlike : ByteArray := prog_1_method_65_code
def yX6_kindsLitAlike : MethodName := ⟨RX6, "kindsLitAlike", "(IIII)I"⟩
abbrev cX6_kindsTakingAlike : ByteArray := prog_1_method_66_code
def yX6_kindsTakingAlike : MethodName := ⟨RX6, "kindsTakingAlike", "(III)I"⟩
abbrev cX6_gets : ByteArray := prog_1_method_67_code
def yX6_gets : MethodName := ⟨RX6, "gets", "(II)I"⟩
abbrev cX6_isBestBeside : ByteArray := prog_1_method_68_code
def yX6_isBestBeside : MethodName := ⟨RX6, "isBestBeside", "(II)Z"⟩
abbrev cX6_chanceOf : ByteArray := prog_1_method_69_code
def yX6_chanceOf : MethodName := ⟨RX6, "chanceOf", "(III)J"⟩
abbrev cX6_heatBehind : ByteArray := prog_1_method_70_code
def yX6_heatBehind : MethodName := ⟨RX6, "heatBehind", "(II)I"⟩
abbrev cX6_hasImage : ByteArray := prog_1_method_71_code
def yX6_hasImage : MethodName := ⟨RX6, "hasImage", "(I)Z"⟩
abbrev cX6_countOf : ByteArray := prog_1_method_72_code
def yX6_countOf : MethodName := ⟨RX6, "countOf", "(I)I"⟩
def RX7 : String := "OvenLiesModel"
def TX7 : u_T := fun k => match k with
  | 0 => ("OvenLiesModel", "st", "[I", true)
  | 1 => ("OvenLiesModel", "read", "[I", true)
  | 2 => ("OvenLiesModel", "now", "[I", true)
  | 3 => ("OvenLiesModel", "images", "[I", true)
  | 4 => ("OvenLiesModel", "isKept", "[Z", true)
  | 5 => ("OvenLiesModel", "refusals", "[I", true)
  | 6 => ("OvenLiesModel", "above", "J", false)
  | 7 => ("OvenLiesModel", "below", "J", false)
  | 8 => ("OvenLiesModel", "text", "[I", true)
  | 9 => ("OvenLiesModel", "texted", "I", false)
  | 10 => ("OvenLiesModel", "cursor", "I", false)
  | 11 => ("OvenLiesModel", "start", "I", false)
  | 12 => ("OvenLiesModel", "token", "I", false)
  | 13 => ("OvenLiesModel", "value", "I", false)
  | 14 => ("OvenLiesModel", "isWrong", "Z", false)
  | _ => ("OvenLiesModel", "tells", "[I", true)
def tyX7 : Nat → FieldType := fun k => match k with
  | 0 => .array .int
  | 1 => .array .int
  | 2 => .array .int
  | 3 => .array .int
  | 4 => .array .boolean
  | 5 => .array .int
  | 6 => .long
  | 7 => .long
  | 8 => .array .int
  | 9 => .int
  | 10 => .int
  | 11 => .int
  | 12 => .int
  | 13 => .int
  | 14 => .boolean
  | _ => .array .int
abbrev wsX70 : List Cond := u_ws RX7 TX7 16
theorem nmX7 : ∀ a, a < 16 → ∀ b, b < 16 → a ≠ b → (TX7 a).2.1 ≠ (TX7 b).2.1 := by decide +kernel
theorem tyX7_ok : ∀ k, k < 16 → parseFieldDescriptor (TX7 k).2.2.1 = some (tyX7 k) := by decide +kernel
abbrev cX7_init : ByteArray := prog_9_method_1_code
def yX7_init : MethodName := ⟨RX7, "<init>", "()V"⟩
abbrev cX7_in : ByteArray := prog_9_method_3_code
def yX7_in : MethodName := ⟨RX7, "in", "(III)Z"⟩
abbrev cX7_has : ByteArray := prog_9_method_4_code
def yX7_has : MethodName := ⟨RX7, "has", "(II)Z"⟩
abbrev cX7_bad : ByteArray := prog_9_method_6_code
def yX7_bad : MethodName := ⟨RX7, "bad", "()I"⟩
abbrev cX7_no : ByteArray := prog_9_method_7_code
def yX7_no : MethodName := ⟨RX7, "no", "()I"⟩
abbrev cX7_full : ByteArray := prog_9_method_8_code
def yX7_full : MethodName := ⟨RX7, "full", "()I"⟩
abbrev cX7_badRow : ByteArray := prog_9_method_9_code
def yX7_badRow : MethodName := ⟨RX7, "badRow", "()I"⟩
abbrev cX7_isLie : ByteArray := prog_9_method_10_code
def yX7_isLie : MethodName := ⟨RX7, "isLie", "(I)Z"⟩
abbrev cX7_isOven : ByteArray := prog_9_method_11_code
def yX7_isOven : MethodName := ⟨RX7, "isOven", "(I)Z"⟩
abbrev cX7_plain : ByteArray := prog_9_method_12_code
def yX7_plain : MethodName := ⟨RX7, "plain", "(II)I"⟩
abbrev cX7_fib : ByteArray := prog_9_method_13_code
def yX7_fib : MethodName := ⟨RX7, "fib", "(II)I"⟩
abbrev cX7_lights : ByteArray := prog_9_method_14_code
def yX7_lights : MethodName := ⟨RX7, "lights", "(IIII)I"⟩
abbrev cX7_clay : ByteArray := prog_9_method_15_code
def yX7_clay : MethodName := ⟨RX7, "clay", "(I)I"⟩
abbrev cX7_taken : ByteArray := prog_9_method_16_code
def yX7_taken : MethodName := ⟨RX7, "taken", "(III)I"⟩
abbrev cX7_lightsOn : ByteArray := prog_9_method_17_code
def yX7_lightsOn : MethodName := ⟨RX7, "lightsOn", "([II)I"⟩
abbrev cX7_takesOn : ByteArray := prog_9_method_18_code
def yX7_takesOn : MethodName := ⟨RX7, "takesOn", "([III)I"⟩
abbrev cX7_warm : ByteArray := prog_9_method_19_code
def yX7_warm : MethodName := ⟨RX7, "warm", "([III)V"⟩
abbrev cX7_say : ByteArray := prog_9_method_20_code
def yX7_say : MethodName := ⟨RX7, "say", "([III)V"⟩
abbrev cX7_dayGoes : ByteArray := prog_9_method_21_code
def yX7_dayGoes : MethodName := ⟨RX7, "dayGoes", "([I)V"⟩
abbrev cX7_hotOn : ByteArray := prog_9_method_22_code
def yX7_hotOn : MethodName := ⟨RX7, "hotOn", "([I)I"⟩
abbrev cX7_heatOn : ByteArray := prog_9_method_23_code
def yX7_heatOn : MethodName := ⟨RX7, "heatOn", "([I)I"⟩
abbrev cX7_bring : ByteArray := prog_9_method_24_code
def yX7_bring : MethodName := ⟨RX7, "bring", "([II[III)V"⟩
abbrev cX7_asItIs : ByteArray := prog_9_method_25_code
def yX7_asItIs : MethodName := ⟨RX7, "asItIs", "()V"⟩
abbrev cX7_town : ByteArray := prog_9_method_26_code
def yX7_town : MethodName := ⟨RX7, "town", "()I"⟩
abbrev cX7_addLie : ByteArray := prog_9_method_27_code
def yX7_addLie : MethodName := ⟨RX7, "addLie", "([III)I"⟩
abbrev cX7_addOven : ByteArray := prog_9_method_28_code
def yX7_addOven : MethodName := ⟨RX7, "addOven", "([II)I"⟩
abbrev cX7_lie : ByteArray := prog_9_method_29_code
def yX7_lie : MethodName := ⟨RX7, "lie", "(II)I"⟩
abbrev cX7_oven : ByteArray := prog_9_method_30_code
def yX7_oven : MethodName := ⟨RX7, "oven", "(I)I"⟩
abbrev cX7_type : ByteArray := prog_9_method_31_code
def yX7_type : MethodName := ⟨RX7, "type", "(I)I"⟩
abbrev cX7_clear : ByteArray := prog_9_method_32_code
def yX7_clear : MethodName := ⟨RX7, "clear", "()I"⟩
abbrev cX7_byteAt : ByteArray := prog_9_method_33_code
def yX7_byteAt : MethodName := ⟨RX7, "byteAt", "(I)I"⟩
abbrev cX7_word : ByteArray := prog_9_method_34_code
def yX7_word : MethodName := ⟨RX7, "word", "(IIIIII)I"⟩
abbrev cX7_next : ByteArray := prog_9_method_35_code
def yX7_next : MethodName := ⟨RX7, "next", "()V"⟩
abbrev cX7_takesNumber : ByteArray := prog_9_method_36_code
def yX7_takesNumber : MethodName := ⟨RX7, "takesNumber", "(II)I"⟩
abbrev cX7_takesWord : ByteArray := prog_9_method_37_code
def yX7_takesWord : MethodName := ⟨RX7, "takesWord", "(Z)V"⟩
abbrev cX7_readLie : ByteArray := prog_9_method_38_code
def yX7_readLie : MethodName := ⟨RX7, "readLie", "()V"⟩
abbrev cX7_readOven : ByteArray := prog_9_method_39_code
def yX7_readOven : MethodName := ⟨RX7, "readOven", "()V"⟩
abbrev cX7_readSay : ByteArray := prog_9_method_40_code
def yX7_readSay : MethodName := ⟨RX7, "readSay", "()V"⟩
abbrev cX7_readForget : ByteArray := prog_9_method_41_code
def yX7_readForget : MethodName := ⟨RX7, "readForget", "()V"⟩
abbrev cX7_readDays : ByteArray := prog_9_method_42_code
def yX7_readDays : MethodName := ⟨RX7, "readDays", "()V"⟩
abbrev cX7_readItem : ByteArray := prog_9_method_43_code
def yX7_readItem : MethodName := ⟨RX7, "readItem", "(Z)V"⟩
abbrev cX7_read : ByteArray := prog_9_method_44_code
def yX7_read : MethodName := ⟨RX7, "read", "()I"⟩
abbrev cX7_notes : ByteArray := prog_9_method_45_code
def yX7_notes : MethodName := ⟨RX7, "notes", "()V"⟩
abbrev cX7_days : ByteArray := prog_9_method_46_code
def yX7_days : MethodName := ⟨RX7, "days", "(I)I"⟩
abbrev cX7_says : ByteArray := prog_9_method_47_code
def yX7_says : MethodName := ⟨RX7, "says", "(II)I"⟩
abbrev cX7_forgets : ByteArray := prog_9_method_48_code
def yX7_forgets : MethodName := ⟨RX7, "forgets", "(I)I"⟩
abbrev cX7_undo : ByteArray := prog_9_method_49_code
def yX7_undo : MethodName := ⟨RX7, "undo", "()I"⟩
abbrev cX7_of : ByteArray := prog_9_method_50_code
def yX7_of : MethodName := ⟨RX7, "of", "(II)I"⟩
abbrev cX7_about : ByteArray := prog_9_method_51_code
def yX7_about : MethodName := ⟨RX7, "about", "(II)I"⟩
abbrev cX7_takes : ByteArray := prog_9_method_52_code
def yX7_takes : MethodName := ⟨RX7, "takes", "(II)I"⟩
abbrev cX7_then : ByteArray := prog_9_method_53_code
def yX7_then : MethodName := ⟨RX7, "then", "(II)I"⟩
abbrev cX7_cold : ByteArray := prog_9_method_54_code
def yX7_cold : MethodName := ⟨RX7, "cold", "(I)I"⟩
abbrev cX7_power : ByteArray := prog_9_method_55_code
def yX7_power : MethodName := ⟨RX7, "power", "(II)I"⟩
abbrev cX7_lieOf : ByteArray := prog_9_method_56_code
def yX7_lieOf : MethodName := ⟨RX7, "lieOf", "(III)I"⟩
abbrev cX7_few : ByteArray := prog_9_method_57_code
def yX7_few : MethodName := ⟨RX7, "few", "(II)I"⟩
abbrev cX7_saidInto : ByteArray := prog_9_method_58_code
def yX7_saidInto : MethodName := ⟨RX7, "saidInto", "(II)I"⟩
abbrev cX7_rounds : ByteArray := prog_9_method_59_code
def yX7_rounds : MethodName := ⟨RX7, "rounds", "(I)V"⟩
abbrev cX7_round : ByteArray := prog_9_method_60_code
def yX7_round : MethodName := ⟨RX7, "round", "(I)I"⟩
abbrev cX7_keep : ByteArray := prog_9_method_61_code
def yX7_keep : MethodName := ⟨RX7, "keep", "(II)I"⟩
abbrev cX7_seen : ByteArray := prog_9_method_62_code
def yX7_seen : MethodName := ⟨RX7, "seen", "(IIIII)I"⟩
abbrev cX7_fitsSeen : ByteArray := prog_9_method_63_code
def yX7_fitsSeen : MethodName := ⟨RX7, "fitsSeen", "(I)Z"⟩
abbrev cX7_which : ByteArray := prog_9_method_64_code
def yX7_which : MethodName := ⟨RX7, "which", "()I"⟩
abbrev cX7_most : ByteArray := prog_9_method_65_code
def yX7_most : MethodName := ⟨RX7, "most", "(I)I"⟩
abbrev cX7_layTells : ByteArray := prog_9_method_66_code
def yX7_layTells : MethodName := ⟨RX7, "layTells", "(III)V"⟩
abbrev cX7_tell : ByteArray := prog_9_method_67_code
def yX7_tell : MethodName := ⟨RX7, "tell", "(I)I"⟩
abbrev cX7_note : ByteArray := prog_9_method_68_code
def yX7_note : MethodName := ⟨RX7, "note", "(IIIII)I"⟩
abbrev cX7_mark : ByteArray := prog_9_method_69_code
def yX7_mark : MethodName := ⟨RX7, "mark", "(IIII)I"⟩
abbrev cX7_forget : ByteArray := prog_9_method_70_code
def yX7_forget : MethodName := ⟨RX7, "forget", "(I)I"⟩
abbrev cX7_lieKinds : ByteArray := prog_9_method_71_code
def yX7_lieKinds : MethodName := ⟨RX7, "lieKinds", "(I)I"⟩
abbrev cX7_is : ByteArray := prog_9_method_72_code
def yX7_is : MethodName := ⟨RX7, "is", "(I)I"⟩
abbrev cX7_look : ByteArray := prog_9_method_73_code
def yX7_look : MethodName := ⟨RX7, "look", "(I)I"⟩
abbrev cX7_ovenKinds : ByteArray := prog_9_method_74_code
def yX7_ovenKinds : MethodName := ⟨RX7, "ovenKinds", "(I)I"⟩
abbrev cX7_kinds : ByteArray := prog_9_method_75_code
def yX7_kinds : MethodName := ⟨RX7, "kinds", "(I)I"⟩
abbrev cX7_ask : ByteArray := prog_9_method_76_code
def yX7_ask : MethodName := ⟨RX7, "ask", "(I)I"⟩
abbrev cX7_gets : ByteArray := prog_9_method_77_code
def yX7_gets : MethodName := ⟨RX7, "gets", "(III)I"⟩
abbrev cX7_isBest : ByteArray := prog_9_method_78_code
def yX7_isBest : MethodName := ⟨RX7, "isBest", "(III)Z"⟩
abbrev cX7_arch : ByteArray := prog_9_method_79_code
def yX7_arch : MethodName := ⟨RX7, "arch", "(II)I"⟩
abbrev cX7_lowest : ByteArray := prog_9_method_80_code
def yX7_lowest : MethodName := ⟨RX7, "lowest", "(JJ)J"⟩
abbrev cX7_trues : ByteArray := prog_9_method_81_code
def yX7_trues : MethodName := ⟨RX7, "trues", "(III)I"⟩
abbrev cX7_years : ByteArray := prog_9_method_82_code
def yX7_years : MethodName := ⟨RX7, "years", "(II)I"⟩
abbrev cX7_part : ByteArray := prog_9_method_83_code
def yX7_part : MethodName := ⟨RX7, "part", "(I)J"⟩
abbrev cX7_image : ByteArray := prog_9_method_84_code
def yX7_image : MethodName := ⟨RX7, "image", "(I)I"⟩
abbrev cX7_from : ByteArray := prog_9_method_85_code
def yX7_from : MethodName := ⟨RX7, "from", "(I)I"⟩
abbrev cX7_status : ByteArray := prog_9_method_86_code
def yX7_status : MethodName := ⟨RX7, "status", "(I)I"⟩
abbrev cX7_counted : ByteArray := prog_9_method_87_code
def yX7_counted : MethodName := ⟨RX7, "counted", "(I)I"⟩
abbrev cX7_count : ByteArray := prog_9_method_88_code
def yX7_count : MethodName := ⟨RX7, "count", "(I)I"⟩
abbrev cX7_digested : ByteArray := prog_9_method_89_code
def yX7_digested : MethodName := ⟨RX7, "digested", "(JII)J"⟩
abbrev cX7_digest : ByteArray := prog_9_method_90_code
def yX7_digest : MethodName := ⟨RX7, "digest", "()J"⟩
def RJ9 : String := "java/lang/Math"
def TJ9 : u_T := fun k => match k with
  | _ => ("", "", "", false)
def tyJ9 : Nat → FieldType := fun k => match k with
  | _ => .int
abbrev wsJ90 : List Cond := u_ws RJ9 TJ9 0
theorem nmJ9 : ∀ a, a < 0 → ∀ b, b < 0 → a ≠ b → (TJ9 a).2.1 ≠ (TJ9 b).2.1 := by decide +kernel
theorem tyJ9_ok : ∀ k, k < 0 → parseFieldDescriptor (TJ9 k).2.2.1 = some (tyJ9 k) := by decide +kernel
abbrev cJ9_max_7cf53 : ByteArray := prog_10_method_65_code
def yJ9_max_7cf53 : MethodName := ⟨RJ9, "max", "(II)I"⟩
def RJ0 : String := "java/lang/String"
def TJ0 : u_T := fun k => match k with
  | _ => ("", "", "", false)
def tyJ0 : Nat → FieldType := fun k => match k with
  | _ => .int
abbrev wsJ00 : List Cond := u_ws RJ0 TJ0 0
theorem nmJ0 : ∀ a, a < 0 → ∀ b, b < 0 → a ≠ b → (TJ0 a).2.1 ≠ (TJ0 b).2.1 := by decide +kernel
theorem tyJ0_ok : ∀ k, k < 0 → parseFieldDescriptor (TJ0 k).2.2.1 = some (tyJ0 k) := by decide +kernel
abbrev cJ0_length_8abf5 : ByteArray := prog_11_method_54_code
def yJ0_length_8abf5 : MethodName := ⟨RJ0, "length", "()I"⟩
abbrev cJ0_charAt_5068e : ByteArray := prog_11_method_56_code
def yJ0_charAt_5068e : MethodName := ⟨RJ0, "charAt", "(I)C"⟩
abbrev cJ0_coder_7d493 : ByteArray := prog_11_method_152_code
def yJ0_coder_7d493 : MethodName := ⟨RJ0, "coder", "()B"⟩
abbrev cJ0_isLatin1_aae02 : ByteArray := prog_11_method_154_code
def yJ0_isLatin1_aae02 : MethodName := ⟨RJ0, "isLatin1", "()Z"⟩
abbrev cJ0_checkIndex_df160 : ByteArray := prog_11_method_155_code
def yJ0_checkIndex_df160 : MethodName := ⟨RJ0, "checkIndex", "(II)V"⟩
def RJ1 : String := "java/lang/StringLatin1"
def TJ1 : u_T := fun k => match k with
  | _ => ("", "", "", false)
def tyJ1 : Nat → FieldType := fun k => match k with
  | _ => .int
abbrev wsJ10 : List Cond := u_ws RJ1 TJ1 0
theorem nmJ1 : ∀ a, a < 0 → ∀ b, b < 0 → a ≠ b → (TJ1 a).2.1 ≠ (TJ1 b).2.1 := by decide +kernel
theorem tyJ1_ok : ∀ k, k < 0 → parseFieldDescriptor (TJ1 k).2.2.1 = some (tyJ1 k) := by decide +kernel
abbrev cJ1_charAt_3b067 : ByteArray := prog_12_method_2_code
def yJ1_charAt_3b067 : MethodName := ⟨RJ1, "charAt", "([BI)C"⟩
def RJ2 : String := "java/lang/StringUTF16"
def TJ2 : u_T := fun k => match k with
  | _ => ("", "", "", false)
def tyJ2 : Nat → FieldType := fun k => match k with
  | _ => .int
abbrev wsJ20 : List Cond := u_ws RJ2 TJ2 0
theorem nmJ2 : ∀ a, a < 0 → ∀ b, b < 0 → a ≠ b → (TJ2 a).2.1 ≠ (TJ2 b).2.1 := by decide +kernel
theorem tyJ2_ok : ∀ k, k < 0 → parseFieldDescriptor (TJ2 k).2.2.1 = some (tyJ2 k) := by decide +kernel
abbrev cJ2_getChar_3b067 : ByteArray := prog_13_method_5_code
def yJ2_getChar_3b067 : MethodName := ⟨RJ2, "getChar", "([BI)C"⟩
abbrev cJ2_length_9d52b : ByteArray := prog_13_method_6_code
def yJ2_length_9d52b : MethodName := ⟨RJ2, "length", "([B)I"⟩
abbrev cJ2_charAt_3b067 : ByteArray := prog_13_method_83_code
def yJ2_charAt_3b067 : MethodName := ⟨RJ2, "charAt", "([BI)C"⟩
abbrev cJ2_checkIndex_2214a : ByteArray := prog_13_method_91_code
def yJ2_checkIndex_2214a : MethodName := ⟨RJ2, "checkIndex", "(I[B)V"⟩
def RJ3 : String := "jdk/internal/util/Preconditions"
def TJ3 : u_T := fun k => match k with
  | _ => ("", "", "", false)
def tyJ3 : Nat → FieldType := fun k => match k with
  | _ => .int
abbrev wsJ30 : List Cond := u_ws RJ3 TJ3 0
theorem nmJ3 : ∀ a, a < 0 → ∀ b, b < 0 → a ≠ b → (TJ3 a).2.1 ≠ (TJ3 b).2.1 := by decide +kernel
theorem tyJ3_ok : ∀ k, k < 0 → parseFieldDescriptor (TJ3 k).2.2.1 = some (tyJ3 k) := by decide +kernel
abbrev cJ3_checkIndex_8e157 : ByteArray := prog_14_method_11_code
def yJ3_checkIndex_8e157 : MethodName := ⟨RJ3, "checkIndex", "(IILjava/util/function/BiFunction;)I"⟩
def RL : String := "OvenLiesLaw"
abbrev cL_law : ByteArray := code
def yL_law : MethodName := ⟨RL, "law", "([I)Z"⟩
abbrev vwCl : List vw_C := [(RX0, TX0, 5), (RX1, TX1, 2), (RX2, TX2, 6), (RX3, TX3, 8), (RX4, TX4, 4), (RX5, TX5, 12), (RX6, TX6, 13), (RX7, TX7, 16)]

section
-- ===== PART A: goes FIRST, ahead of the names: the tables' words, and 'selects' of the private methods out of them =====
/-- a private method of a class that the tables say can be made, by its rows of tables_1 -/
def lw_okq (q : MethodName × Nat) : Prop := (q.1.cls ≠ "java/lang/invoke/MethodHandle" ∧ q.1.cls ≠ "java/lang/invoke/VarHandle") ∧ Cond.instantiable q.1.cls q.2 ∈ tables_1 ∧ Cond.privateMethod q.1 ∈ tables_1 ∧ Cond.instanceMethod q.1 ∈ tables_1
theorem lw_p0 : lw_okq (⟨"TrailStore$View", "loadRoot", "()V"⟩, 11) := ⟨⟨by decide +kernel, by decide +kernel⟩, List.mem_of_getElem? (i := 74) (by decide +kernel), List.mem_of_getElem? (i := 282) (by decide +kernel), List.mem_of_getElem? (i := 283) (by decide +kernel)⟩
theorem lw_p1 : lw_okq (⟨"TrailStore$View", "loadRootAt", "(I)V"⟩, 11) := ⟨⟨by decide +kernel, by decide +kernel⟩, List.mem_of_getElem? (i := 74) (by decide +kernel), List.mem_of_getElem? (i := 298) (by decide +kernel), List.mem_of_getElem? (i := 299) (by decide +kernel)⟩
theorem lw_p2 : lw_okq (⟨"TrailStore$View", "takeRecordsBefore", "(I)V"⟩, 11) := ⟨⟨by decide +kernel, by decide +kernel⟩, List.mem_of_getElem? (i := 74) (by decide +kernel), List.mem_of_getElem? (i := 332) (by decide +kernel), List.mem_of_getElem? (i := 333) (by decide +kernel)⟩
theorem lw_p3 : lw_okq (⟨"TrailStore$Disk", "isInside", "(II)Z"⟩, 11) := ⟨⟨by decide +kernel, by decide +kernel⟩, List.mem_of_getElem? (i := 20) (by decide +kernel), List.mem_of_getElem? (i := 346) (by decide +kernel), List.mem_of_getElem? (i := 347) (by decide +kernel)⟩
theorem lw_p4 : lw_okq (⟨"TrailStore$Disk", "cellBehind", "(I)I"⟩, 11) := ⟨⟨by decide +kernel, by decide +kernel⟩, List.mem_of_getElem? (i := 20) (by decide +kernel), List.mem_of_getElem? (i := 354) (by decide +kernel), List.mem_of_getElem? (i := 355) (by decide +kernel)⟩
theorem lw_p5 : lw_okq (⟨"TrailStore$Keeper", "writeTable", "(ILTrailStore$Entries;I)V"⟩, 9) := ⟨⟨by decide +kernel, by decide +kernel⟩, List.mem_of_getElem? (i := 163) (by decide +kernel), List.mem_of_getElem? (i := 443) (by decide +kernel), List.mem_of_getElem? (i := 444) (by decide +kernel)⟩
theorem lw_p6 : lw_okq (⟨"TrailStore$Keeper", "leastFreePlace", "()I"⟩, 9) := ⟨⟨by decide +kernel, by decide +kernel⟩, List.mem_of_getElem? (i := 163) (by decide +kernel), List.mem_of_getElem? (i := 460) (by decide +kernel), List.mem_of_getElem? (i := 461) (by decide +kernel)⟩
theorem lw_p7 : lw_okq (⟨"TrailStore$Keeper", "writeRoot", "()V"⟩, 9) := ⟨⟨by decide +kernel, by decide +kernel⟩, List.mem_of_getElem? (i := 163) (by decide +kernel), List.mem_of_getElem? (i := 486) (by decide +kernel), List.mem_of_getElem? (i := 487) (by decide +kernel)⟩
theorem lw_p8 : lw_okq (⟨"TrailStore$Keeper", "hasRoom", "(I)Z"⟩, 9) := ⟨⟨by decide +kernel, by decide +kernel⟩, List.mem_of_getElem? (i := 163) (by decide +kernel), List.mem_of_getElem? (i := 491) (by decide +kernel), List.mem_of_getElem? (i := 492) (by decide +kernel)⟩
theorem lw_p9 : lw_okq (⟨"TrailStore$View", "findInTables", "(ILTrailStore$Found;)V"⟩, 11) := ⟨⟨by decide +kernel, by decide +kernel⟩, List.mem_of_getElem? (i := 74) (by decide +kernel), List.mem_of_getElem? (i := 510) (by decide +kernel), List.mem_of_getElem? (i := 511) (by decide +kernel)⟩
theorem lw_p10 : lw_okq (⟨"TrailStore$View", "entryCell", "(II)I"⟩, 11) := ⟨⟨by decide +kernel, by decide +kernel⟩, List.mem_of_getElem? (i := 74) (by decide +kernel), List.mem_of_getElem? (i := 515) (by decide +kernel), List.mem_of_getElem? (i := 516) (by decide +kernel)⟩
theorem lw_p11 : lw_okq (⟨"TrailStore$Keeper", "append", "(II[BI)V"⟩, 9) := ⟨⟨by decide +kernel, by decide +kernel⟩, List.mem_of_getElem? (i := 163) (by decide +kernel), List.mem_of_getElem? (i := 525) (by decide +kernel), List.mem_of_getElem? (i := 526) (by decide +kernel)⟩
theorem lw_p12 : lw_okq (⟨"TrailStore$Keeper", "appendAll", "(LTrailStore$Batch;)V"⟩, 9) := ⟨⟨by decide +kernel, by decide +kernel⟩, List.mem_of_getElem? (i := 163) (by decide +kernel), List.mem_of_getElem? (i := 530) (by decide +kernel), List.mem_of_getElem? (i := 531) (by decide +kernel)⟩
theorem lw_p13 : lw_okq (⟨"TrailStore", "batchOver", "(I)I"⟩, 14) := ⟨⟨by decide +kernel, by decide +kernel⟩, List.mem_of_getElem? (i := 12) (by decide +kernel), List.mem_of_getElem? (i := 534) (by decide +kernel), List.mem_of_getElem? (i := 535) (by decide +kernel)⟩
theorem lw_p14 : lw_okq (⟨"TrailStore", "ended", "(I)I"⟩, 14) := ⟨⟨by decide +kernel, by decide +kernel⟩, List.mem_of_getElem? (i := 12) (by decide +kernel), List.mem_of_getElem? (i := 538) (by decide +kernel), List.mem_of_getElem? (i := 539) (by decide +kernel)⟩
theorem lw_p15 : lw_okq (⟨"TrailStore", "losePower", "(II)V"⟩, 14) := ⟨⟨by decide +kernel, by decide +kernel⟩, List.mem_of_getElem? (i := 12) (by decide +kernel), List.mem_of_getElem? (i := 542) (by decide +kernel), List.mem_of_getElem? (i := 543) (by decide +kernel)⟩
def lw_privs_1 : List (MethodName × Nat) := [(⟨"TrailStore$View", "loadRoot", "()V"⟩, 11), (⟨"TrailStore$View", "loadRootAt", "(I)V"⟩, 11), (⟨"TrailStore$View", "takeRecordsBefore", "(I)V"⟩, 11), (⟨"TrailStore$Disk", "isInside", "(II)Z"⟩, 11), (⟨"TrailStore$Disk", "cellBehind", "(I)I"⟩, 11), (⟨"TrailStore$Keeper", "writeTable", "(ILTrailStore$Entries;I)V"⟩, 9), (⟨"TrailStore$Keeper", "leastFreePlace", "()I"⟩, 9), (⟨"TrailStore$Keeper", "writeRoot", "()V"⟩, 9), (⟨"TrailStore$Keeper", "hasRoom", "(I)Z"⟩, 9), (⟨"TrailStore$View", "findInTables", "(ILTrailStore$Found;)V"⟩, 11), (⟨"TrailStore$View", "entryCell", "(II)I"⟩, 11), (⟨"TrailStore$Keeper", "append", "(II[BI)V"⟩, 9), (⟨"TrailStore$Keeper", "appendAll", "(LTrailStore$Batch;)V"⟩, 9), (⟨"TrailStore", "batchOver", "(I)I"⟩, 14), (⟨"TrailStore", "ended", "(I)I"⟩, 14), (⟨"TrailStore", "losePower", "(II)V"⟩, 14)]
theorem lw_r1 : ∀ q ∈ lw_privs_1, lw_okq q := List.forall_mem_cons.mpr ⟨lw_p0, List.forall_mem_cons.mpr ⟨lw_p1, List.forall_mem_cons.mpr ⟨lw_p2, List.forall_mem_cons.mpr ⟨lw_p3, List.forall_mem_cons.mpr ⟨lw_p4, List.forall_mem_cons.mpr ⟨lw_p5, List.forall_mem_cons.mpr ⟨lw_p6, List.forall_mem_cons.mpr ⟨lw_p7, List.forall_mem_cons.mpr ⟨lw_p8, List.forall_mem_cons.mpr ⟨lw_p9, List.forall_mem_cons.mpr ⟨lw_p10, List.forall_mem_cons.mpr ⟨lw_p11, List.forall_mem_cons.mpr ⟨lw_p12, List.forall_mem_cons.mpr ⟨lw_p13, List.forall_mem_cons.mpr ⟨lw_p14, List.forall_mem_cons.mpr ⟨lw_p15, fun _ h => absurd h List.not_mem_nil⟩⟩⟩⟩⟩⟩⟩⟩⟩⟩⟩⟩⟩⟩⟩⟩
theorem lw_p16 : lw_okq (⟨"TrailStore", "isThere", "(I)Z"⟩, 14) := ⟨⟨by decide +kernel, by decide +kernel⟩, List.mem_of_getElem? (i := 12) (by decide +kernel), List.mem_of_getElem? (i := 554) (by decide +kernel), List.mem_of_getElem? (i := 555) (by decide +kernel)⟩
theorem lw_p17 : lw_okq (⟨"TrailStore", "keysThere", "()I"⟩, 14) := ⟨⟨by decide +kernel, by decide +kernel⟩, List.mem_of_getElem? (i := 12) (by decide +kernel), List.mem_of_getElem? (i := 625) (by decide +kernel), List.mem_of_getElem? (i := 626) (by decide +kernel)⟩
theorem lw_p18 : lw_okq (⟨"TrailStore", "bytesThere", "()I"⟩, 14) := ⟨⟨by decide +kernel, by decide +kernel⟩, List.mem_of_getElem? (i := 12) (by decide +kernel), List.mem_of_getElem? (i := 629) (by decide +kernel), List.mem_of_getElem? (i := 630) (by decide +kernel)⟩
theorem lw_p19 : lw_okq (⟨"TrailStore", "hasItsRecord", "(I)Z"⟩, 14) := ⟨⟨by decide +kernel, by decide +kernel⟩, List.mem_of_getElem? (i := 12) (by decide +kernel), List.mem_of_getElem? (i := 660) (by decide +kernel), List.mem_of_getElem? (i := 661) (by decide +kernel)⟩
theorem lw_p20 : lw_okq (⟨"TrailStore", "isSameReopened", "(I)Z"⟩, 14) := ⟨⟨by decide +kernel, by decide +kernel⟩, List.mem_of_getElem? (i := 12) (by decide +kernel), List.mem_of_getElem? (i := 666) (by decide +kernel), List.mem_of_getElem? (i := 667) (by decide +kernel)⟩
theorem lw_p21 : lw_okq (⟨"TrailStoreModel", "openDisk", "()I"⟩, 51) := ⟨⟨by decide +kernel, by decide +kernel⟩, List.mem_of_getElem? (i := 678) (by decide +kernel), List.mem_of_getElem? (i := 685) (by decide +kernel), List.mem_of_getElem? (i := 686) (by decide +kernel)⟩
theorem lw_p22 : lw_okq (⟨"TrailStoreModel", "four", "(II)I"⟩, 51) := ⟨⟨by decide +kernel, by decide +kernel⟩, List.mem_of_getElem? (i := 678) (by decide +kernel), List.mem_of_getElem? (i := 689) (by decide +kernel), List.mem_of_getElem? (i := 690) (by decide +kernel)⟩
theorem lw_p23 : lw_okq (⟨"TrailStoreModel", "byteAt", "(II)I"⟩, 51) := ⟨⟨by decide +kernel, by decide +kernel⟩, List.mem_of_getElem? (i := 678) (by decide +kernel), List.mem_of_getElem? (i := 693) (by decide +kernel), List.mem_of_getElem? (i := 694) (by decide +kernel)⟩
theorem lw_p24 : lw_okq (⟨"TrailStoreModel", "placeOf", "(II)I"⟩, 51) := ⟨⟨by decide +kernel, by decide +kernel⟩, List.mem_of_getElem? (i := 678) (by decide +kernel), List.mem_of_getElem? (i := 697) (by decide +kernel), List.mem_of_getElem? (i := 698) (by decide +kernel)⟩
theorem lw_p25 : lw_okq (⟨"TrailStoreModel", "isRecord", "(II)Z"⟩, 51) := ⟨⟨by decide +kernel, by decide +kernel⟩, List.mem_of_getElem? (i := 678) (by decide +kernel), List.mem_of_getElem? (i := 701) (by decide +kernel), List.mem_of_getElem? (i := 702) (by decide +kernel)⟩
theorem lw_p26 : lw_okq (⟨"TrailStoreModel", "sizeAt", "(I)I"⟩, 51) := ⟨⟨by decide +kernel, by decide +kernel⟩, List.mem_of_getElem? (i := 678) (by decide +kernel), List.mem_of_getElem? (i := 705) (by decide +kernel), List.mem_of_getElem? (i := 706) (by decide +kernel)⟩
theorem lw_p27 : lw_okq (⟨"TrailStoreModel", "remember", "(IIII)V"⟩, 51) := ⟨⟨by decide +kernel, by decide +kernel⟩, List.mem_of_getElem? (i := 678) (by decide +kernel), List.mem_of_getElem? (i := 709) (by decide +kernel), List.mem_of_getElem? (i := 710) (by decide +kernel)⟩
theorem lw_p28 : lw_okq (⟨"TrailStoreModel", "clearBuffer", "(I)V"⟩, 51) := ⟨⟨by decide +kernel, by decide +kernel⟩, List.mem_of_getElem? (i := 678) (by decide +kernel), List.mem_of_getElem? (i := 713) (by decide +kernel), List.mem_of_getElem? (i := 714) (by decide +kernel)⟩
theorem lw_p29 : lw_okq (⟨"TrailStoreModel", "write", "(III)V"⟩, 51) := ⟨⟨by decide +kernel, by decide +kernel⟩, List.mem_of_getElem? (i := 678) (by decide +kernel), List.mem_of_getElem? (i := 717) (by decide +kernel), List.mem_of_getElem? (i := 718) (by decide +kernel)⟩
theorem lw_p30 : lw_okq (⟨"TrailStoreModel", "powerFails", "(II)V"⟩, 51) := ⟨⟨by decide +kernel, by decide +kernel⟩, List.mem_of_getElem? (i := 678) (by decide +kernel), List.mem_of_getElem? (i := 721) (by decide +kernel), List.mem_of_getElem? (i := 722) (by decide +kernel)⟩
theorem lw_p31 : lw_okq (⟨"TrailStoreModel", "lastWrite", "(II)V"⟩, 51) := ⟨⟨by decide +kernel, by decide +kernel⟩, List.mem_of_getElem? (i := 678) (by decide +kernel), List.mem_of_getElem? (i := 725) (by decide +kernel), List.mem_of_getElem? (i := 726) (by decide +kernel)⟩
def lw_privs_2 : List (MethodName × Nat) := [(⟨"TrailStore", "isThere", "(I)Z"⟩, 14), (⟨"TrailStore", "keysThere", "()I"⟩, 14), (⟨"TrailStore", "bytesThere", "()I"⟩, 14), (⟨"TrailStore", "hasItsRecord", "(I)Z"⟩, 14), (⟨"TrailStore", "isSameReopened", "(I)Z"⟩, 14), (⟨"TrailStoreModel", "openDisk", "()I"⟩, 51), (⟨"TrailStoreModel", "four", "(II)I"⟩, 51), (⟨"TrailStoreModel", "byteAt", "(II)I"⟩, 51), (⟨"TrailStoreModel", "placeOf", "(II)I"⟩, 51), (⟨"TrailStoreModel", "isRecord", "(II)Z"⟩, 51), (⟨"TrailStoreModel", "sizeAt", "(I)I"⟩, 51), (⟨"TrailStoreModel", "remember", "(IIII)V"⟩, 51), (⟨"TrailStoreModel", "clearBuffer", "(I)V"⟩, 51), (⟨"TrailStoreModel", "write", "(III)V"⟩, 51), (⟨"TrailStoreModel", "powerFails", "(II)V"⟩, 51), (⟨"TrailStoreModel", "lastWrite", "(II)V"⟩, 51)]
theorem lw_r2 : ∀ q ∈ lw_privs_2, lw_okq q := List.forall_mem_cons.mpr ⟨lw_p16, List.forall_mem_cons.mpr ⟨lw_p17, List.forall_mem_cons.mpr ⟨lw_p18, List.forall_mem_cons.mpr ⟨lw_p19, List.forall_mem_cons.mpr ⟨lw_p20, List.forall_mem_cons.mpr ⟨lw_p21, List.forall_mem_cons.mpr ⟨lw_p22, List.forall_mem_cons.mpr ⟨lw_p23, List.forall_mem_cons.mpr ⟨lw_p24, List.forall_mem_cons.mpr ⟨lw_p25, List.forall_mem_cons.mpr ⟨lw_p26, List.forall_mem_cons.mpr ⟨lw_p27, List.forall_mem_cons.mpr ⟨lw_p28, List.forall_mem_cons.mpr ⟨lw_p29, List.forall_mem_cons.mpr ⟨lw_p30, List.forall_mem_cons.mpr ⟨lw_p31, fun _ h => absurd h List.not_mem_nil⟩⟩⟩⟩⟩⟩⟩⟩⟩⟩⟩⟩⟩⟩⟩⟩
theorem lw_p32 : lw_okq (⟨"TrailStoreModel", "syncAll", "()I"⟩, 51) := ⟨⟨by decide +kernel, by decide +kernel⟩, List.mem_of_getElem? (i := 678) (by decide +kernel), List.mem_of_getElem? (i := 729) (by decide +kernel), List.mem_of_getElem? (i := 730) (by decide +kernel)⟩
theorem lw_p33 : lw_okq (⟨"TrailStoreModel", "lay", "(II)V"⟩, 51) := ⟨⟨by decide +kernel, by decide +kernel⟩, List.mem_of_getElem? (i := 678) (by decide +kernel), List.mem_of_getElem? (i := 903) (by decide +kernel), List.mem_of_getElem? (i := 904) (by decide +kernel)⟩
theorem lw_p34 : lw_okq (⟨"TrailStoreModel", "writeBatch", "()I"⟩, 51) := ⟨⟨by decide +kernel, by decide +kernel⟩, List.mem_of_getElem? (i := 678) (by decide +kernel), List.mem_of_getElem? (i := 907) (by decide +kernel), List.mem_of_getElem? (i := 908) (by decide +kernel)⟩
theorem lw_p35 : lw_okq (⟨"TrailStoreModel", "wouldHave", "()I"⟩, 51) := ⟨⟨by decide +kernel, by decide +kernel⟩, List.mem_of_getElem? (i := 678) (by decide +kernel), List.mem_of_getElem? (i := 911) (by decide +kernel), List.mem_of_getElem? (i := 912) (by decide +kernel)⟩
theorem lw_p36 : lw_okq (⟨"TrailStoreModel", "checkpointAll", "()V"⟩, 51) := ⟨⟨by decide +kernel, by decide +kernel⟩, List.mem_of_getElem? (i := 678) (by decide +kernel), List.mem_of_getElem? (i := 915) (by decide +kernel), List.mem_of_getElem? (i := 916) (by decide +kernel)⟩
theorem lw_p37 : lw_okq (⟨"TrailStoreModel", "makeTables", "()V"⟩, 51) := ⟨⟨by decide +kernel, by decide +kernel⟩, List.mem_of_getElem? (i := 678) (by decide +kernel), List.mem_of_getElem? (i := 919) (by decide +kernel), List.mem_of_getElem? (i := 920) (by decide +kernel)⟩
theorem lw_p38 : lw_okq (⟨"TrailStoreModel", "writeTable", "(I)I"⟩, 51) := ⟨⟨by decide +kernel, by decide +kernel⟩, List.mem_of_getElem? (i := 678) (by decide +kernel), List.mem_of_getElem? (i := 923) (by decide +kernel), List.mem_of_getElem? (i := 924) (by decide +kernel)⟩
theorem lw_p39 : lw_okq (⟨"TrailStoreModel", "put4", "(II)V"⟩, 51) := ⟨⟨by decide +kernel, by decide +kernel⟩, List.mem_of_getElem? (i := 678) (by decide +kernel), List.mem_of_getElem? (i := 927) (by decide +kernel), List.mem_of_getElem? (i := 928) (by decide +kernel)⟩
theorem lw_p40 : lw_okq (⟨"TrailStoreModel", "insert", "(II)V"⟩, 51) := ⟨⟨by decide +kernel, by decide +kernel⟩, List.mem_of_getElem? (i := 678) (by decide +kernel), List.mem_of_getElem? (i := 934) (by decide +kernel), List.mem_of_getElem? (i := 935) (by decide +kernel)⟩
theorem lw_p41 : lw_okq (⟨"TrailStoreModel", "countOf", "(I)I"⟩, 51) := ⟨⟨by decide +kernel, by decide +kernel⟩, List.mem_of_getElem? (i := 678) (by decide +kernel), List.mem_of_getElem? (i := 938) (by decide +kernel), List.mem_of_getElem? (i := 939) (by decide +kernel)⟩
theorem lw_p42 : lw_okq (⟨"TrailStoreModel", "levelOf", "(I)I"⟩, 51) := ⟨⟨by decide +kernel, by decide +kernel⟩, List.mem_of_getElem? (i := 678) (by decide +kernel), List.mem_of_getElem? (i := 942) (by decide +kernel), List.mem_of_getElem? (i := 943) (by decide +kernel)⟩
theorem lw_p43 : lw_okq (⟨"TrailStoreModel", "tableByte", "(II)I"⟩, 51) := ⟨⟨by decide +kernel, by decide +kernel⟩, List.mem_of_getElem? (i := 678) (by decide +kernel), List.mem_of_getElem? (i := 946) (by decide +kernel), List.mem_of_getElem? (i := 947) (by decide +kernel)⟩
theorem lw_p44 : lw_okq (⟨"TrailStoreModel", "clearNew", "()V"⟩, 51) := ⟨⟨by decide +kernel, by decide +kernel⟩, List.mem_of_getElem? (i := 678) (by decide +kernel), List.mem_of_getElem? (i := 950) (by decide +kernel), List.mem_of_getElem? (i := 951) (by decide +kernel)⟩
theorem lw_p45 : lw_okq (⟨"TrailStoreModel", "gather", "(I)V"⟩, 51) := ⟨⟨by decide +kernel, by decide +kernel⟩, List.mem_of_getElem? (i := 678) (by decide +kernel), List.mem_of_getElem? (i := 954) (by decide +kernel), List.mem_of_getElem? (i := 955) (by decide +kernel)⟩
theorem lw_p46 : lw_okq (⟨"TrailStoreModel", "tableFour", "(II)I"⟩, 51) := ⟨⟨by decide +kernel, by decide +kernel⟩, List.mem_of_getElem? (i := 678) (by decide +kernel), List.mem_of_getElem? (i := 958) (by decide +kernel), List.mem_of_getElem? (i := 959) (by decide +kernel)⟩
theorem lw_p47 : lw_okq (⟨"TrailStoreModel", "newCount", "()I"⟩, 51) := ⟨⟨by decide +kernel, by decide +kernel⟩, List.mem_of_getElem? (i := 678) (by decide +kernel), List.mem_of_getElem? (i := 962) (by decide +kernel), List.mem_of_getElem? (i := 963) (by decide +kernel)⟩
def lw_privs_3 : List (MethodName × Nat) := [(⟨"TrailStoreModel", "syncAll", "()I"⟩, 51), (⟨"TrailStoreModel", "lay", "(II)V"⟩, 51), (⟨"TrailStoreModel", "writeBatch", "()I"⟩, 51), (⟨"TrailStoreModel", "wouldHave", "()I"⟩, 51), (⟨"TrailStoreModel", "checkpointAll", "()V"⟩, 51), (⟨"TrailStoreModel", "makeTables", "()V"⟩, 51), (⟨"TrailStoreModel", "writeTable", "(I)I"⟩, 51), (⟨"TrailStoreModel", "put4", "(II)V"⟩, 51), (⟨"TrailStoreModel", "insert", "(II)V"⟩, 51), (⟨"TrailStoreModel", "countOf", "(I)I"⟩, 51), (⟨"TrailStoreModel", "levelOf", "(I)I"⟩, 51), (⟨"TrailStoreModel", "tableByte", "(II)I"⟩, 51), (⟨"TrailStoreModel", "clearNew", "()V"⟩, 51), (⟨"TrailStoreModel", "gather", "(I)V"⟩, 51), (⟨"TrailStoreModel", "tableFour", "(II)I"⟩, 51), (⟨"TrailStoreModel", "newCount", "()I"⟩, 51)]
theorem lw_r3 : ∀ q ∈ lw_privs_3, lw_okq q := List.forall_mem_cons.mpr ⟨lw_p32, List.forall_mem_cons.mpr ⟨lw_p33, List.forall_mem_cons.mpr ⟨lw_p34, List.forall_mem_cons.mpr ⟨lw_p35, List.forall_mem_cons.mpr ⟨lw_p36, List.forall_mem_cons.mpr ⟨lw_p37, List.forall_mem_cons.mpr ⟨lw_p38, List.forall_mem_cons.mpr ⟨lw_p39, List.forall_mem_cons.mpr ⟨lw_p40, List.forall_mem_cons.mpr ⟨lw_p41, List.forall_mem_cons.mpr ⟨lw_p42, List.forall_mem_cons.mpr ⟨lw_p43, List.forall_mem_cons.mpr ⟨lw_p44, List.forall_mem_cons.mpr ⟨lw_p45, List.forall_mem_cons.mpr ⟨lw_p46, List.forall_mem_cons.mpr ⟨lw_p47, fun _ h => absurd h List.not_mem_nil⟩⟩⟩⟩⟩⟩⟩⟩⟩⟩⟩⟩⟩⟩⟩⟩
theorem lw_p48 : lw_okq (⟨"TrailStoreModel", "drop", "(II)V"⟩, 51) := ⟨⟨by decide +kernel, by decide +kernel⟩, List.mem_of_getElem? (i := 678) (by decide +kernel), List.mem_of_getElem? (i := 966) (by decide +kernel), List.mem_of_getElem? (i := 967) (by decide +kernel)⟩
theorem lw_p49 : lw_okq (⟨"TrailStoreModel", "writeRoot", "()V"⟩, 51) := ⟨⟨by decide +kernel, by decide +kernel⟩, List.mem_of_getElem? (i := 678) (by decide +kernel), List.mem_of_getElem? (i := 970) (by decide +kernel), List.mem_of_getElem? (i := 971) (by decide +kernel)⟩
theorem lw_p50 : lw_okq (⟨"TrailStoreModel", "hasRoom", "(II)Z"⟩, 51) := ⟨⟨by decide +kernel, by decide +kernel⟩, List.mem_of_getElem? (i := 678) (by decide +kernel), List.mem_of_getElem? (i := 974) (by decide +kernel), List.mem_of_getElem? (i := 975) (by decide +kernel)⟩
theorem lw_p51 : lw_okq (⟨"TrailStoreModel", "passLog", "()V"⟩, 51) := ⟨⟨by decide +kernel, by decide +kernel⟩, List.mem_of_getElem? (i := 678) (by decide +kernel), List.mem_of_getElem? (i := 979) (by decide +kernel), List.mem_of_getElem? (i := 980) (by decide +kernel)⟩
theorem lw_p52 : lw_okq (⟨"TrailStoreModel", "collecting", "(I)I"⟩, 51) := ⟨⟨by decide +kernel, by decide +kernel⟩, List.mem_of_getElem? (i := 678) (by decide +kernel), List.mem_of_getElem? (i := 983) (by decide +kernel), List.mem_of_getElem? (i := 984) (by decide +kernel)⟩
theorem lw_p53 : lw_okq (⟨"TrailStoreModel", "find", "(I)Z"⟩, 51) := ⟨⟨by decide +kernel, by decide +kernel⟩, List.mem_of_getElem? (i := 678) (by decide +kernel), List.mem_of_getElem? (i := 987) (by decide +kernel), List.mem_of_getElem? (i := 988) (by decide +kernel)⟩
theorem lw_p54 : lw_okq (⟨"TrailStoreModel", "placeIn", "(II)I"⟩, 51) := ⟨⟨by decide +kernel, by decide +kernel⟩, List.mem_of_getElem? (i := 678) (by decide +kernel), List.mem_of_getElem? (i := 991) (by decide +kernel), List.mem_of_getElem? (i := 992) (by decide +kernel)⟩
theorem lw_p55 : lw_okq (⟨"TrailStoreModel", "append", "(III)Z"⟩, 51) := ⟨⟨by decide +kernel, by decide +kernel⟩, List.mem_of_getElem? (i := 678) (by decide +kernel), List.mem_of_getElem? (i := 995) (by decide +kernel), List.mem_of_getElem? (i := 996) (by decide +kernel)⟩
theorem lw_p56 : lw_okq (⟨"TrailStoreModel", "isThere", "(I)Z"⟩, 51) := ⟨⟨by decide +kernel, by decide +kernel⟩, List.mem_of_getElem? (i := 678) (by decide +kernel), List.mem_of_getElem? (i := 1003) (by decide +kernel), List.mem_of_getElem? (i := 1004) (by decide +kernel)⟩
def lw_privs_4 : List (MethodName × Nat) := [(⟨"TrailStoreModel", "drop", "(II)V"⟩, 51), (⟨"TrailStoreModel", "writeRoot", "()V"⟩, 51), (⟨"TrailStoreModel", "hasRoom", "(II)Z"⟩, 51), (⟨"TrailStoreModel", "passLog", "()V"⟩, 51), (⟨"TrailStoreModel", "collecting", "(I)I"⟩, 51), (⟨"TrailStoreModel", "find", "(I)Z"⟩, 51), (⟨"TrailStoreModel", "placeIn", "(II)I"⟩, 51), (⟨"TrailStoreModel", "append", "(III)Z"⟩, 51), (⟨"TrailStoreModel", "isThere", "(I)Z"⟩, 51)]
theorem lw_r4 : ∀ q ∈ lw_privs_4, lw_okq q := List.forall_mem_cons.mpr ⟨lw_p48, List.forall_mem_cons.mpr ⟨lw_p49, List.forall_mem_cons.mpr ⟨lw_p50, List.forall_mem_cons.mpr ⟨lw_p51, List.forall_mem_cons.mpr ⟨lw_p52, List.forall_mem_cons.mpr ⟨lw_p53, List.forall_mem_cons.mpr ⟨lw_p54, List.forall_mem_cons.mpr ⟨lw_p55, List.forall_mem_cons.mpr ⟨lw_p56, fun _ h => absurd h List.not_mem_nil⟩⟩⟩⟩⟩⟩⟩⟩⟩
def lw_privs : List (MethodName × Nat) := lw_privs_1 ++ (lw_privs_2 ++ (lw_privs_3 ++ (lw_privs_4)))
def lw_tbl : List Cond := k2_sels lw_privs ++ tables_1
theorem lw_privs_ok : ∀ q ∈ lw_privs, lw_okq q := by
  show ∀ q ∈ lw_privs_1 ++ (lw_privs_2 ++ (lw_privs_3 ++ (lw_privs_4))), lw_okq q
  exact List.forall_mem_append.mpr ⟨lw_r1, List.forall_mem_append.mpr ⟨lw_r2, List.forall_mem_append.mpr ⟨lw_r3, lw_r4⟩⟩⟩
-- ===== end of PART A; then your names; then what follows =====
end
section
/-! PART 02: classes, methods, and the tables of resolved instructions (printed by wip/whole/gen_names.py out of the claim) -/
def cn_0 : String := "TrailStore$Batch"
def cf_0 : u_T := fun k => match k with
  | 0 => ("TrailStore$Batch", "kind", "[I", true)
  | 1 => ("TrailStore$Batch", "key", "[I", true)
  | 2 => ("TrailStore$Batch", "length", "[I", true)
  | 3 => ("TrailStore$Batch", "value", "[[B", true)
  | _ => ("TrailStore$Batch", "count", "I", false)
def ct_0 : Nat → FieldType := fun k => match k with
  | 0 => .array .int
  | 1 => .array .int
  | 2 => .array .int
  | 3 => .array (.array .byte)
  | _ => .int
def cn_1 : String := "TrailStore$Disk"
def cf_1 : u_T := fun k => match k with
  | 0 => ("TrailStore$Disk", "room", "I", true)
  | 1 => ("TrailStore$Disk", "cells", "[B", true)
  | 2 => ("TrailStore$Disk", "starts", "[I", true)
  | 3 => ("TrailStore$Disk", "lengths", "[I", true)
  | 4 => ("TrailStore$Disk", "covered", "[B", true)
  | 5 => ("TrailStore$Disk", "coveredBytes", "I", false)
  | 6 => ("TrailStore$Disk", "writes", "I", false)
  | 7 => ("TrailStore$Disk", "failsIn", "I", false)
  | 8 => ("TrailStore$Disk", "failKeep", "I", false)
  | 9 => ("TrailStore$Disk", "failCut", "I", false)
  | _ => ("TrailStore$Disk", "down", "Z", false)
def ct_1 : Nat → FieldType := fun k => match k with
  | 0 => .int
  | 1 => .array .byte
  | 2 => .array .int
  | 3 => .array .int
  | 4 => .array .byte
  | 5 => .int
  | 6 => .int
  | 7 => .int
  | 8 => .int
  | 9 => .int
  | _ => .boolean
def cn_2 : String := "TrailStore$Entries"
def cf_2 : u_T := fun k => match k with
  | 0 => ("TrailStore$Entries", "kind", "[I", true)
  | 1 => ("TrailStore$Entries", "number", "[I", true)
  | 2 => ("TrailStore$Entries", "where", "[I", true)
  | _ => ("TrailStore$Entries", "count", "I", false)
def ct_2 : Nat → FieldType := fun k => match k with
  | 0 => .array .int
  | 1 => .array .int
  | 2 => .array .int
  | _ => .int
def cn_3 : String := "TrailStore$Found"
def cf_3 : u_T := fun k => match k with
  | 0 => ("TrailStore$Found", "kind", "I", false)
  | 1 => ("TrailStore$Found", "number", "I", false)
  | 2 => ("TrailStore$Found", "where", "I", false)
  | 3 => ("TrailStore$Found", "inMemory", "Z", false)
  | 4 => ("TrailStore$Found", "lookedInto", "I", false)
  | _ => ("TrailStore$Found", "passedBy", "I", false)
def ct_3 : Nat → FieldType := fun k => match k with
  | 0 => .int
  | 1 => .int
  | 2 => .int
  | 3 => .boolean
  | 4 => .int
  | _ => .int
def cn_4 : String := "TrailStore$Keeper"
def cf_4 : u_T := fun k => match k with
  | 0 => ("TrailStore$Keeper", "disk", "LTrailStore$Disk;", true)
  | 1 => ("TrailStore$Keeper", "view", "LTrailStore$View;", true)
  | 2 => ("TrailStore$Keeper", "found", "LTrailStore$Found;", true)
  | 3 => ("TrailStore$Keeper", "merged", "LTrailStore$Entries;", true)
  | 4 => ("TrailStore$Keeper", "zeros", "[B", true)
  | 5 => ("TrailStore$Keeper", "header", "[B", true)
  | 6 => ("TrailStore$Keeper", "page", "[B", true)
  | 7 => ("TrailStore$Keeper", "moved", "[B", true)
  | _ => ("TrailStore$Keeper", "taken", "I", false)
def ct_4 : Nat → FieldType := fun k => match k with
  | 0 => .object "TrailStore$Disk"
  | 1 => .object "TrailStore$View"
  | 2 => .object "TrailStore$Found"
  | 3 => .object "TrailStore$Entries"
  | 4 => .array .byte
  | 5 => .array .byte
  | 6 => .array .byte
  | 7 => .array .byte
  | _ => .int
def cn_5 : String := "TrailStore$View"
def cf_5 : u_T := fun k => match k with
  | 0 => ("TrailStore$View", "disk", "LTrailStore$Disk;", true)
  | 1 => ("TrailStore$View", "memory", "LTrailStore$Entries;", true)
  | 2 => ("TrailStore$View", "places", "[I", true)
  | 3 => ("TrailStore$View", "tables", "I", false)
  | 4 => ("TrailStore$View", "version", "I", false)
  | 5 => ("TrailStore$View", "checkpoint", "I", false)
  | 6 => ("TrailStore$View", "checkpointNumber", "I", false)
  | 7 => ("TrailStore$View", "tail", "I", false)
  | 8 => ("TrailStore$View", "head", "I", false)
  | 9 => ("TrailStore$View", "nextNumber", "I", false)
  | _ => ("TrailStore$View", "nextTable", "I", false)
def ct_5 : Nat → FieldType := fun k => match k with
  | 0 => .object "TrailStore$Disk"
  | 1 => .object "TrailStore$Entries"
  | 2 => .array .int
  | 3 => .int
  | 4 => .int
  | 5 => .int
  | 6 => .int
  | 7 => .int
  | 8 => .int
  | 9 => .int
  | _ => .int
def cn_6 : String := "TrailStore"
def cf_6 : u_T := fun k => match k with
  | 0 => ("TrailStore", "disk", "LTrailStore$Disk;", true)
  | 1 => ("TrailStore", "view", "LTrailStore$View;", true)
  | 2 => ("TrailStore", "keeper", "LTrailStore$Keeper;", true)
  | 3 => ("TrailStore", "reopened", "LTrailStore$View;", true)
  | 4 => ("TrailStore", "all", "LTrailStore$Entries;", true)
  | 5 => ("TrailStore", "reopenedAll", "LTrailStore$Entries;", true)
  | 6 => ("TrailStore", "batch", "LTrailStore$Batch;", true)
  | 7 => ("TrailStore", "begun", "Z", false)
  | 8 => ("TrailStore", "tape", "[B", true)
  | 9 => ("TrailStore", "taped", "I", false)
  | 10 => ("TrailStore", "value", "[B", true)
  | 11 => ("TrailStore", "valueLength", "I", false)
  | 12 => ("TrailStore", "got", "LTrailStore$Found;", true)
  | _ => ("TrailStore", "found", "LTrailStore$Found;", true)
def ct_6 : Nat → FieldType := fun k => match k with
  | 0 => .object "TrailStore$Disk"
  | 1 => .object "TrailStore$View"
  | 2 => .object "TrailStore$Keeper"
  | 3 => .object "TrailStore$View"
  | 4 => .object "TrailStore$Entries"
  | 5 => .object "TrailStore$Entries"
  | 6 => .object "TrailStore$Batch"
  | 7 => .boolean
  | 8 => .array .byte
  | 9 => .int
  | 10 => .array .byte
  | 11 => .int
  | 12 => .object "TrailStore$Found"
  | _ => .object "TrailStore$Found"
def cn_7 : String := "TrailStoreModel"
def cf_7 : u_T := fun k => match k with
  | 0 => ("TrailStoreModel", "room", "I", true)
  | 1 => ("TrailStoreModel", "areaAt", "[I", true)
  | 2 => ("TrailStoreModel", "areaSizes", "[I", true)
  | 3 => ("TrailStoreModel", "disk", "[B", true)
  | 4 => ("TrailStoreModel", "lasting", "[B", true)
  | 5 => ("TrailStoreModel", "writeAreas", "[I", true)
  | 6 => ("TrailStoreModel", "writeAt", "[I", true)
  | 7 => ("TrailStoreModel", "writeSizes", "[I", true)
  | 8 => ("TrailStoreModel", "writeFrom", "[I", true)
  | 9 => ("TrailStoreModel", "written", "[B", true)
  | 10 => ("TrailStoreModel", "writes", "I", false)
  | 11 => ("TrailStoreModel", "writtenSize", "I", false)
  | 12 => ("TrailStoreModel", "failing", "I", false)
  | 13 => ("TrailStoreModel", "failKeep", "I", false)
  | 14 => ("TrailStoreModel", "failCut", "I", false)
  | 15 => ("TrailStoreModel", "down", "Z", false)
  | 16 => ("TrailStoreModel", "tape", "[B", true)
  | 17 => ("TrailStoreModel", "tapeSize", "I", false)
  | 18 => ("TrailStoreModel", "got", "[B", true)
  | 19 => ("TrailStoreModel", "gotSize", "I", false)
  | 20 => ("TrailStoreModel", "looked", "I", false)
  | 21 => ("TrailStoreModel", "passed", "I", false)
  | 22 => ("TrailStoreModel", "inBatch", "Z", false)
  | 23 => ("TrailStoreModel", "batch", "I", false)
  | 24 => ("TrailStoreModel", "batchKinds", "[I", true)
  | 25 => ("TrailStoreModel", "batchKeys", "[I", true)
  | 26 => ("TrailStoreModel", "batchSizes", "[I", true)
  | 27 => ("TrailStoreModel", "batchValues", "[B", true)
  | 28 => ("TrailStoreModel", "head", "I", false)
  | 29 => ("TrailStoreModel", "tail", "I", false)
  | 30 => ("TrailStoreModel", "mark", "I", false)
  | 31 => ("TrailStoreModel", "markNumber", "I", false)
  | 32 => ("TrailStoreModel", "number", "I", false)
  | 33 => ("TrailStoreModel", "tableNumber", "I", false)
  | 34 => ("TrailStoreModel", "version", "I", false)
  | 35 => ("TrailStoreModel", "inUse", "[I", true)
  | 36 => ("TrailStoreModel", "tables", "I", false)
  | 37 => ("TrailStoreModel", "putAway", "[Z", true)
  | 38 => ("TrailStoreModel", "kinds", "[I", true)
  | 39 => ("TrailStoreModel", "numbers", "[I", true)
  | 40 => ("TrailStoreModel", "wheres", "[I", true)
  | 41 => ("TrailStoreModel", "entries", "I", false)
  | 42 => ("TrailStoreModel", "newKinds", "[I", true)
  | 43 => ("TrailStoreModel", "newNumbers", "[I", true)
  | 44 => ("TrailStoreModel", "newWheres", "[I", true)
  | 45 => ("TrailStoreModel", "buffer", "[B", true)
  | 46 => ("TrailStoreModel", "entryKind", "I", false)
  | 47 => ("TrailStoreModel", "entryNumber", "I", false)
  | 48 => ("TrailStoreModel", "entryWhere", "I", false)
  | 49 => ("TrailStoreModel", "entryHere", "Z", false)
  | _ => ("TrailStoreModel", "value", "[B", true)
def ct_7 : Nat → FieldType := fun k => match k with
  | 0 => .int
  | 1 => .array .int
  | 2 => .array .int
  | 3 => .array .byte
  | 4 => .array .byte
  | 5 => .array .int
  | 6 => .array .int
  | 7 => .array .int
  | 8 => .array .int
  | 9 => .array .byte
  | 10 => .int
  | 11 => .int
  | 12 => .int
  | 13 => .int
  | 14 => .int
  | 15 => .boolean
  | 16 => .array .byte
  | 17 => .int
  | 18 => .array .byte
  | 19 => .int
  | 20 => .int
  | 21 => .int
  | 22 => .boolean
  | 23 => .int
  | 24 => .array .int
  | 25 => .array .int
  | 26 => .array .int
  | 27 => .array .byte
  | 28 => .int
  | 29 => .int
  | 30 => .int
  | 31 => .int
  | 32 => .int
  | 33 => .int
  | 34 => .int
  | 35 => .array .int
  | 36 => .int
  | 37 => .array .boolean
  | 38 => .array .int
  | 39 => .array .int
  | 40 => .array .int
  | 41 => .int
  | 42 => .array .int
  | 43 => .array .int
  | 44 => .array .int
  | 45 => .array .byte
  | 46 => .int
  | 47 => .int
  | 48 => .int
  | 49 => .boolean
  | _ => .array .byte
abbrev rx_cl : List vw_C := [(cn_0, cf_0, 5), (cn_1, cf_1, 11), (cn_2, cf_2, 4), (cn_3, cf_3, 6), (cn_4, cf_4, 9), (cn_5, cf_5, 11), (cn_6, cf_6, 14), (cn_7, cf_7, 51)]
def rx_ty (c k : Nat) : FieldType := match c with
  | 0 => ct_0 k
  | 1 => ct_1 k
  | 2 => ct_2 k
  | 3 => ct_3 k
  | 4 => ct_4 k
  | 5 => ct_5 k
  | 6 => ct_6 k
  | _ => ct_7 k
abbrev rI : Type := Nat × Instr × Nat × List Nat × Int32
/-- a method: name, code, locals, what it returns, places of its words (instance or static, selects, code, initialized), cells and slots that it makes -/
abbrev rM : Type := MethodName × ByteArray × Nat × Option FieldType × List Nat × Nat × Nat
def rt_0_0 : List rI := [(0, .aload_n 0, 1, [], 0), (1, .invokespecial 3, 3, [0, 0, 12, 301], 0), (4, .aload_n 0, 1, [], 0), (5, .bipush 8, 2, [], 8), (7, .newarray .int, 2, [0], 0), (9, .putfield 9, 3, [0, 0, 304], 0), (12, .aload_n 0, 1, [], 0), (13, .bipush 8, 2, [], 8), (15, .newarray .int, 2, [0], 0), (17, .putfield 15, 3, [0, 1, 306], 0), (20, .aload_n 0, 1, [], 0), (21, .bipush 8, 2, [], 8), (23, .newarray .int, 2, [0], 0), (25, .putfield 18, 3, [0, 2, 309], 0), (28, .aload_n 0, 1, [], 0), (29, .bipush 8, 2, [], 8)]
def rt_0_1 : List rI := [(31, .bipush 64, 2, [], 64), (33, .multianewarray 21 2, 4, [302], 0), (37, .putfield 23, 3, [0, 3, 311], 0), (40, .return_, 1, [], 0)]
def rt_0 : List (List rI) := [rt_0_0, rt_0_1]
def rt_1_0 : List rI := [(0, .aload_n 0, 1, [], 0), (1, .getfield 26, 3, [0, 4, 313], 0), (4, .bipush 8, 2, [], 8), (6, .if_icmp .ge 17, 3, [11], 0), (9, .iload 4, 2, [], 0), (11, .bipush 64, 2, [], 64), (13, .if_icmp .gt 10, 3, [11], 0), (16, .iload 4, 2, [], 0), (18, .aload_n 3, 1, [], 0), (19, .arraylength, 1, [], 0), (20, .if_icmp .le 4, 3, [12], 0), (23, .return_, 1, [], 0), (24, .aload_n 0, 1, [], 0), (25, .getfield 9, 3, [0, 0, 304], 0), (28, .aload_n 0, 1, [], 0), (29, .getfield 26, 3, [0, 4, 313], 0)]
def rt_1_1 : List rI := [(32, .iload_n 1, 1, [], 0), (33, .iastore, 1, [], 0), (34, .aload_n 0, 1, [], 0), (35, .getfield 15, 3, [0, 1, 306], 0), (38, .aload_n 0, 1, [], 0), (39, .getfield 26, 3, [0, 4, 313], 0), (42, .iload_n 2, 1, [], 0), (43, .iastore, 1, [], 0), (44, .aload_n 0, 1, [], 0), (45, .getfield 18, 3, [0, 2, 309], 0), (48, .aload_n 0, 1, [], 0), (49, .getfield 26, 3, [0, 4, 313], 0), (52, .iload 4, 2, [], 0), (54, .iastore, 1, [], 0), (55, .iconst 0, 1, [], 0), (56, .istore 5, 2, [], 0)]
def rt_1_2 : List rI := [(58, .iload 5, 2, [], 0), (60, .iload 4, 2, [], 0), (62, .if_icmp .ge 25, 3, [47], 0), (65, .aload_n 0, 1, [], 0), (66, .getfield 23, 3, [0, 3, 311], 0), (69, .aload_n 0, 1, [], 0), (70, .getfield 26, 3, [0, 4, 313], 0), (73, .aaload, 1, [], 0), (74, .iload 5, 2, [], 0), (76, .aload_n 3, 1, [], 0), (77, .iload 5, 2, [], 0), (79, .baload, 1, [], 0), (80, .bastore, 1, [], 0), (81, .iinc 5 1, 3, [], 1), (84, .goto (-26), 3, [32], 0), (87, .aload_n 0, 1, [], 0)]
def rt_1_3 : List rI := [(88, .dup, 1, [], 0), (89, .getfield 26, 3, [0, 4, 313], 0), (92, .iconst 1, 1, [], 1), (93, .iadd, 1, [], 0), (94, .putfield 26, 3, [0, 4, 313], 0), (97, .return_, 1, [], 0)]
def rt_1 : List (List rI) := [rt_1_0, rt_1_1, rt_1_2, rt_1_3]
def rt_2_0 : List rI := [(0, .iconst 0, 1, [], 0), (1, .istore_n 2, 1, [], 0), (2, .iload_n 2, 1, [], 0), (3, .iload_n 1, 1, [], 0), (4, .if_icmp .ge 26, 3, [18], 0), (7, .aload_n 0, 1, [], 0), (8, .getfield 15, 3, [0, 1, 306], 0), (11, .iload_n 2, 1, [], 0), (12, .iaload, 1, [], 0), (13, .aload_n 0, 1, [], 0), (14, .getfield 15, 3, [0, 1, 306], 0), (17, .iload_n 1, 1, [], 0), (18, .iaload, 1, [], 0), (19, .if_icmp .ne 5, 3, [16], 0), (22, .iconst 0, 1, [], 0), (23, .ireturn, 1, [], 0)]
def rt_2_1 : List rI := [(24, .iinc 2 1, 3, [], 1), (27, .goto (-25), 3, [2], 0), (30, .iconst 1, 1, [], 1), (31, .ireturn, 1, [], 0)]
def rt_2 : List (List rI) := [rt_2_0, rt_2_1]
def rt_3_0 : List rI := [(0, .iconst 0, 1, [], 0), (1, .istore_n 1, 1, [], 0), (2, .iconst 0, 1, [], 0), (3, .istore_n 2, 1, [], 0), (4, .iload_n 2, 1, [], 0), (5, .aload_n 0, 1, [], 0), (6, .getfield 26, 3, [0, 4, 313], 0), (9, .if_icmp .ge 21, 3, [19], 0), (12, .iload_n 1, 1, [], 0), (13, .bipush 12, 2, [], 12), (15, .aload_n 0, 1, [], 0), (16, .getfield 18, 3, [0, 2, 309], 0), (19, .iload_n 2, 1, [], 0), (20, .iaload, 1, [], 0), (21, .iadd, 1, [], 0), (22, .iadd, 1, [], 0)]
def rt_3_1 : List rI := [(23, .istore_n 1, 1, [], 0), (24, .iinc 2 1, 3, [], 1), (27, .goto (-23), 3, [4], 0), (30, .iload_n 1, 1, [], 0), (31, .ireturn, 1, [], 0)]
def rt_3 : List (List rI) := [rt_3_0, rt_3_1]
def rt_4_0 : List rI := [(0, .aload_n 0, 1, [], 0), (1, .invokespecial 3, 3, [0, 0, 12, 87], 0), (4, .aload_n 0, 1, [], 0), (5, .iload_n 1, 1, [], 0), (6, .putfield 9, 3, [1, 0, 88], 0), (9, .aload_n 0, 1, [], 0), (10, .iload_n 1, 1, [], 0), (11, .sipush 15600, 3, [], 15600), (14, .iadd, 1, [], 0), (15, .sipush 128, 3, [], 128), (18, .iadd, 1, [], 0), (19, .newarray .byte, 2, [1], 0), (21, .putfield 15, 3, [1, 1, 91], 0), (24, .aload_n 0, 1, [], 0), (25, .sipush 1024, 3, [], 1024), (28, .newarray .int, 2, [0], 0)]
def rt_4_1 : List rI := [(30, .putfield 19, 3, [1, 2, 92], 0), (33, .aload_n 0, 1, [], 0), (34, .sipush 1024, 3, [], 1024), (37, .newarray .int, 2, [0], 0), (39, .putfield 23, 3, [1, 3, 93], 0), (42, .aload_n 0, 1, [], 0), (43, .sipush 8192, 3, [], 8192), (46, .newarray .byte, 2, [1], 0), (48, .putfield 26, 3, [1, 4, 94], 0), (51, .return_, 1, [], 0)]
def rt_4 : List (List rI) := [rt_4_0, rt_4_1]
def rt_5_0 : List rI := [(0, .iload_n 1, 1, [], 0), (1, .tableswitch 91 0 2 #[27, 45, 68], 27, [38, 2, 12, 25], 0), (28, .iload_n 2, 1, [], 0), (29, .ifCond .lt 11, 3, [8], 0), (32, .iload_n 2, 1, [], 0), (33, .aload_n 0, 1, [], 0), (34, .getfield 9, 3, [1, 0, 88], 0), (37, .if_icmp .lt 7, 3, [10], 0), (40, .iconst (-1), 1, [], (-1)), (41, .goto 4, 3, [11], 0), (44, .iload_n 2, 1, [], 0), (45, .ireturn, 1, [], 0), (46, .iload_n 2, 1, [], 0), (47, .ifCond .lt 10, 3, [17], 0), (50, .iload_n 2, 1, [], 0), (51, .sipush 15600, 3, [], 15600)]
def rt_5_1 : List rI := [(54, .if_icmp .lt 7, 3, [19], 0), (57, .iconst (-1), 1, [], (-1)), (58, .goto 10, 3, [24], 0), (61, .aload_n 0, 1, [], 0), (62, .iconst 0, 1, [], 0), (63, .invokevirtual 29, 3, [7, 1, 0, 709], 0), (66, .iload_n 2, 1, [], 0), (67, .iadd, 1, [], 0), (68, .ireturn, 1, [], 0), (69, .iload_n 2, 1, [], 0), (70, .ifCond .lt 10, 3, [30], 0), (73, .iload_n 2, 1, [], 0), (74, .sipush 128, 3, [], 128), (77, .if_icmp .lt 7, 3, [32], 0), (80, .iconst (-1), 1, [], (-1)), (81, .goto 10, 3, [37], 0)]
def rt_5_2 : List rI := [(84, .aload_n 0, 1, [], 0), (85, .iconst 0, 1, [], 0), (86, .invokevirtual 33, 3, [8, 1, 0, 710], 0), (89, .iload_n 2, 1, [], 0), (90, .iadd, 1, [], 0), (91, .ireturn, 1, [], 0), (92, .iconst (-1), 1, [], (-1)), (93, .ireturn, 1, [], 0)]
def rt_5 : List (List rI) := [rt_5_0, rt_5_1, rt_5_2]
def rt_6_0 : List rI := [(0, .iload_n 1, 1, [], 0), (1, .aload_n 0, 1, [], 0), (2, .getfield 9, 3, [1, 0, 88], 0), (5, .irem, 1, [], 0), (6, .istore_n 2, 1, [], 0), (7, .iload_n 2, 1, [], 0), (8, .ifCond .ge 12, 3, [12], 0), (11, .iload_n 2, 1, [], 0), (12, .aload_n 0, 1, [], 0), (13, .getfield 9, 3, [1, 0, 88], 0), (16, .iadd, 1, [], 0), (17, .goto 4, 3, [13], 0), (20, .iload_n 2, 1, [], 0), (21, .ireturn, 1, [], 0)]
def rt_6 : List (List rI) := [rt_6_0]
def rt_7_0 : List rI := [(0, .aload_n 0, 1, [], 0), (1, .getfield 9, 3, [1, 0, 88], 0), (4, .iload_n 1, 1, [], 0), (5, .sipush 1300, 3, [], 1300), (8, .imul, 1, [], 0), (9, .iadd, 1, [], 0), (10, .ireturn, 1, [], 0)]
def rt_7 : List (List rI) := [rt_7_0]
def rt_8_0 : List rI := [(0, .aload_n 0, 1, [], 0), (1, .getfield 9, 3, [1, 0, 88], 0), (4, .sipush 15600, 3, [], 15600), (7, .iadd, 1, [], 0), (8, .iload_n 1, 1, [], 0), (9, .iconst 1, 1, [], 1), (10, .iand, 1, [], 0), (11, .bipush 64, 2, [], 64), (13, .imul, 1, [], 0), (14, .iadd, 1, [], 0), (15, .ireturn, 1, [], 0)]
def rt_8 : List (List rI) := [rt_8_0]
def rt_9_0 : List rI := [(0, .iload_n 1, 1, [], 0), (1, .ifCond .lt 12, 3, [7], 0), (4, .iload_n 1, 1, [], 0), (5, .aload_n 0, 1, [], 0), (6, .getfield 15, 3, [1, 1, 91], 0), (9, .arraylength, 1, [], 0), (10, .if_icmp .lt 7, 3, [9], 0), (13, .iconst 0, 1, [], 0), (14, .goto 13, 3, [15], 0), (17, .aload_n 0, 1, [], 0), (18, .getfield 15, 3, [1, 1, 91], 0), (21, .iload_n 1, 1, [], 0), (22, .baload, 1, [], 0), (23, .sipush 255, 3, [], 255), (26, .iand, 1, [], 0), (27, .ireturn, 1, [], 0)]
def rt_9 : List (List rI) := [rt_9_0]
def rt_10_0 : List rI := [(0, .aload_n 0, 1, [], 0), (1, .iload_n 1, 1, [], 0), (2, .invokevirtual 36, 3, [9, 1, 0, 350], 0), (5, .bipush 24, 2, [], 24), (7, .ishl, 1, [], 0), (8, .aload_n 0, 1, [], 0), (9, .iload_n 1, 1, [], 0), (10, .iconst 1, 1, [], 1), (11, .iadd, 1, [], 0), (12, .invokevirtual 36, 3, [9, 1, 0, 350], 0), (15, .bipush 16, 2, [], 16), (17, .ishl, 1, [], 0), (18, .ior, 1, [], 0), (19, .aload_n 0, 1, [], 0), (20, .iload_n 1, 1, [], 0), (21, .iconst 2, 1, [], 2)]
def rt_10_1 : List rI := [(22, .iadd, 1, [], 0), (23, .invokevirtual 36, 3, [9, 1, 0, 350], 0), (26, .bipush 8, 2, [], 8), (28, .ishl, 1, [], 0), (29, .ior, 1, [], 0), (30, .aload_n 0, 1, [], 0), (31, .iload_n 1, 1, [], 0), (32, .iconst 3, 1, [], 3), (33, .iadd, 1, [], 0), (34, .invokevirtual 36, 3, [9, 1, 0, 350], 0), (37, .ior, 1, [], 0), (38, .ireturn, 1, [], 0)]
def rt_10 : List (List rI) := [rt_10_0, rt_10_1]
def rt_11_0 : List rI := [(0, .aload_n 0, 1, [], 0), (1, .getfield 15, 3, [1, 1, 91], 0), (4, .aload_n 0, 1, [], 0), (5, .iload_n 1, 1, [], 0), (6, .invokevirtual 39, 3, [6, 1, 0, 372], 0), (9, .baload, 1, [], 0), (10, .sipush 255, 3, [], 255), (13, .iand, 1, [], 0), (14, .ireturn, 1, [], 0)]
def rt_11 : List (List rI) := [rt_11_0]
def rt_12_0 : List rI := [(0, .aload_n 0, 1, [], 0), (1, .iload_n 1, 1, [], 0), (2, .invokevirtual 42, 3, [11, 1, 0, 383], 0), (5, .bipush 24, 2, [], 24), (7, .ishl, 1, [], 0), (8, .aload_n 0, 1, [], 0), (9, .iload_n 1, 1, [], 0), (10, .iconst 1, 1, [], 1), (11, .iadd, 1, [], 0), (12, .invokevirtual 42, 3, [11, 1, 0, 383], 0), (15, .bipush 16, 2, [], 16), (17, .ishl, 1, [], 0), (18, .ior, 1, [], 0), (19, .aload_n 0, 1, [], 0), (20, .iload_n 1, 1, [], 0), (21, .iconst 2, 1, [], 2)]
def rt_12_1 : List rI := [(22, .iadd, 1, [], 0), (23, .invokevirtual 42, 3, [11, 1, 0, 383], 0), (26, .bipush 8, 2, [], 8), (28, .ishl, 1, [], 0), (29, .ior, 1, [], 0), (30, .aload_n 0, 1, [], 0), (31, .iload_n 1, 1, [], 0), (32, .iconst 3, 1, [], 3), (33, .iadd, 1, [], 0), (34, .invokevirtual 42, 3, [11, 1, 0, 383], 0), (37, .ior, 1, [], 0), (38, .ireturn, 1, [], 0)]
def rt_12 : List (List rI) := [rt_12_0, rt_12_1]
def rt_13_0 : List rI := [(0, .bipush 12, 2, [], 12), (2, .aload_n 0, 1, [], 0), (3, .iload_n 1, 1, [], 0), (4, .iconst 2, 1, [], 2), (5, .iadd, 1, [], 0), (6, .invokevirtual 42, 3, [11, 1, 0, 383], 0), (9, .iadd, 1, [], 0), (10, .ireturn, 1, [], 0)]
def rt_13 : List (List rI) := [rt_13_0]
def rt_14_0 : List rI := [(0, .aload_n 0, 1, [], 0), (1, .iload_n 1, 1, [], 0), (2, .iconst 2, 1, [], 2), (3, .iadd, 1, [], 0), (4, .invokevirtual 42, 3, [11, 1, 0, 383], 0), (7, .aload_n 2, 1, [], 0), (8, .arraylength, 1, [], 0), (9, .invokestatic 45, 3, [0, 2, 11, 580], 0), (12, .istore_n 3, 1, [], 0), (13, .iconst 0, 1, [], 0), (14, .istore 4, 2, [], 0), (16, .iload 4, 2, [], 0), (18, .iload_n 3, 1, [], 0), (19, .if_icmp .ge 25, 3, [27], 0), (22, .aload_n 2, 1, [], 0), (23, .iload 4, 2, [], 0)]
def rt_14_1 : List rI := [(25, .aload_n 0, 1, [], 0), (26, .iload_n 1, 1, [], 0), (27, .bipush 12, 2, [], 12), (29, .iadd, 1, [], 0), (30, .iload 4, 2, [], 0), (32, .iadd, 1, [], 0), (33, .invokevirtual 42, 3, [11, 1, 0, 383], 0), (36, .i2b, 1, [], 0), (37, .bastore, 1, [], 0), (38, .iinc 4 1, 3, [], 1), (41, .goto (-25), 3, [11], 0), (44, .iload_n 3, 1, [], 0), (45, .ireturn, 1, [], 0)]
def rt_14 : List (List rI) := [rt_14_0, rt_14_1]
def rt_15_0 : List rI := [(0, .aload_n 0, 1, [], 0), (1, .iload_n 1, 1, [], 0), (2, .invokevirtual 51, 3, [13, 1, 0, 730], 0), (5, .istore_n 3, 1, [], 0), (6, .iload_n 3, 1, [], 0), (7, .aload_n 0, 1, [], 0), (8, .iload_n 2, 1, [], 0), (9, .invokevirtual 51, 3, [13, 1, 0, 730], 0), (12, .if_icmp .ne 7, 3, [11], 0), (15, .iconst 1, 1, [], 1), (16, .goto 4, 3, [12], 0), (19, .iconst 0, 1, [], 0), (20, .istore 4, 2, [], 0), (22, .bipush 12, 2, [], 12), (24, .istore 5, 2, [], 0), (26, .iload 4, 2, [], 0)]
def rt_15_1 : List rI := [(28, .ifCond .eq 41, 3, [37], 0), (31, .iload 5, 2, [], 0), (33, .iload_n 3, 1, [], 0), (34, .if_icmp .ge 35, 3, [37], 0), (37, .aload_n 0, 1, [], 0), (38, .iload_n 1, 1, [], 0), (39, .iload 5, 2, [], 0), (41, .iadd, 1, [], 0), (42, .invokevirtual 42, 3, [11, 1, 0, 383], 0), (45, .aload_n 0, 1, [], 0), (46, .iload_n 2, 1, [], 0), (47, .iload 5, 2, [], 0), (49, .iadd, 1, [], 0), (50, .invokevirtual 42, 3, [11, 1, 0, 383], 0), (53, .if_icmp .ne 7, 3, [33], 0), (56, .iconst 1, 1, [], 1)]
def rt_15_2 : List rI := [(57, .goto 4, 3, [34], 0), (60, .iconst 0, 1, [], 0), (61, .istore 4, 2, [], 0), (63, .iinc 5 1, 3, [], 1), (66, .goto (-40), 3, [15], 0), (69, .iload 4, 2, [], 0), (71, .ireturn, 1, [], 0)]
def rt_15 : List (List rI) := [rt_15_0, rt_15_1, rt_15_2]
def rt_16_0 : List rI := [(0, .aload_n 0, 1, [], 0), (1, .getfield 54, 3, [1, 10, 104], 0), (4, .ifCond .ne 26, 3, [16], 0), (7, .aload_n 0, 1, [], 0), (8, .iload_n 1, 1, [], 0), (9, .iload 4, 2, [], 0), (11, .invokevirtual 58, 3, [19, 2, 0, 402], 0), (14, .ifCond .eq 16, 3, [16], 0), (17, .iload_n 3, 1, [], 0), (18, .ifCond .lt 12, 3, [16], 0), (21, .iload_n 3, 1, [], 0), (22, .iload 4, 2, [], 0), (24, .iadd, 1, [], 0), (25, .aload_n 2, 1, [], 0), (26, .arraylength, 1, [], 0), (27, .if_icmp .le 4, 3, [17], 0)]
def rt_16_1 : List rI := [(30, .return_, 1, [], 0), (31, .aload_n 0, 1, [], 0), (32, .getfield 62, 3, [1, 6, 97], 0), (35, .sipush 1024, 3, [], 1024), (38, .if_icmp .eq 16, 3, [27], 0), (41, .aload_n 0, 1, [], 0), (42, .getfield 65, 3, [1, 5, 95], 0), (45, .iload 4, 2, [], 0), (47, .iadd, 1, [], 0), (48, .sipush 8192, 3, [], 8192), (51, .if_icmp .le 7, 3, [29], 0), (54, .aload_n 0, 1, [], 0), (55, .invokevirtual 68, 3, [17, 0, 0, 406], 0), (58, .aload_n 0, 1, [], 0), (59, .getfield 19, 3, [1, 2, 92], 0), (62, .aload_n 0, 1, [], 0)]
def rt_16_2 : List rI := [(63, .getfield 62, 3, [1, 6, 97], 0), (66, .iload_n 1, 1, [], 0), (67, .iastore, 1, [], 0), (68, .aload_n 0, 1, [], 0), (69, .getfield 23, 3, [1, 3, 93], 0), (72, .aload_n 0, 1, [], 0), (73, .getfield 62, 3, [1, 6, 97], 0), (76, .iload 4, 2, [], 0), (78, .iastore, 1, [], 0), (79, .aload_n 0, 1, [], 0), (80, .dup, 1, [], 0), (81, .getfield 62, 3, [1, 6, 97], 0), (84, .iconst 1, 1, [], 1), (85, .iadd, 1, [], 0), (86, .putfield 62, 3, [1, 6, 97], 0), (89, .iload_n 1, 1, [], 0)]
def rt_16_3 : List rI := [(90, .istore 5, 2, [], 0), (92, .iconst 0, 1, [], 0), (93, .istore 6, 2, [], 0), (95, .iload 6, 2, [], 0), (97, .iload 4, 2, [], 0), (99, .if_icmp .ge 56, 3, [84], 0), (102, .aload_n 0, 1, [], 0), (103, .getfield 26, 3, [1, 4, 94], 0), (106, .aload_n 0, 1, [], 0), (107, .getfield 65, 3, [1, 5, 95], 0), (110, .aload_n 0, 1, [], 0), (111, .getfield 15, 3, [1, 1, 91], 0), (114, .iload 5, 2, [], 0), (116, .baload, 1, [], 0), (117, .bastore, 1, [], 0), (118, .aload_n 0, 1, [], 0)]
def rt_16_4 : List rI := [(119, .dup, 1, [], 0), (120, .getfield 65, 3, [1, 5, 95], 0), (123, .iconst 1, 1, [], 1), (124, .iadd, 1, [], 0), (125, .putfield 65, 3, [1, 5, 95], 0), (128, .aload_n 0, 1, [], 0), (129, .getfield 15, 3, [1, 1, 91], 0), (132, .iload 5, 2, [], 0), (134, .aload_n 2, 1, [], 0), (135, .iload_n 3, 1, [], 0), (136, .iload 6, 2, [], 0), (138, .iadd, 1, [], 0), (139, .baload, 1, [], 0), (140, .bastore, 1, [], 0), (141, .aload_n 0, 1, [], 0), (142, .iload 5, 2, [], 0)]
def rt_16_5 : List rI := [(144, .invokevirtual 71, 3, [20, 1, 0, 410], 0), (147, .istore 5, 2, [], 0), (149, .iinc 6 1, 3, [], 1), (152, .goto (-57), 3, [51], 0), (155, .aload_n 0, 1, [], 0), (156, .getfield 74, 3, [1, 7, 98], 0), (159, .ifCond .le 29, 3, [101], 0), (162, .aload_n 0, 1, [], 0), (163, .dup, 1, [], 0), (164, .getfield 74, 3, [1, 7, 98], 0), (167, .iconst 1, 1, [], 1), (168, .isub, 1, [], 0), (169, .putfield 74, 3, [1, 7, 98], 0), (172, .aload_n 0, 1, [], 0), (173, .aload_n 0, 1, [], 0), (174, .getfield 74, 3, [1, 7, 98], 0)]
def rt_16_6 : List rI := [(177, .ifCond .ne 7, 3, [99], 0), (180, .iconst 1, 1, [], 1), (181, .goto 4, 3, [100], 0), (184, .iconst 0, 1, [], 0), (185, .putfield 54, 3, [1, 10, 104], 0), (188, .return_, 1, [], 0)]
def rt_16 : List (List rI) := [rt_16_0, rt_16_1, rt_16_2, rt_16_3, rt_16_4, rt_16_5, rt_16_6]
def rt_17_0 : List rI := [(0, .aload_n 0, 1, [], 0), (1, .getfield 54, 3, [1, 10, 104], 0), (4, .ifCond .ne 13, 3, [9], 0), (7, .aload_n 0, 1, [], 0), (8, .iconst 0, 1, [], 0), (9, .putfield 62, 3, [1, 6, 97], 0), (12, .aload_n 0, 1, [], 0), (13, .iconst 0, 1, [], 0), (14, .putfield 65, 3, [1, 5, 95], 0), (17, .return_, 1, [], 0)]
def rt_17 : List (List rI) := [rt_17_0]
def rt_18_0 : List rI := [(0, .aload_n 0, 1, [], 0), (1, .getfield 62, 3, [1, 6, 97], 0), (4, .iconst 1, 1, [], 1), (5, .isub, 1, [], 0), (6, .istore_n 3, 1, [], 0), (7, .iload_n 3, 1, [], 0), (8, .ifCond .lt 95, 3, [57], 0), (11, .iload_n 3, 1, [], 0), (12, .iload_n 1, 1, [], 0), (13, .if_icmp .lt 90, 3, [57], 0), (16, .aload_n 0, 1, [], 0), (17, .dup, 1, [], 0), (18, .getfield 65, 3, [1, 5, 95], 0), (21, .aload_n 0, 1, [], 0), (22, .getfield 23, 3, [1, 3, 93], 0), (25, .iload_n 3, 1, [], 0)]
def rt_18_1 : List rI := [(26, .iaload, 1, [], 0), (27, .isub, 1, [], 0), (28, .putfield 65, 3, [1, 5, 95], 0), (31, .aload_n 0, 1, [], 0), (32, .getfield 19, 3, [1, 2, 92], 0), (35, .iload_n 3, 1, [], 0), (36, .iaload, 1, [], 0), (37, .istore 4, 2, [], 0), (39, .iconst 0, 1, [], 0), (40, .istore 5, 2, [], 0), (42, .iload 5, 2, [], 0), (44, .aload_n 0, 1, [], 0), (45, .getfield 23, 3, [1, 3, 93], 0), (48, .iload_n 3, 1, [], 0), (49, .iaload, 1, [], 0), (50, .if_icmp .ge 47, 3, [55], 0)]
def rt_18_2 : List rI := [(53, .iload_n 3, 1, [], 0), (54, .iload_n 1, 1, [], 0), (55, .if_icmp .gt 9, 3, [38], 0), (58, .iload 5, 2, [], 0), (60, .iload_n 2, 1, [], 0), (61, .if_icmp .lt 22, 3, [49], 0), (64, .aload_n 0, 1, [], 0), (65, .getfield 15, 3, [1, 1, 91], 0), (68, .iload 4, 2, [], 0), (70, .aload_n 0, 1, [], 0), (71, .getfield 26, 3, [1, 4, 94], 0), (74, .aload_n 0, 1, [], 0), (75, .getfield 65, 3, [1, 5, 95], 0), (78, .iload 5, 2, [], 0), (80, .iadd, 1, [], 0), (81, .baload, 1, [], 0)]
def rt_18_3 : List rI := [(82, .bastore, 1, [], 0), (83, .aload_n 0, 1, [], 0), (84, .iload 4, 2, [], 0), (86, .invokevirtual 71, 3, [20, 1, 0, 410], 0), (89, .istore 4, 2, [], 0), (91, .iinc 5 1, 3, [], 1), (94, .goto (-52), 3, [26], 0), (97, .iinc 3 (-1), 3, [], (-1)), (100, .goto (-93), 3, [5], 0), (103, .aload_n 0, 1, [], 0), (104, .iconst 0, 1, [], 0), (105, .putfield 62, 3, [1, 6, 97], 0), (108, .aload_n 0, 1, [], 0), (109, .iconst 0, 1, [], 0), (110, .putfield 65, 3, [1, 5, 95], 0), (113, .aload_n 0, 1, [], 0)]
def rt_18_4 : List rI := [(114, .iconst 0, 1, [], 0), (115, .putfield 74, 3, [1, 7, 98], 0), (118, .aload_n 0, 1, [], 0), (119, .iconst 1, 1, [], 1), (120, .putfield 54, 3, [1, 10, 104], 0), (123, .return_, 1, [], 0)]
def rt_18 : List (List rI) := [rt_18_0, rt_18_1, rt_18_2, rt_18_3, rt_18_4]
def rt_19_0 : List rI := [(0, .iload_n 1, 1, [], 0), (1, .ifCond .lt 15, 3, [8], 0), (4, .iload_n 1, 1, [], 0), (5, .aload_n 0, 1, [], 0), (6, .getfield 9, 3, [1, 0, 88], 0), (9, .if_icmp .ge 7, 3, [8], 0), (12, .iconst 1, 1, [], 1), (13, .goto 4, 3, [9], 0), (16, .iconst 0, 1, [], 0), (17, .istore_n 3, 1, [], 0), (18, .iload_n 3, 1, [], 0), (19, .ifCond .ne 22, 3, [23], 0), (22, .iload_n 1, 1, [], 0), (23, .aload_n 0, 1, [], 0), (24, .getfield 9, 3, [1, 0, 88], 0), (27, .if_icmp .lt 18, 3, [25], 0)]
def rt_19_1 : List rI := [(30, .iload_n 1, 1, [], 0), (31, .iload_n 2, 1, [], 0), (32, .iadd, 1, [], 0), (33, .aload_n 0, 1, [], 0), (34, .getfield 15, 3, [1, 1, 91], 0), (37, .arraylength, 1, [], 0), (38, .if_icmp .gt 7, 3, [25], 0), (41, .iconst 1, 1, [], 1), (42, .goto 4, 3, [26], 0), (45, .iconst 0, 1, [], 0), (46, .ireturn, 1, [], 0)]
def rt_19 : List (List rI) := [rt_19_0, rt_19_1]
def rt_20_0 : List rI := [(0, .iload_n 1, 1, [], 0), (1, .iconst 1, 1, [], 1), (2, .iadd, 1, [], 0), (3, .aload_n 0, 1, [], 0), (4, .getfield 9, 3, [1, 0, 88], 0), (7, .if_icmp .ne 7, 3, [8], 0), (10, .iconst 0, 1, [], 0), (11, .goto 6, 3, [11], 0), (14, .iload_n 1, 1, [], 0), (15, .iconst 1, 1, [], 1), (16, .iadd, 1, [], 0), (17, .ireturn, 1, [], 0)]
def rt_20 : List (List rI) := [rt_20_0]
def rt_21_0 : List rI := [(0, .aload_n 0, 1, [], 0), (1, .invokespecial 3, 3, [0, 0, 12, 141], 0), (4, .aload_n 0, 1, [], 0), (5, .bipush 120, 2, [], 120), (7, .newarray .int, 2, [0], 0), (9, .putfield 9, 3, [2, 0, 142], 0), (12, .aload_n 0, 1, [], 0), (13, .bipush 120, 2, [], 120), (15, .newarray .int, 2, [0], 0), (17, .putfield 15, 3, [2, 1, 146], 0), (20, .aload_n 0, 1, [], 0), (21, .bipush 120, 2, [], 120), (23, .newarray .int, 2, [0], 0), (25, .putfield 18, 3, [2, 2, 150], 0), (28, .return_, 1, [], 0)]
def rt_21 : List (List rI) := [rt_21_0]
def rt_22_0 : List rI := [(0, .iconst 0, 1, [], 0), (1, .istore_n 1, 1, [], 0), (2, .iload_n 1, 1, [], 0), (3, .bipush 120, 2, [], 120), (5, .if_icmp .ge 16, 3, [12], 0), (8, .aload_n 0, 1, [], 0), (9, .getfield 9, 3, [2, 0, 142], 0), (12, .iload_n 1, 1, [], 0), (13, .iconst 0, 1, [], 0), (14, .iastore, 1, [], 0), (15, .iinc 1 1, 3, [], 1), (18, .goto (-16), 3, [2], 0), (21, .aload_n 0, 1, [], 0), (22, .iconst 0, 1, [], 0), (23, .putfield 21, 3, [2, 3, 154], 0), (26, .return_, 1, [], 0)]
def rt_22 : List (List rI) := [rt_22_0]
def rt_23_0 : List rI := [(0, .iload_n 1, 1, [], 0), (1, .invokestatic 25, 3, [79, 1, 2, 396], 0), (4, .ifCond .eq 16, 3, [10], 0), (7, .aload_n 0, 1, [], 0), (8, .getfield 9, 3, [2, 0, 142], 0), (11, .iload_n 1, 1, [], 0), (12, .iaload, 1, [], 0), (13, .ifCond .eq 7, 3, [10], 0), (16, .iconst 1, 1, [], 1), (17, .goto 4, 3, [11], 0), (20, .iconst 0, 1, [], 0), (21, .ireturn, 1, [], 0)]
def rt_23 : List (List rI) := [rt_23_0]
def rt_24_0 : List rI := [(0, .iload_n 1, 1, [], 0), (1, .invokestatic 25, 3, [79, 1, 2, 396], 0), (4, .ifCond .ne 4, 3, [4], 0), (7, .return_, 1, [], 0), (8, .aload_n 0, 1, [], 0), (9, .getfield 9, 3, [2, 0, 142], 0), (12, .iload_n 1, 1, [], 0), (13, .iaload, 1, [], 0), (14, .ifCond .ne 13, 3, [15], 0), (17, .aload_n 0, 1, [], 0), (18, .dup, 1, [], 0), (19, .getfield 21, 3, [2, 3, 154], 0), (22, .iconst 1, 1, [], 1), (23, .iadd, 1, [], 0), (24, .putfield 21, 3, [2, 3, 154], 0), (27, .aload_n 0, 1, [], 0)]
def rt_24_1 : List rI := [(28, .getfield 9, 3, [2, 0, 142], 0), (31, .iload_n 1, 1, [], 0), (32, .iload_n 2, 1, [], 0), (33, .iastore, 1, [], 0), (34, .aload_n 0, 1, [], 0), (35, .getfield 15, 3, [2, 1, 146], 0), (38, .iload_n 1, 1, [], 0), (39, .iload_n 3, 1, [], 0), (40, .iastore, 1, [], 0), (41, .aload_n 0, 1, [], 0), (42, .getfield 18, 3, [2, 2, 150], 0), (45, .iload_n 1, 1, [], 0), (46, .iload 4, 2, [], 0), (48, .iastore, 1, [], 0), (49, .return_, 1, [], 0)]
def rt_24 : List (List rI) := [rt_24_0, rt_24_1]
def rt_25_0 : List rI := [(0, .iconst 0, 1, [], 0), (1, .istore_n 1, 1, [], 0), (2, .iload_n 1, 1, [], 0), (3, .bipush 120, 2, [], 120), (5, .if_icmp .ge 36, 3, [24], 0), (8, .aload_n 0, 1, [], 0), (9, .getfield 9, 3, [2, 0, 142], 0), (12, .iload_n 1, 1, [], 0), (13, .iaload, 1, [], 0), (14, .iconst 2, 1, [], 2), (15, .if_icmp .ne 20, 3, [22], 0), (18, .aload_n 0, 1, [], 0), (19, .getfield 9, 3, [2, 0, 142], 0), (22, .iload_n 1, 1, [], 0), (23, .iconst 0, 1, [], 0), (24, .iastore, 1, [], 0)]
def rt_25_1 : List rI := [(25, .aload_n 0, 1, [], 0), (26, .dup, 1, [], 0), (27, .getfield 21, 3, [2, 3, 154], 0), (30, .iconst 1, 1, [], 1), (31, .isub, 1, [], 0), (32, .putfield 21, 3, [2, 3, 154], 0), (35, .iinc 1 1, 3, [], 1), (38, .goto (-36), 3, [2], 0), (41, .return_, 1, [], 0)]
def rt_25 : List (List rI) := [rt_25_0, rt_25_1]
def rt_26_0 : List rI := [(0, .aload_n 0, 1, [], 0), (1, .getfield 21, 3, [2, 3, 154], 0), (4, .istore_n 2, 1, [], 0), (5, .iconst 0, 1, [], 0), (6, .istore_n 3, 1, [], 0), (7, .iload_n 3, 1, [], 0), (8, .aload_n 1, 1, [], 0), (9, .getfield 29, 3, [0, 4, 316], 0), (12, .if_icmp .ge 33, 3, [23], 0), (15, .aload_n 0, 1, [], 0), (16, .aload_n 1, 1, [], 0), (17, .getfield 32, 3, [0, 1, 308], 0), (20, .iload_n 3, 1, [], 0), (21, .iaload, 1, [], 0), (22, .invokevirtual 35, 3, [23, 1, 0, 483], 0), (25, .ifCond .ne 14, 3, [21], 0)]
def rt_26_1 : List rI := [(28, .aload_n 1, 1, [], 0), (29, .iload_n 3, 1, [], 0), (30, .invokevirtual 38, 3, [2, 1, 0, 487], 0), (33, .ifCond .eq 6, 3, [21], 0), (36, .iinc 2 1, 3, [], 1), (39, .iinc 3 1, 3, [], 1), (42, .goto (-35), 3, [5], 0), (45, .iload_n 2, 1, [], 0), (46, .ireturn, 1, [], 0)]
def rt_26 : List (List rI) := [rt_26_0, rt_26_1]
def rt_27_0 : List rI := [(0, .aload_n 0, 1, [], 0), (1, .invokespecial 3, 3, [0, 0, 12, 230], 0), (4, .return_, 1, [], 0)]
def rt_27 : List (List rI) := [rt_27_0]
def rt_28_0 : List rI := [(0, .aload_n 0, 1, [], 0), (1, .iconst 0, 1, [], 0), (2, .putfield 9, 3, [3, 0, 231], 0), (5, .aload_n 0, 1, [], 0), (6, .iconst 0, 1, [], 0), (7, .putfield 15, 3, [3, 1, 235], 0), (10, .aload_n 0, 1, [], 0), (11, .iconst 0, 1, [], 0), (12, .putfield 18, 3, [3, 2, 238], 0), (15, .aload_n 0, 1, [], 0), (16, .iconst 0, 1, [], 0), (17, .putfield 21, 3, [3, 3, 242], 0), (20, .aload_n 0, 1, [], 0), (21, .iconst 0, 1, [], 0), (22, .putfield 25, 3, [3, 4, 245], 0), (25, .aload_n 0, 1, [], 0)]
def rt_28_1 : List rI := [(26, .iconst 0, 1, [], 0), (27, .putfield 28, 3, [3, 5, 248], 0), (30, .return_, 1, [], 0)]
def rt_28 : List (List rI) := [rt_28_0, rt_28_1]
def rt_29_0 : List rI := [(0, .aload_n 0, 1, [], 0), (1, .invokespecial 3, 3, [0, 0, 12, 224], 0), (4, .aload_n 0, 1, [], 0), (5, .new 9, 3, [3, 225, 226, 64], 0), (8, .dup, 1, [], 0), (9, .invokespecial 11, 3, [27, 0, 3, 227], 0), (12, .putfield 12, 3, [4, 2, 268], 0), (15, .aload_n 0, 1, [], 0), (16, .new 18, 3, [2, 264, 137, 62], 0), (19, .dup, 1, [], 0), (20, .invokespecial 20, 3, [21, 0, 3, 265], 0), (23, .putfield 21, 3, [4, 3, 269], 0), (26, .aload_n 0, 1, [], 0), (27, .bipush 12, 2, [], 12), (29, .newarray .byte, 2, [1], 0), (31, .putfield 25, 3, [4, 4, 270], 0)]
def rt_29_1 : List rI := [(34, .aload_n 0, 1, [], 0), (35, .bipush 12, 2, [], 12), (37, .newarray .byte, 2, [1], 0), (39, .putfield 29, 3, [4, 5, 271], 0), (42, .aload_n 0, 1, [], 0), (43, .sipush 1300, 3, [], 1300), (46, .newarray .byte, 2, [1], 0), (48, .putfield 32, 3, [4, 6, 272], 0), (51, .aload_n 0, 1, [], 0), (52, .bipush 64, 2, [], 64), (54, .newarray .byte, 2, [1], 0), (56, .putfield 35, 3, [4, 7, 273], 0), (59, .aload_n 0, 1, [], 0), (60, .aload_n 1, 1, [], 0), (61, .putfield 38, 3, [4, 0, 266], 0), (64, .aload_n 0, 1, [], 0)]
def rt_29_2 : List rI := [(65, .aload_n 2, 1, [], 0), (66, .putfield 42, 3, [4, 1, 267], 0), (69, .return_, 1, [], 0)]
def rt_29 : List (List rI) := [rt_29_0, rt_29_1, rt_29_2]
def rt_30_0 : List rI := [(0, .aload_n 0, 1, [], 0), (1, .getfield 38, 3, [4, 0, 266], 0), (4, .iconst 0, 1, [], 0), (5, .putfield 46, 3, [1, 10, 103], 0), (8, .aload_n 0, 1, [], 0), (9, .getfield 42, 3, [4, 1, 267], 0), (12, .invokevirtual 52, 3, [42, 0, 0, 334], 0), (15, .istore_n 1, 1, [], 0), (16, .aload_n 0, 1, [], 0), (17, .getfield 38, 3, [4, 0, 266], 0), (20, .aload_n 0, 1, [], 0), (21, .getfield 38, 3, [4, 0, 266], 0), (24, .aload_n 0, 1, [], 0), (25, .getfield 42, 3, [4, 1, 267], 0), (28, .getfield 58, 3, [5, 8, 188], 0), (31, .invokevirtual 62, 3, [6, 1, 0, 397], 0)]
def rt_30_1 : List rI := [(34, .aload_n 0, 1, [], 0), (35, .getfield 25, 3, [4, 4, 270], 0), (38, .iconst 0, 1, [], 0), (39, .bipush 12, 2, [], 12), (41, .invokevirtual 66, 3, [16, 4, 0, 398], 0), (44, .aload_n 0, 1, [], 0), (45, .getfield 38, 3, [4, 0, 266], 0), (48, .invokevirtual 70, 3, [17, 0, 0, 414], 0), (51, .iload_n 1, 1, [], 0), (52, .ireturn, 1, [], 0)]
def rt_30 : List (List rI) := [rt_30_0, rt_30_1]
def rt_31_0 : List rI := [(0, .aload_n 1, 1, [], 0), (1, .invokevirtual 73, 3, [3, 0, 0, 475], 0), (4, .sipush 176, 3, [], 176), (7, .iadd, 1, [], 0), (8, .istore_n 2, 1, [], 0), (9, .aload_n 0, 1, [], 0), (10, .getfield 42, 3, [4, 1, 267], 0), (13, .getfield 78, 3, [5, 1, 168], 0), (16, .aload_n 1, 1, [], 0), (17, .invokevirtual 81, 3, [26, 1, 0, 479], 0), (20, .bipush 24, 2, [], 24), (22, .if_icmp .le 7, 3, [14], 0), (25, .aload_n 0, 1, [], 0), (26, .invokevirtual 85, 3, [35, 0, 0, 491], 0), (29, .aload_n 0, 1, [], 0), (30, .iload_n 2, 1, [], 0)]
def rt_31_1 : List rI := [(31, .invokevirtual 88, 3, [33, 1, 0, 547], 0), (34, .ifCond .ne 87, 3, [57], 0), (37, .aload_n 0, 1, [], 0), (38, .getfield 42, 3, [4, 1, 267], 0), (41, .getfield 58, 3, [5, 8, 188], 0), (44, .istore_n 3, 1, [], 0), (45, .iconst 1, 1, [], 1), (46, .istore 4, 2, [], 0), (48, .iconst 0, 1, [], 0), (49, .istore 5, 2, [], 0), (51, .iload 5, 2, [], 0), (53, .sipush 1000, 3, [], 1000), (56, .if_icmp .ge 34, 3, [42], 0), (59, .iload 4, 2, [], 0), (61, .ifCond .le 29, 3, [42], 0), (64, .aload_n 0, 1, [], 0)]
def rt_31_2 : List rI := [(65, .getfield 42, 3, [4, 1, 267], 0), (68, .getfield 92, 3, [5, 7, 185], 0), (71, .iload_n 3, 1, [], 0), (72, .if_icmp .ge 18, 3, [42], 0), (75, .aload_n 0, 1, [], 0), (76, .sipush 1000, 3, [], 1000), (79, .invokevirtual 95, 3, [39, 1, 0, 551], 0), (82, .istore 4, 2, [], 0), (84, .iinc 5 1, 3, [], 1), (87, .goto (-36), 3, [26], 0), (90, .aload_n 0, 1, [], 0), (91, .iload_n 2, 1, [], 0), (92, .invokevirtual 88, 3, [33, 1, 0, 547], 0), (95, .ifCond .ne 6, 3, [48], 0), (98, .bipush (-3), 2, [], (-3)), (100, .ireturn, 1, [], 0)]
def rt_31_3 : List rI := [(101, .aload_n 0, 1, [], 0), (102, .getfield 42, 3, [4, 1, 267], 0), (105, .getfield 78, 3, [5, 1, 168], 0), (108, .aload_n 1, 1, [], 0), (109, .invokevirtual 81, 3, [26, 1, 0, 479], 0), (112, .bipush 24, 2, [], 24), (114, .if_icmp .le 7, 3, [57], 0), (117, .aload_n 0, 1, [], 0), (118, .invokevirtual 85, 3, [35, 0, 0, 491], 0), (121, .aload_n 0, 1, [], 0), (122, .aload_n 1, 1, [], 0), (123, .invokevirtual 98, 3, [32, 1, 0, 586], 0), (126, .aload_n 1, 1, [], 0), (127, .getfield 102, 3, [0, 4, 315], 0), (130, .ireturn, 1, [], 0)]
def rt_31 : List (List rI) := [rt_31_0, rt_31_1, rt_31_2, rt_31_3]
def rt_32_0 : List rI := [(0, .iconst 0, 1, [], 0), (1, .istore_n 2, 1, [], 0), (2, .iload_n 2, 1, [], 0), (3, .aload_n 1, 1, [], 0), (4, .getfield 102, 3, [0, 4, 315], 0), (7, .if_icmp .ge 57, 3, [38], 0), (10, .iload_n 2, 1, [], 0), (11, .aload_n 1, 1, [], 0), (12, .getfield 102, 3, [0, 4, 315], 0), (15, .iconst 1, 1, [], 1), (16, .isub, 1, [], 0), (17, .if_icmp .ge 9, 3, [14], 0), (20, .sipush 128, 3, [], 128), (23, .goto 4, 3, [15], 0), (26, .iconst 0, 1, [], 0), (27, .istore_n 3, 1, [], 0)]
def rt_32_1 : List rI := [(28, .aload_n 0, 1, [], 0), (29, .aload_n 1, 1, [], 0), (30, .getfield 105, 3, [0, 0, 305], 0), (33, .iload_n 2, 1, [], 0), (34, .iaload, 1, [], 0), (35, .iload_n 3, 1, [], 0), (36, .ior, 1, [], 0), (37, .aload_n 1, 1, [], 0), (38, .getfield 109, 3, [0, 1, 307], 0), (41, .iload_n 2, 1, [], 0), (42, .iaload, 1, [], 0), (43, .aload_n 1, 1, [], 0), (44, .getfield 112, 3, [0, 3, 312], 0), (47, .iload_n 2, 1, [], 0), (48, .aaload, 1, [], 0), (49, .aload_n 1, 1, [], 0)]
def rt_32_2 : List rI := [(50, .getfield 116, 3, [0, 2, 310], 0), (53, .iload_n 2, 1, [], 0), (54, .iaload, 1, [], 0), (55, .invokevirtual 119, 3, [34, 4, 0, 581], 0), (58, .iinc 2 1, 3, [], 1), (61, .goto (-59), 3, [2], 0), (64, .return_, 1, [], 0)]
def rt_32 : List (List rI) := [rt_32_0, rt_32_1, rt_32_2]
def rt_33_0 : List rI := [(0, .aload_n 0, 1, [], 0), (1, .getfield 42, 3, [4, 1, 267], 0), (4, .getfield 58, 3, [5, 8, 188], 0), (7, .iload_n 1, 1, [], 0), (8, .iadd, 1, [], 0), (9, .bipush 12, 2, [], 12), (11, .iadd, 1, [], 0), (12, .aload_n 0, 1, [], 0), (13, .getfield 42, 3, [4, 1, 267], 0), (16, .getfield 92, 3, [5, 7, 185], 0), (19, .isub, 1, [], 0), (20, .aload_n 0, 1, [], 0), (21, .getfield 38, 3, [4, 0, 266], 0), (24, .getfield 123, 3, [1, 0, 90], 0), (27, .if_icmp .gt 7, 3, [17], 0), (30, .iconst 1, 1, [], 1)]
def rt_33_1 : List rI := [(31, .goto 4, 3, [18], 0), (34, .iconst 0, 1, [], 0), (35, .ireturn, 1, [], 0)]
def rt_33 : List (List rI) := [rt_33_0, rt_33_1]
def rt_34_0 : List rI := [(0, .aload_n 0, 1, [], 0), (1, .getfield 38, 3, [4, 0, 266], 0), (4, .aload_n 0, 1, [], 0), (5, .getfield 38, 3, [4, 0, 266], 0), (8, .aload_n 0, 1, [], 0), (9, .getfield 42, 3, [4, 1, 267], 0), (12, .getfield 58, 3, [5, 8, 188], 0), (15, .bipush 12, 2, [], 12), (17, .iadd, 1, [], 0), (18, .iload 4, 2, [], 0), (20, .iadd, 1, [], 0), (21, .invokevirtual 62, 3, [6, 1, 0, 397], 0), (24, .aload_n 0, 1, [], 0), (25, .getfield 25, 3, [4, 4, 270], 0), (28, .iconst 0, 1, [], 0), (29, .bipush 12, 2, [], 12)]
def rt_34_1 : List rI := [(31, .invokevirtual 66, 3, [16, 4, 0, 398], 0), (34, .iload 4, 2, [], 0), (36, .ifCond .le 31, 3, [33], 0), (39, .aload_n 0, 1, [], 0), (40, .getfield 38, 3, [4, 0, 266], 0), (43, .aload_n 0, 1, [], 0), (44, .getfield 38, 3, [4, 0, 266], 0), (47, .aload_n 0, 1, [], 0), (48, .getfield 42, 3, [4, 1, 267], 0), (51, .getfield 58, 3, [5, 8, 188], 0), (54, .bipush 12, 2, [], 12), (56, .iadd, 1, [], 0), (57, .invokevirtual 62, 3, [6, 1, 0, 397], 0), (60, .aload_n 3, 1, [], 0), (61, .iconst 0, 1, [], 0), (62, .iload 4, 2, [], 0)]
def rt_34_2 : List rI := [(64, .invokevirtual 66, 3, [16, 4, 0, 398], 0), (67, .aload_n 0, 1, [], 0), (68, .getfield 29, 3, [4, 5, 271], 0), (71, .iconst 0, 1, [], 0), (72, .iload_n 1, 1, [], 0), (73, .i2b, 1, [], 0), (74, .bastore, 1, [], 0), (75, .aload_n 0, 1, [], 0), (76, .getfield 29, 3, [4, 5, 271], 0), (79, .iconst 1, 1, [], 1), (80, .iload_n 2, 1, [], 0), (81, .i2b, 1, [], 0), (82, .bastore, 1, [], 0), (83, .aload_n 0, 1, [], 0), (84, .getfield 29, 3, [4, 5, 271], 0), (87, .iconst 2, 1, [], 2)]
def rt_34_3 : List rI := [(88, .iload 4, 2, [], 0), (90, .i2b, 1, [], 0), (91, .bastore, 1, [], 0), (92, .aload_n 0, 1, [], 0), (93, .getfield 29, 3, [4, 5, 271], 0), (96, .iconst 4, 1, [], 4), (97, .aload_n 0, 1, [], 0), (98, .getfield 42, 3, [4, 1, 267], 0), (101, .getfield 126, 3, [5, 9, 191], 0), (104, .invokestatic 129, 3, [40, 3, 1, 510], 0), (107, .aload_n 0, 1, [], 0), (108, .getfield 29, 3, [4, 5, 271], 0), (111, .bipush 8, 2, [], 8), (113, .aload_n 0, 1, [], 0), (114, .getfield 42, 3, [4, 1, 267], 0), (117, .getfield 126, 3, [5, 9, 191], 0)]
def rt_34_4 : List rI := [(120, .invokestatic 129, 3, [40, 3, 1, 510], 0), (123, .aload_n 0, 1, [], 0), (124, .getfield 38, 3, [4, 0, 266], 0), (127, .aload_n 0, 1, [], 0), (128, .getfield 38, 3, [4, 0, 266], 0), (131, .aload_n 0, 1, [], 0), (132, .getfield 42, 3, [4, 1, 267], 0), (135, .getfield 58, 3, [5, 8, 188], 0), (138, .invokevirtual 62, 3, [6, 1, 0, 397], 0), (141, .aload_n 0, 1, [], 0), (142, .getfield 29, 3, [4, 5, 271], 0), (145, .iconst 0, 1, [], 0), (146, .bipush 12, 2, [], 12), (148, .invokevirtual 66, 3, [16, 4, 0, 398], 0), (151, .aload_n 0, 1, [], 0), (152, .getfield 42, 3, [4, 1, 267], 0)]
def rt_34_5 : List rI := [(155, .getfield 78, 3, [5, 1, 168], 0), (158, .iload_n 2, 1, [], 0), (159, .iload_n 1, 1, [], 0), (160, .sipush (-129), 3, [], (-129)), (163, .iand, 1, [], 0), (164, .aload_n 0, 1, [], 0), (165, .getfield 42, 3, [4, 1, 267], 0), (168, .getfield 126, 3, [5, 9, 191], 0), (171, .aload_n 0, 1, [], 0), (172, .getfield 42, 3, [4, 1, 267], 0), (175, .getfield 58, 3, [5, 8, 188], 0), (178, .invokevirtual 133, 3, [24, 4, 0, 585], 0), (181, .aload_n 0, 1, [], 0), (182, .getfield 42, 3, [4, 1, 267], 0), (185, .dup, 1, [], 0), (186, .getfield 58, 3, [5, 8, 188], 0)]
def rt_34_6 : List rI := [(189, .bipush 12, 2, [], 12), (191, .iload 4, 2, [], 0), (193, .iadd, 1, [], 0), (194, .iadd, 1, [], 0), (195, .putfield 58, 3, [5, 8, 188], 0), (198, .aload_n 0, 1, [], 0), (199, .getfield 42, 3, [4, 1, 267], 0), (202, .dup, 1, [], 0), (203, .getfield 126, 3, [5, 9, 191], 0), (206, .iconst 1, 1, [], 1), (207, .iadd, 1, [], 0), (208, .putfield 126, 3, [5, 9, 191], 0), (211, .return_, 1, [], 0)]
def rt_34 : List (List rI) := [rt_34_0, rt_34_1, rt_34_2, rt_34_3, rt_34_4, rt_34_5, rt_34_6]
def rt_35_0 : List rI := [(0, .aload_n 0, 1, [], 0), (1, .getfield 38, 3, [4, 0, 266], 0), (4, .invokevirtual 70, 3, [17, 0, 0, 414], 0), (7, .aload_n 0, 1, [], 0), (8, .getfield 42, 3, [4, 1, 267], 0), (11, .getfield 78, 3, [5, 1, 168], 0), (14, .getfield 137, 3, [2, 3, 155], 0), (17, .ifCond .le 123, 3, [71], 0), (20, .aload_n 0, 1, [], 0), (21, .aload_n 0, 1, [], 0), (22, .getfield 42, 3, [4, 1, 267], 0), (25, .invokevirtual 138, 3, [48, 0, 0, 495], 0), (28, .putfield 141, 3, [4, 8, 274], 0), (31, .aload_n 0, 1, [], 0), (32, .iconst 0, 1, [], 0), (33, .aload_n 0, 1, [], 0)]
def rt_35_1 : List rI := [(34, .getfield 42, 3, [4, 1, 267], 0), (37, .getfield 78, 3, [5, 1, 168], 0), (40, .iconst 0, 1, [], 0), (41, .invokevirtual 144, 3, [36, 3, 0, 499], 0), (44, .aload_n 0, 1, [], 0), (45, .getfield 42, 3, [4, 1, 267], 0), (48, .iconst 0, 1, [], 0), (49, .invokevirtual 148, 3, [49, 1, 0, 524], 0), (52, .iconst 3, 1, [], 3), (53, .if_icmp .le 7, 3, [28], 0), (56, .iconst 1, 1, [], 1), (57, .goto 4, 3, [29], 0), (60, .iconst 0, 1, [], 0), (61, .istore_n 1, 1, [], 0), (62, .iconst 1, 1, [], 1), (63, .istore_n 2, 1, [], 0)]
def rt_35_2 : List rI := [(64, .iload_n 2, 1, [], 0), (65, .iconst 2, 1, [], 2), (66, .if_icmp .gt 74, 3, [71], 0), (69, .iload_n 1, 1, [], 0), (70, .ifCond .eq 70, 3, [71], 0), (73, .aload_n 0, 1, [], 0), (74, .getfield 42, 3, [4, 1, 267], 0), (77, .iload_n 2, 1, [], 0), (78, .invokevirtual 148, 3, [49, 1, 0, 524], 0), (81, .istore_n 3, 1, [], 0), (82, .aload_n 0, 1, [], 0), (83, .getfield 42, 3, [4, 1, 267], 0), (86, .iload_n 3, 1, [], 0), (87, .aload_n 0, 1, [], 0), (88, .getfield 21, 3, [4, 3, 269], 0), (91, .invokevirtual 151, 3, [55, 2, 0, 533], 0)]
def rt_35_3 : List rI := [(94, .iload_n 2, 1, [], 0), (95, .iconst 2, 1, [], 2), (96, .if_icmp .ne 10, 3, [54], 0), (99, .aload_n 0, 1, [], 0), (100, .getfield 21, 3, [4, 3, 269], 0), (103, .invokevirtual 155, 3, [25, 0, 0, 537], 0), (106, .aload_n 0, 1, [], 0), (107, .iload_n 2, 1, [], 0), (108, .aload_n 0, 1, [], 0), (109, .getfield 21, 3, [4, 3, 269], 0), (112, .iload_n 3, 1, [], 0), (113, .invokevirtual 144, 3, [36, 3, 0, 499], 0), (116, .aload_n 0, 1, [], 0), (117, .getfield 21, 3, [4, 3, 269], 0), (120, .getfield 137, 3, [2, 3, 155], 0), (123, .bipush 40, 2, [], 40)]
def rt_35_4 : List rI := [(125, .if_icmp .le 7, 3, [67], 0), (128, .iconst 1, 1, [], 1), (129, .goto 4, 3, [68], 0), (132, .iconst 0, 1, [], 0), (133, .istore_n 1, 1, [], 0), (134, .iinc 2 1, 3, [], 1), (137, .goto (-73), 3, [32], 0), (140, .aload_n 0, 1, [], 0), (141, .getfield 42, 3, [4, 1, 267], 0), (144, .getfield 78, 3, [5, 1, 168], 0), (147, .invokevirtual 158, 3, [22, 0, 0, 541], 0), (150, .aload_n 0, 1, [], 0), (151, .getfield 38, 3, [4, 0, 266], 0), (154, .invokevirtual 70, 3, [17, 0, 0, 414], 0), (157, .aload_n 0, 1, [], 0), (158, .getfield 42, 3, [4, 1, 267], 0)]
def rt_35_5 : List rI := [(161, .aload_n 0, 1, [], 0), (162, .getfield 42, 3, [4, 1, 267], 0), (165, .getfield 58, 3, [5, 8, 188], 0), (168, .putfield 161, 3, [5, 5, 180], 0), (171, .aload_n 0, 1, [], 0), (172, .getfield 42, 3, [4, 1, 267], 0), (175, .aload_n 0, 1, [], 0), (176, .getfield 42, 3, [4, 1, 267], 0), (179, .getfield 126, 3, [5, 9, 191], 0), (182, .putfield 164, 3, [5, 6, 183], 0), (185, .aload_n 0, 1, [], 0), (186, .invokevirtual 167, 3, [38, 0, 0, 542], 0), (189, .aload_n 0, 1, [], 0), (190, .getfield 38, 3, [4, 0, 266], 0), (193, .invokevirtual 70, 3, [17, 0, 0, 414], 0), (196, .return_, 1, [], 0)]
def rt_35 : List (List rI) := [rt_35_0, rt_35_1, rt_35_2, rt_35_3, rt_35_4, rt_35_5]
def rt_36_0 : List rI := [(0, .aload_n 2, 1, [], 0), (1, .getfield 137, 3, [2, 3, 155], 0), (4, .ifCond .ne 14, 3, [10], 0), (7, .aload_n 0, 1, [], 0), (8, .getfield 42, 3, [4, 1, 267], 0), (11, .iload_n 3, 1, [], 0), (12, .iconst 0, 1, [], 0), (13, .iconst 0, 1, [], 0), (14, .invokevirtual 170, 3, [56, 3, 0, 503], 0), (17, .return_, 1, [], 0), (18, .iconst 0, 1, [], 0), (19, .istore 4, 2, [], 0), (21, .bipush 16, 2, [], 16), (23, .istore 5, 2, [], 0), (25, .iconst 0, 1, [], 0), (26, .istore 6, 2, [], 0)]
def rt_36_1 : List rI := [(28, .iload 6, 2, [], 0), (30, .bipush 120, 2, [], 120), (32, .if_icmp .ge 96, 3, [69], 0), (35, .aload_n 2, 1, [], 0), (36, .getfield 174, 3, [2, 0, 143], 0), (39, .iload 6, 2, [], 0), (41, .iaload, 1, [], 0), (42, .ifCond .eq 80, 3, [67], 0), (45, .aload_n 0, 1, [], 0), (46, .getfield 32, 3, [4, 6, 272], 0), (49, .iload 5, 2, [], 0), (51, .iload 6, 2, [], 0), (53, .i2b, 1, [], 0), (54, .bastore, 1, [], 0), (55, .aload_n 0, 1, [], 0), (56, .getfield 32, 3, [4, 6, 272], 0)]
def rt_36_2 : List rI := [(59, .iload 5, 2, [], 0), (61, .iconst 1, 1, [], 1), (62, .iadd, 1, [], 0), (63, .aload_n 2, 1, [], 0), (64, .getfield 174, 3, [2, 0, 143], 0), (67, .iload 6, 2, [], 0), (69, .iaload, 1, [], 0), (70, .i2b, 1, [], 0), (71, .bastore, 1, [], 0), (72, .aload_n 0, 1, [], 0), (73, .getfield 32, 3, [4, 6, 272], 0), (76, .iload 5, 2, [], 0), (78, .iconst 2, 1, [], 2), (79, .iadd, 1, [], 0), (80, .aload_n 2, 1, [], 0), (81, .getfield 175, 3, [2, 2, 151], 0)]
def rt_36_3 : List rI := [(84, .iload 6, 2, [], 0), (86, .iaload, 1, [], 0), (87, .invokestatic 129, 3, [40, 3, 1, 510], 0), (90, .aload_n 0, 1, [], 0), (91, .getfield 32, 3, [4, 6, 272], 0), (94, .iload 5, 2, [], 0), (96, .bipush 6, 2, [], 6), (98, .iadd, 1, [], 0), (99, .aload_n 2, 1, [], 0), (100, .getfield 178, 3, [2, 1, 147], 0), (103, .iload 6, 2, [], 0), (105, .iaload, 1, [], 0), (106, .invokestatic 129, 3, [40, 3, 1, 510], 0), (109, .iload 4, 2, [], 0), (111, .iload 6, 2, [], 0), (113, .invokestatic 181, 3, [53, 1, 1, 513], 0)]
def rt_36_4 : List rI := [(116, .ior, 1, [], 0), (117, .istore 4, 2, [], 0), (119, .iinc 5 10, 3, [], 10), (122, .iinc 6 1, 3, [], 1), (125, .goto (-97), 3, [16], 0), (128, .aload_n 0, 1, [], 0), (129, .getfield 32, 3, [4, 6, 272], 0), (132, .iconst 0, 1, [], 0), (133, .bipush 84, 2, [], 84), (135, .bastore, 1, [], 0), (136, .aload_n 0, 1, [], 0), (137, .getfield 32, 3, [4, 6, 272], 0), (140, .iconst 1, 1, [], 1), (141, .iload_n 1, 1, [], 0), (142, .i2b, 1, [], 0), (143, .bastore, 1, [], 0)]
def rt_36_5 : List rI := [(144, .aload_n 0, 1, [], 0), (145, .getfield 32, 3, [4, 6, 272], 0), (148, .iconst 2, 1, [], 2), (149, .aload_n 2, 1, [], 0), (150, .getfield 137, 3, [2, 3, 155], 0), (153, .i2b, 1, [], 0), (154, .bastore, 1, [], 0), (155, .aload_n 0, 1, [], 0), (156, .getfield 32, 3, [4, 6, 272], 0), (159, .iconst 3, 1, [], 3), (160, .iconst 0, 1, [], 0), (161, .bastore, 1, [], 0), (162, .aload_n 0, 1, [], 0), (163, .getfield 32, 3, [4, 6, 272], 0), (166, .iconst 4, 1, [], 4), (167, .aload_n 0, 1, [], 0)]
def rt_36_6 : List rI := [(168, .getfield 42, 3, [4, 1, 267], 0), (171, .getfield 184, 3, [5, 10, 194], 0), (174, .invokestatic 129, 3, [40, 3, 1, 510], 0), (177, .aload_n 0, 1, [], 0), (178, .getfield 32, 3, [4, 6, 272], 0), (181, .bipush 8, 2, [], 8), (183, .iload 4, 2, [], 0), (185, .invokestatic 129, 3, [40, 3, 1, 510], 0), (188, .aload_n 0, 1, [], 0), (189, .getfield 32, 3, [4, 6, 272], 0), (192, .bipush 12, 2, [], 12), (194, .aload_n 0, 1, [], 0), (195, .getfield 42, 3, [4, 1, 267], 0), (198, .getfield 184, 3, [5, 10, 194], 0), (201, .invokestatic 129, 3, [40, 3, 1, 510], 0), (204, .aload_n 0, 1, [], 0)]
def rt_36_7 : List rI := [(205, .invokevirtual 187, 3, [37, 0, 0, 516], 0), (208, .istore 6, 2, [], 0), (210, .aload_n 0, 1, [], 0), (211, .getfield 38, 3, [4, 0, 266], 0), (214, .aload_n 0, 1, [], 0), (215, .getfield 38, 3, [4, 0, 266], 0), (218, .iload 6, 2, [], 0), (220, .invokevirtual 190, 3, [7, 1, 0, 520], 0), (223, .aload_n 0, 1, [], 0), (224, .getfield 32, 3, [4, 6, 272], 0), (227, .iconst 0, 1, [], 0), (228, .iload 5, 2, [], 0), (230, .invokevirtual 66, 3, [16, 4, 0, 398], 0), (233, .aload_n 0, 1, [], 0), (234, .dup, 1, [], 0), (235, .getfield 141, 3, [4, 8, 274], 0)]
def rt_36_8 : List rI := [(238, .iconst 1, 1, [], 1), (239, .iload 6, 2, [], 0), (241, .ishl, 1, [], 0), (242, .ior, 1, [], 0), (243, .putfield 141, 3, [4, 8, 274], 0), (246, .aload_n 0, 1, [], 0), (247, .getfield 42, 3, [4, 1, 267], 0), (250, .dup, 1, [], 0), (251, .getfield 184, 3, [5, 10, 194], 0), (254, .iconst 1, 1, [], 1), (255, .iadd, 1, [], 0), (256, .putfield 184, 3, [5, 10, 194], 0), (259, .aload_n 0, 1, [], 0), (260, .getfield 42, 3, [4, 1, 267], 0), (263, .iload_n 3, 1, [], 0), (264, .iconst 1, 1, [], 1)]
def rt_36_9 : List rI := [(265, .iload 6, 2, [], 0), (267, .invokevirtual 170, 3, [56, 3, 0, 503], 0), (270, .return_, 1, [], 0)]
def rt_36 : List (List rI) := [rt_36_0, rt_36_1, rt_36_2, rt_36_3, rt_36_4, rt_36_5, rt_36_6, rt_36_7, rt_36_8, rt_36_9]
def rt_37_0 : List rI := [(0, .iconst 0, 1, [], 0), (1, .istore_n 1, 1, [], 0), (2, .iload_n 1, 1, [], 0), (3, .bipush 11, 2, [], 11), (5, .if_icmp .ge 20, 3, [14], 0), (8, .aload_n 0, 1, [], 0), (9, .getfield 141, 3, [4, 8, 274], 0), (12, .iload_n 1, 1, [], 0), (13, .ishr, 1, [], 0), (14, .iconst 1, 1, [], 1), (15, .iand, 1, [], 0), (16, .ifCond .eq 9, 3, [14], 0), (19, .iinc 1 1, 3, [], 1), (22, .goto (-20), 3, [2], 0), (25, .iload_n 1, 1, [], 0), (26, .ireturn, 1, [], 0)]
def rt_37 : List (List rI) := [rt_37_0]
def rt_38_0 : List rI := [(0, .aload_n 0, 1, [], 0), (1, .getfield 42, 3, [4, 1, 267], 0), (4, .dup, 1, [], 0), (5, .getfield 193, 3, [5, 4, 177], 0), (8, .iconst 1, 1, [], 1), (9, .iadd, 1, [], 0), (10, .putfield 193, 3, [5, 4, 177], 0), (13, .iconst 0, 1, [], 0), (14, .istore_n 1, 1, [], 0), (15, .iload_n 1, 1, [], 0), (16, .bipush 64, 2, [], 64), (18, .if_icmp .ge 16, 3, [19], 0), (21, .aload_n 0, 1, [], 0), (22, .getfield 32, 3, [4, 6, 272], 0), (25, .iload_n 1, 1, [], 0), (26, .iconst 0, 1, [], 0)]
def rt_38_1 : List rI := [(27, .bastore, 1, [], 0), (28, .iinc 1 1, 3, [], 1), (31, .goto (-16), 3, [9], 0), (34, .aload_n 0, 1, [], 0), (35, .getfield 32, 3, [4, 6, 272], 0), (38, .iconst 0, 1, [], 0), (39, .aload_n 0, 1, [], 0), (40, .getfield 42, 3, [4, 1, 267], 0), (43, .getfield 193, 3, [5, 4, 177], 0), (46, .invokestatic 129, 3, [40, 3, 1, 510], 0), (49, .aload_n 0, 1, [], 0), (50, .getfield 32, 3, [4, 6, 272], 0), (53, .iconst 4, 1, [], 4), (54, .aload_n 0, 1, [], 0), (55, .getfield 42, 3, [4, 1, 267], 0), (58, .getfield 161, 3, [5, 5, 180], 0)]
def rt_38_2 : List rI := [(61, .invokestatic 129, 3, [40, 3, 1, 510], 0), (64, .aload_n 0, 1, [], 0), (65, .getfield 32, 3, [4, 6, 272], 0), (68, .bipush 8, 2, [], 8), (70, .aload_n 0, 1, [], 0), (71, .getfield 42, 3, [4, 1, 267], 0), (74, .getfield 92, 3, [5, 7, 185], 0), (77, .invokestatic 129, 3, [40, 3, 1, 510], 0), (80, .aload_n 0, 1, [], 0), (81, .getfield 32, 3, [4, 6, 272], 0), (84, .bipush 12, 2, [], 12), (86, .aload_n 0, 1, [], 0), (87, .getfield 42, 3, [4, 1, 267], 0), (90, .getfield 164, 3, [5, 6, 183], 0), (93, .invokestatic 129, 3, [40, 3, 1, 510], 0), (96, .aload_n 0, 1, [], 0)]
def rt_38_3 : List rI := [(97, .getfield 32, 3, [4, 6, 272], 0), (100, .bipush 16, 2, [], 16), (102, .aload_n 0, 1, [], 0), (103, .getfield 42, 3, [4, 1, 267], 0), (106, .getfield 184, 3, [5, 10, 194], 0), (109, .invokestatic 129, 3, [40, 3, 1, 510], 0), (112, .aload_n 0, 1, [], 0), (113, .getfield 32, 3, [4, 6, 272], 0), (116, .bipush 20, 2, [], 20), (118, .aload_n 0, 1, [], 0), (119, .getfield 42, 3, [4, 1, 267], 0), (122, .getfield 196, 3, [5, 3, 174], 0), (125, .i2b, 1, [], 0), (126, .bastore, 1, [], 0), (127, .iconst 0, 1, [], 0), (128, .istore_n 1, 1, [], 0)]
def rt_38_4 : List rI := [(129, .iload_n 1, 1, [], 0), (130, .aload_n 0, 1, [], 0), (131, .getfield 42, 3, [4, 1, 267], 0), (134, .getfield 196, 3, [5, 3, 174], 0), (137, .if_icmp .ge 28, 3, [83], 0), (140, .aload_n 0, 1, [], 0), (141, .getfield 32, 3, [4, 6, 272], 0), (144, .bipush 21, 2, [], 21), (146, .iload_n 1, 1, [], 0), (147, .iadd, 1, [], 0), (148, .aload_n 0, 1, [], 0), (149, .getfield 42, 3, [4, 1, 267], 0), (152, .getfield 199, 3, [5, 2, 171], 0), (155, .iload_n 1, 1, [], 0), (156, .iaload, 1, [], 0), (157, .i2b, 1, [], 0)]
def rt_38_5 : List rI := [(158, .bastore, 1, [], 0), (159, .iinc 1 1, 3, [], 1), (162, .goto (-33), 3, [64], 0), (165, .aload_n 0, 1, [], 0), (166, .getfield 32, 3, [4, 6, 272], 0), (169, .bipush 60, 2, [], 60), (171, .aload_n 0, 1, [], 0), (172, .getfield 42, 3, [4, 1, 267], 0), (175, .getfield 193, 3, [5, 4, 177], 0), (178, .invokestatic 129, 3, [40, 3, 1, 510], 0), (181, .aload_n 0, 1, [], 0), (182, .getfield 38, 3, [4, 0, 266], 0), (185, .aload_n 0, 1, [], 0), (186, .getfield 42, 3, [4, 1, 267], 0), (189, .getfield 193, 3, [5, 4, 177], 0), (192, .invokevirtual 202, 3, [8, 1, 0, 546], 0)]
def rt_38_6 : List rI := [(195, .istore_n 1, 1, [], 0), (196, .aload_n 0, 1, [], 0), (197, .getfield 38, 3, [4, 0, 266], 0), (200, .iload_n 1, 1, [], 0), (201, .bipush 60, 2, [], 60), (203, .iadd, 1, [], 0), (204, .aload_n 0, 1, [], 0), (205, .getfield 25, 3, [4, 4, 270], 0), (208, .iconst 0, 1, [], 0), (209, .iconst 4, 1, [], 4), (210, .invokevirtual 66, 3, [16, 4, 0, 398], 0), (213, .aload_n 0, 1, [], 0), (214, .getfield 38, 3, [4, 0, 266], 0), (217, .iload_n 1, 1, [], 0), (218, .aload_n 0, 1, [], 0), (219, .getfield 32, 3, [4, 6, 272], 0)]
def rt_38_7 : List rI := [(222, .iconst 0, 1, [], 0), (223, .bipush 60, 2, [], 60), (225, .invokevirtual 66, 3, [16, 4, 0, 398], 0), (228, .aload_n 0, 1, [], 0), (229, .getfield 38, 3, [4, 0, 266], 0), (232, .iload_n 1, 1, [], 0), (233, .bipush 60, 2, [], 60), (235, .iadd, 1, [], 0), (236, .aload_n 0, 1, [], 0), (237, .getfield 32, 3, [4, 6, 272], 0), (240, .bipush 60, 2, [], 60), (242, .iconst 4, 1, [], 4), (243, .invokevirtual 66, 3, [16, 4, 0, 398], 0), (246, .return_, 1, [], 0)]
def rt_38 : List (List rI) := [rt_38_0, rt_38_1, rt_38_2, rt_38_3, rt_38_4, rt_38_5, rt_38_6, rt_38_7]
def rt_39_0 : List rI := [(0, .aload_n 0, 1, [], 0), (1, .getfield 42, 3, [4, 1, 267], 0), (4, .getfield 161, 3, [5, 5, 180], 0), (7, .aload_n 0, 1, [], 0), (8, .getfield 42, 3, [4, 1, 267], 0), (11, .getfield 58, 3, [5, 8, 188], 0), (14, .if_icmp .eq 7, 3, [9], 0), (17, .aload_n 0, 1, [], 0), (18, .invokevirtual 85, 3, [35, 0, 0, 491], 0), (21, .aload_n 0, 1, [], 0), (22, .getfield 42, 3, [4, 1, 267], 0), (25, .getfield 58, 3, [5, 8, 188], 0), (28, .istore_n 2, 1, [], 0), (29, .aload_n 0, 1, [], 0), (30, .getfield 42, 3, [4, 1, 267], 0), (33, .getfield 92, 3, [5, 7, 185], 0)]
def rt_39_1 : List rI := [(36, .istore_n 3, 1, [], 0), (37, .iconst 0, 1, [], 0), (38, .istore 4, 2, [], 0), (40, .iload 4, 2, [], 0), (42, .iload_n 1, 1, [], 0), (43, .if_icmp .ge 163, 3, [98], 0), (46, .iload_n 3, 1, [], 0), (47, .iload_n 2, 1, [], 0), (48, .if_icmp .ge 158, 3, [98], 0), (51, .aload_n 0, 1, [], 0), (52, .getfield 38, 3, [4, 0, 266], 0), (55, .getfield 46, 3, [1, 10, 103], 0), (58, .ifCond .ne 148, 3, [98], 0), (61, .aload_n 0, 1, [], 0), (62, .getfield 38, 3, [4, 0, 266], 0), (65, .iload_n 3, 1, [], 0)]
def rt_39_2 : List rI := [(66, .iconst 1, 1, [], 1), (67, .iadd, 1, [], 0), (68, .invokevirtual 205, 3, [11, 1, 0, 555], 0), (71, .istore 5, 2, [], 0), (73, .aload_n 0, 1, [], 0), (74, .getfield 38, 3, [4, 0, 266], 0), (77, .iload_n 3, 1, [], 0), (78, .invokevirtual 208, 3, [13, 1, 0, 556], 0), (81, .istore 6, 2, [], 0), (83, .aload_n 0, 1, [], 0), (84, .getfield 42, 3, [4, 1, 267], 0), (87, .iload 5, 2, [], 0), (89, .aload_n 0, 1, [], 0), (90, .getfield 12, 3, [4, 2, 268], 0), (93, .invokevirtual 211, 3, [50, 2, 0, 557], 0), (96, .aload_n 0, 1, [], 0)]
def rt_39_3 : List rI := [(97, .getfield 12, 3, [4, 2, 268], 0), (100, .getfield 215, 3, [3, 0, 234], 0), (103, .iconst 1, 1, [], 1), (104, .if_icmp .ne 91, 3, [92], 0), (107, .aload_n 0, 1, [], 0), (108, .getfield 12, 3, [4, 2, 268], 0), (111, .getfield 217, 3, [3, 2, 241], 0), (114, .iload_n 3, 1, [], 0), (115, .if_icmp .ne 80, 3, [92], 0), (118, .aload_n 0, 1, [], 0), (119, .getfield 42, 3, [4, 1, 267], 0), (122, .getfield 78, 3, [5, 1, 168], 0), (125, .iload 5, 2, [], 0), (127, .invokevirtual 219, 3, [23, 1, 0, 575], 0), (130, .ifCond .ne 18, 3, [69], 0), (133, .aload_n 0, 1, [], 0)]
def rt_39_4 : List rI := [(134, .getfield 42, 3, [4, 1, 267], 0), (137, .getfield 78, 3, [5, 1, 168], 0), (140, .getfield 137, 3, [2, 3, 155], 0), (143, .bipush 24, 2, [], 24), (145, .if_icmp .ge 7, 3, [71], 0), (148, .iconst 1, 1, [], 1), (149, .goto 4, 3, [72], 0), (152, .iconst 0, 1, [], 0), (153, .istore 7, 2, [], 0), (155, .iload 7, 2, [], 0), (157, .ifCond .eq 49, 3, [98], 0), (160, .aload_n 0, 1, [], 0), (161, .iload 6, 2, [], 0), (163, .invokevirtual 88, 3, [33, 1, 0, 547], 0), (166, .ifCond .ne 6, 3, [80], 0), (169, .goto 37, 3, [98], 0)]
def rt_39_5 : List rI := [(172, .aload_n 0, 1, [], 0), (173, .iconst 1, 1, [], 1), (174, .iload 5, 2, [], 0), (176, .aload_n 0, 1, [], 0), (177, .getfield 35, 3, [4, 7, 273], 0), (180, .aload_n 0, 1, [], 0), (181, .getfield 38, 3, [4, 0, 266], 0), (184, .iload_n 3, 1, [], 0), (185, .aload_n 0, 1, [], 0), (186, .getfield 35, 3, [4, 7, 273], 0), (189, .invokevirtual 222, 3, [14, 2, 0, 576], 0), (192, .invokevirtual 119, 3, [34, 4, 0, 581], 0), (195, .iload_n 3, 1, [], 0), (196, .iload 6, 2, [], 0), (198, .iadd, 1, [], 0), (199, .istore_n 3, 1, [], 0)]
def rt_39_6 : List rI := [(200, .iinc 4 1, 3, [], 1), (203, .goto (-163), 3, [19], 0), (206, .aload_n 0, 1, [], 0), (207, .getfield 38, 3, [4, 0, 266], 0), (210, .invokevirtual 70, 3, [17, 0, 0, 414], 0), (213, .aload_n 0, 1, [], 0), (214, .getfield 42, 3, [4, 1, 267], 0), (217, .iload_n 3, 1, [], 0), (218, .putfield 92, 3, [5, 7, 185], 0), (221, .iload 4, 2, [], 0), (223, .ifCond .le 14, 3, [112], 0), (226, .aload_n 0, 1, [], 0), (227, .invokevirtual 167, 3, [38, 0, 0, 542], 0), (230, .aload_n 0, 1, [], 0), (231, .getfield 38, 3, [4, 0, 266], 0), (234, .invokevirtual 70, 3, [17, 0, 0, 414], 0)]
def rt_39_7 : List rI := [(237, .iload 4, 2, [], 0), (239, .ireturn, 1, [], 0)]
def rt_39 : List (List rI) := [rt_39_0, rt_39_1, rt_39_2, rt_39_3, rt_39_4, rt_39_5, rt_39_6, rt_39_7]
def rt_40_0 : List rI := [(0, .aload_n 0, 1, [], 0), (1, .iload_n 1, 1, [], 0), (2, .iload_n 2, 1, [], 0), (3, .bipush 24, 2, [], 24), (5, .iushr, 1, [], 0), (6, .i2b, 1, [], 0), (7, .bastore, 1, [], 0), (8, .aload_n 0, 1, [], 0), (9, .iload_n 1, 1, [], 0), (10, .iconst 1, 1, [], 1), (11, .iadd, 1, [], 0), (12, .iload_n 2, 1, [], 0), (13, .bipush 16, 2, [], 16), (15, .iushr, 1, [], 0), (16, .i2b, 1, [], 0), (17, .bastore, 1, [], 0)]
def rt_40_1 : List rI := [(18, .aload_n 0, 1, [], 0), (19, .iload_n 1, 1, [], 0), (20, .iconst 2, 1, [], 2), (21, .iadd, 1, [], 0), (22, .iload_n 2, 1, [], 0), (23, .bipush 8, 2, [], 8), (25, .iushr, 1, [], 0), (26, .i2b, 1, [], 0), (27, .bastore, 1, [], 0), (28, .aload_n 0, 1, [], 0), (29, .iload_n 1, 1, [], 0), (30, .iconst 3, 1, [], 3), (31, .iadd, 1, [], 0), (32, .iload_n 2, 1, [], 0), (33, .i2b, 1, [], 0), (34, .bastore, 1, [], 0)]
def rt_40_2 : List rI := [(35, .return_, 1, [], 0)]
def rt_40 : List (List rI) := [rt_40_0, rt_40_1, rt_40_2]
def rt_41_0 : List rI := [(0, .aload_n 0, 1, [], 0), (1, .invokespecial 3, 3, [0, 0, 12, 135], 0), (4, .aload_n 0, 1, [], 0), (5, .new 9, 3, [2, 136, 137, 62], 0), (8, .dup, 1, [], 0), (9, .invokespecial 11, 3, [21, 0, 3, 138], 0), (12, .putfield 12, 3, [5, 1, 167], 0), (15, .aload_n 0, 1, [], 0), (16, .bipush 6, 2, [], 6), (18, .newarray .int, 2, [0], 0), (20, .putfield 18, 3, [5, 2, 170], 0), (23, .aload_n 0, 1, [], 0), (24, .aload_n 1, 1, [], 0), (25, .putfield 22, 3, [5, 0, 166], 0), (28, .return_, 1, [], 0)]
def rt_41 : List (List rI) := [rt_41_0]
def rt_42_0 : List rI := [(0, .aload_n 0, 1, [], 0), (1, .invokevirtual 26, 3, [43, 0, 0, 338], 0), (4, .aload_n 0, 1, [], 0), (5, .getfield 12, 3, [5, 1, 167], 0), (8, .invokevirtual 29, 3, [22, 0, 0, 360], 0), (11, .aload_n 0, 1, [], 0), (12, .aload_n 0, 1, [], 0), (13, .getfield 32, 3, [5, 5, 179], 0), (16, .putfield 36, 3, [5, 8, 187], 0), (19, .aload_n 0, 1, [], 0), (20, .aload_n 0, 1, [], 0), (21, .getfield 39, 3, [5, 6, 182], 0), (24, .putfield 42, 3, [5, 9, 190], 0), (27, .aload_n 0, 1, [], 0), (28, .getfield 42, 3, [5, 9, 190], 0), (31, .istore_n 1, 1, [], 0)]
def rt_42_1 : List rI := [(32, .aload_n 0, 1, [], 0), (33, .getfield 36, 3, [5, 8, 187], 0), (36, .istore_n 2, 1, [], 0), (37, .aload_n 0, 1, [], 0), (38, .getfield 42, 3, [5, 9, 190], 0), (41, .istore_n 3, 1, [], 0), (42, .iconst 0, 1, [], 0), (43, .istore 4, 2, [], 0), (45, .iload 4, 2, [], 0), (47, .aload_n 0, 1, [], 0), (48, .getfield 22, 3, [5, 0, 166], 0), (51, .getfield 45, 3, [1, 0, 89], 0), (54, .if_icmp .ge 91, 3, [73], 0), (57, .aload_n 0, 1, [], 0), (58, .iload_n 2, 1, [], 0), (59, .iload_n 3, 1, [], 0)]
def rt_42_2 : List rI := [(60, .invokevirtual 50, 3, [45, 2, 0, 364], 0), (63, .ifCond .eq 82, 3, [73], 0), (66, .iload_n 2, 1, [], 0), (67, .aload_n 0, 1, [], 0), (68, .getfield 22, 3, [5, 0, 166], 0), (71, .iload_n 2, 1, [], 0), (72, .invokevirtual 54, 3, [13, 1, 0, 384], 0), (75, .iadd, 1, [], 0), (76, .istore 5, 2, [], 0), (78, .iload 5, 2, [], 0), (80, .aload_n 0, 1, [], 0), (81, .getfield 58, 3, [5, 7, 184], 0), (84, .isub, 1, [], 0), (85, .aload_n 0, 1, [], 0), (86, .getfield 22, 3, [5, 0, 166], 0), (89, .getfield 45, 3, [1, 0, 89], 0)]
def rt_42_3 : List rI := [(92, .bipush 12, 2, [], 12), (94, .isub, 1, [], 0), (95, .if_icmp .le 6, 3, [52], 0), (98, .goto 47, 3, [73], 0), (101, .aload_n 0, 1, [], 0), (102, .getfield 22, 3, [5, 0, 166], 0), (105, .iload_n 2, 1, [], 0), (106, .invokevirtual 61, 3, [11, 1, 0, 368], 0), (109, .sipush 128, 3, [], 128), (112, .iand, 1, [], 0), (113, .ifCond .eq 7, 3, [61], 0), (116, .iconst 1, 1, [], 1), (117, .goto 4, 3, [62], 0), (120, .iconst 0, 1, [], 0), (121, .istore 6, 2, [], 0), (123, .iload 5, 2, [], 0)]
def rt_42_4 : List rI := [(125, .istore_n 2, 1, [], 0), (126, .iinc 3 1, 3, [], 1), (129, .iload 6, 2, [], 0), (131, .ifCond .ne 8, 3, [71], 0), (134, .aload_n 0, 1, [], 0), (135, .iload_n 3, 1, [], 0), (136, .invokevirtual 64, 3, [46, 1, 0, 388], 0), (139, .iinc 4 12, 3, [], 12), (142, .goto (-97), 3, [24], 0), (145, .aload_n 0, 1, [], 0), (146, .getfield 42, 3, [5, 9, 190], 0), (149, .iload_n 1, 1, [], 0), (150, .isub, 1, [], 0), (151, .ireturn, 1, [], 0)]
def rt_42 : List (List rI) := [rt_42_0, rt_42_1, rt_42_2, rt_42_3, rt_42_4]
def rt_43_0 : List rI := [(0, .aload_n 0, 1, [], 0), (1, .iconst 0, 1, [], 0), (2, .putfield 68, 3, [5, 4, 176], 0), (5, .aload_n 0, 1, [], 0), (6, .iconst 0, 1, [], 0), (7, .putfield 32, 3, [5, 5, 179], 0), (10, .aload_n 0, 1, [], 0), (11, .iconst 0, 1, [], 0), (12, .putfield 58, 3, [5, 7, 184], 0), (15, .aload_n 0, 1, [], 0), (16, .iconst 1, 1, [], 1), (17, .putfield 39, 3, [5, 6, 182], 0), (20, .aload_n 0, 1, [], 0), (21, .iconst 1, 1, [], 1), (22, .putfield 71, 3, [5, 10, 193], 0), (25, .aload_n 0, 1, [], 0)]
def rt_43_1 : List rI := [(26, .iconst 0, 1, [], 0), (27, .putfield 74, 3, [5, 3, 173], 0), (30, .iconst 0, 1, [], 0), (31, .istore_n 1, 1, [], 0), (32, .iload_n 1, 1, [], 0), (33, .iconst 2, 1, [], 2), (34, .if_icmp .ge 55, 3, [50], 0), (37, .aload_n 0, 1, [], 0), (38, .getfield 22, 3, [5, 0, 166], 0), (41, .iload_n 1, 1, [], 0), (42, .invokevirtual 77, 3, [8, 1, 0, 342], 0), (45, .istore_n 2, 1, [], 0), (46, .aload_n 0, 1, [], 0), (47, .getfield 22, 3, [5, 0, 166], 0), (50, .iload_n 2, 1, [], 0), (51, .invokevirtual 80, 3, [10, 1, 0, 346], 0)]
def rt_43_2 : List rI := [(54, .istore_n 3, 1, [], 0), (55, .iload_n 3, 1, [], 0), (56, .aload_n 0, 1, [], 0), (57, .getfield 68, 3, [5, 4, 176], 0), (60, .if_icmp .le 23, 3, [48], 0), (63, .iload_n 3, 1, [], 0), (64, .aload_n 0, 1, [], 0), (65, .getfield 22, 3, [5, 0, 166], 0), (68, .iload_n 2, 1, [], 0), (69, .bipush 60, 2, [], 60), (71, .iadd, 1, [], 0), (72, .invokevirtual 80, 3, [10, 1, 0, 346], 0), (75, .if_icmp .ne 8, 3, [48], 0), (78, .aload_n 0, 1, [], 0), (79, .iload_n 2, 1, [], 0), (80, .invokevirtual 83, 3, [44, 1, 0, 354], 0)]
def rt_43_3 : List rI := [(83, .iinc 1 1, 3, [], 1), (86, .goto (-54), 3, [20], 0), (89, .return_, 1, [], 0)]
def rt_43 : List (List rI) := [rt_43_0, rt_43_1, rt_43_2, rt_43_3]
def rt_44_0 : List rI := [(0, .aload_n 0, 1, [], 0), (1, .aload_n 0, 1, [], 0), (2, .getfield 22, 3, [5, 0, 166], 0), (5, .iload_n 1, 1, [], 0), (6, .invokevirtual 80, 3, [10, 1, 0, 346], 0), (9, .putfield 68, 3, [5, 4, 176], 0), (12, .aload_n 0, 1, [], 0), (13, .aload_n 0, 1, [], 0), (14, .getfield 22, 3, [5, 0, 166], 0), (17, .iload_n 1, 1, [], 0), (18, .iconst 4, 1, [], 4), (19, .iadd, 1, [], 0), (20, .invokevirtual 80, 3, [10, 1, 0, 346], 0), (23, .putfield 32, 3, [5, 5, 179], 0), (26, .aload_n 0, 1, [], 0), (27, .aload_n 0, 1, [], 0)]
def rt_44_1 : List rI := [(28, .getfield 22, 3, [5, 0, 166], 0), (31, .iload_n 1, 1, [], 0), (32, .bipush 8, 2, [], 8), (34, .iadd, 1, [], 0), (35, .invokevirtual 80, 3, [10, 1, 0, 346], 0), (38, .putfield 58, 3, [5, 7, 184], 0), (41, .aload_n 0, 1, [], 0), (42, .aload_n 0, 1, [], 0), (43, .getfield 22, 3, [5, 0, 166], 0), (46, .iload_n 1, 1, [], 0), (47, .bipush 12, 2, [], 12), (49, .iadd, 1, [], 0), (50, .invokevirtual 80, 3, [10, 1, 0, 346], 0), (53, .putfield 39, 3, [5, 6, 182], 0), (56, .aload_n 0, 1, [], 0), (57, .aload_n 0, 1, [], 0)]
def rt_44_2 : List rI := [(58, .getfield 22, 3, [5, 0, 166], 0), (61, .iload_n 1, 1, [], 0), (62, .bipush 16, 2, [], 16), (64, .iadd, 1, [], 0), (65, .invokevirtual 80, 3, [10, 1, 0, 346], 0), (68, .putfield 71, 3, [5, 10, 193], 0), (71, .aload_n 0, 1, [], 0), (72, .aload_n 0, 1, [], 0), (73, .getfield 22, 3, [5, 0, 166], 0), (76, .iload_n 1, 1, [], 0), (77, .bipush 20, 2, [], 20), (79, .iadd, 1, [], 0), (80, .invokevirtual 86, 3, [9, 1, 0, 358], 0), (83, .iconst 5, 1, [], 5), (84, .invokestatic 89, 3, [0, 2, 11, 359], 0), (87, .putfield 74, 3, [5, 3, 173], 0)]
def rt_44_3 : List rI := [(90, .iconst 0, 1, [], 0), (91, .istore_n 2, 1, [], 0), (92, .iload_n 2, 1, [], 0), (93, .aload_n 0, 1, [], 0), (94, .getfield 74, 3, [5, 3, 173], 0), (97, .if_icmp .ge 28, 3, [68], 0), (100, .aload_n 0, 1, [], 0), (101, .getfield 18, 3, [5, 2, 170], 0), (104, .iload_n 2, 1, [], 0), (105, .aload_n 0, 1, [], 0), (106, .getfield 22, 3, [5, 0, 166], 0), (109, .iload_n 1, 1, [], 0), (110, .bipush 21, 2, [], 21), (112, .iadd, 1, [], 0), (113, .iload_n 2, 1, [], 0), (114, .iadd, 1, [], 0)]
def rt_44_4 : List rI := [(115, .invokevirtual 86, 3, [9, 1, 0, 358], 0), (118, .iastore, 1, [], 0), (119, .iinc 2 1, 3, [], 1), (122, .goto (-30), 3, [50], 0), (125, .return_, 1, [], 0)]
def rt_44 : List (List rI) := [rt_44_0, rt_44_1, rt_44_2, rt_44_3, rt_44_4]
def rt_45_0 : List rI := [(0, .aload_n 0, 1, [], 0), (1, .getfield 22, 3, [5, 0, 166], 0), (4, .iload_n 1, 1, [], 0), (5, .invokevirtual 61, 3, [11, 1, 0, 368], 0), (8, .sipush (-129), 3, [], (-129)), (11, .iand, 1, [], 0), (12, .istore_n 3, 1, [], 0), (13, .aload_n 0, 1, [], 0), (14, .getfield 22, 3, [5, 0, 166], 0), (17, .iload_n 1, 1, [], 0), (18, .iconst 2, 1, [], 2), (19, .iadd, 1, [], 0), (20, .invokevirtual 61, 3, [11, 1, 0, 368], 0), (23, .istore 4, 2, [], 0), (25, .iload_n 3, 1, [], 0), (26, .iconst 1, 1, [], 1)]
def rt_45_1 : List rI := [(27, .if_icmp .ne 10, 3, [20], 0), (30, .iload 4, 2, [], 0), (32, .bipush 64, 2, [], 64), (34, .if_icmp .le 13, 3, [25], 0), (37, .iload_n 3, 1, [], 0), (38, .iconst 2, 1, [], 2), (39, .if_icmp .ne 12, 3, [27], 0), (42, .iload 4, 2, [], 0), (44, .ifCond .ne 7, 3, [27], 0), (47, .iconst 1, 1, [], 1), (48, .goto 4, 3, [28], 0), (51, .iconst 0, 1, [], 0), (52, .istore 5, 2, [], 0), (54, .iload 5, 2, [], 0), (56, .ifCond .eq 65, 3, [64], 0), (59, .aload_n 0, 1, [], 0)]
def rt_45_2 : List rI := [(60, .getfield 22, 3, [5, 0, 166], 0), (63, .iload_n 1, 1, [], 0), (64, .iconst 1, 1, [], 1), (65, .iadd, 1, [], 0), (66, .invokevirtual 61, 3, [11, 1, 0, 368], 0), (69, .invokestatic 95, 3, [79, 1, 2, 376], 0), (72, .ifCond .eq 49, 3, [64], 0), (75, .aload_n 0, 1, [], 0), (76, .getfield 22, 3, [5, 0, 166], 0), (79, .iload_n 1, 1, [], 0), (80, .iconst 3, 1, [], 3), (81, .iadd, 1, [], 0), (82, .invokevirtual 61, 3, [11, 1, 0, 368], 0), (85, .ifCond .ne 36, 3, [64], 0), (88, .aload_n 0, 1, [], 0), (89, .getfield 22, 3, [5, 0, 166], 0)]
def rt_45_3 : List rI := [(92, .iload_n 1, 1, [], 0), (93, .iconst 4, 1, [], 4), (94, .iadd, 1, [], 0), (95, .invokevirtual 99, 3, [12, 1, 0, 379], 0), (98, .iload_n 2, 1, [], 0), (99, .if_icmp .ne 22, 3, [64], 0), (102, .aload_n 0, 1, [], 0), (103, .getfield 22, 3, [5, 0, 166], 0), (106, .iload_n 1, 1, [], 0), (107, .bipush 8, 2, [], 8), (109, .iadd, 1, [], 0), (110, .invokevirtual 99, 3, [12, 1, 0, 379], 0), (113, .iload_n 2, 1, [], 0), (114, .if_icmp .ne 7, 3, [64], 0), (117, .iconst 1, 1, [], 1), (118, .goto 4, 3, [65], 0)]
def rt_45_4 : List rI := [(121, .iconst 0, 1, [], 0), (122, .ireturn, 1, [], 0)]
def rt_45 : List (List rI) := [rt_45_0, rt_45_1, rt_45_2, rt_45_3, rt_45_4]
def rt_46_0 : List rI := [(0, .aload_n 0, 1, [], 0), (1, .getfield 42, 3, [5, 9, 190], 0), (4, .istore_n 2, 1, [], 0), (5, .iload_n 2, 1, [], 0), (6, .iload_n 1, 1, [], 0), (7, .if_icmp .ge 71, 3, [40], 0), (10, .aload_n 0, 1, [], 0), (11, .getfield 22, 3, [5, 0, 166], 0), (14, .aload_n 0, 1, [], 0), (15, .getfield 36, 3, [5, 8, 187], 0), (18, .invokevirtual 61, 3, [11, 1, 0, 368], 0), (21, .sipush (-129), 3, [], (-129)), (24, .iand, 1, [], 0), (25, .istore_n 3, 1, [], 0), (26, .aload_n 0, 1, [], 0), (27, .getfield 12, 3, [5, 1, 167], 0)]
def rt_46_1 : List rI := [(30, .aload_n 0, 1, [], 0), (31, .getfield 22, 3, [5, 0, 166], 0), (34, .aload_n 0, 1, [], 0), (35, .getfield 36, 3, [5, 8, 187], 0), (38, .iconst 1, 1, [], 1), (39, .iadd, 1, [], 0), (40, .invokevirtual 61, 3, [11, 1, 0, 368], 0), (43, .iload_n 3, 1, [], 0), (44, .iload_n 2, 1, [], 0), (45, .aload_n 0, 1, [], 0), (46, .getfield 36, 3, [5, 8, 187], 0), (49, .invokevirtual 102, 3, [24, 4, 0, 392], 0), (52, .aload_n 0, 1, [], 0), (53, .dup, 1, [], 0), (54, .getfield 36, 3, [5, 8, 187], 0), (57, .aload_n 0, 1, [], 0)]
def rt_46_2 : List rI := [(58, .getfield 22, 3, [5, 0, 166], 0), (61, .aload_n 0, 1, [], 0), (62, .getfield 36, 3, [5, 8, 187], 0), (65, .invokevirtual 54, 3, [13, 1, 0, 384], 0), (68, .iadd, 1, [], 0), (69, .putfield 36, 3, [5, 8, 187], 0), (72, .iinc 2 1, 3, [], 1), (75, .goto (-70), 3, [3], 0), (78, .aload_n 0, 1, [], 0), (79, .iload_n 1, 1, [], 0), (80, .putfield 42, 3, [5, 9, 190], 0), (83, .return_, 1, [], 0)]
def rt_46 : List (List rI) := [rt_46_0, rt_46_1, rt_46_2]
def rt_47_0 : List rI := [(0, .aload_n 0, 1, [], 0), (1, .getfield 22, 3, [5, 0, 166], 0), (4, .aload_n 0, 1, [], 0), (5, .getfield 18, 3, [5, 2, 170], 0), (8, .iload_n 1, 1, [], 0), (9, .iaload, 1, [], 0), (10, .invokevirtual 106, 3, [7, 1, 0, 532], 0), (13, .ireturn, 1, [], 0)]
def rt_47 : List (List rI) := [rt_47_0]
def rt_48_0 : List rI := [(0, .iconst 0, 1, [], 0), (1, .istore_n 1, 1, [], 0), (2, .iconst 0, 1, [], 0), (3, .istore_n 2, 1, [], 0), (4, .iload_n 2, 1, [], 0), (5, .aload_n 0, 1, [], 0), (6, .getfield 74, 3, [5, 3, 173], 0), (9, .if_icmp .ge 20, 3, [19], 0), (12, .iload_n 1, 1, [], 0), (13, .iconst 1, 1, [], 1), (14, .aload_n 0, 1, [], 0), (15, .getfield 18, 3, [5, 2, 170], 0), (18, .iload_n 2, 1, [], 0), (19, .iaload, 1, [], 0), (20, .ishl, 1, [], 0), (21, .ior, 1, [], 0)]
def rt_48_1 : List rI := [(22, .istore_n 1, 1, [], 0), (23, .iinc 2 1, 3, [], 1), (26, .goto (-22), 3, [4], 0), (29, .iload_n 1, 1, [], 0), (30, .ireturn, 1, [], 0)]
def rt_48 : List (List rI) := [rt_48_0, rt_48_1]
def rt_49_0 : List rI := [(0, .iconst 0, 1, [], 0), (1, .istore_n 2, 1, [], 0), (2, .iload_n 2, 1, [], 0), (3, .aload_n 0, 1, [], 0), (4, .getfield 74, 3, [5, 3, 173], 0), (7, .if_icmp .ge 27, 3, [18], 0), (10, .aload_n 0, 1, [], 0), (11, .getfield 22, 3, [5, 0, 166], 0), (14, .aload_n 0, 1, [], 0), (15, .iload_n 2, 1, [], 0), (16, .invokevirtual 109, 3, [47, 1, 0, 528], 0), (19, .iconst 1, 1, [], 1), (20, .iadd, 1, [], 0), (21, .invokevirtual 86, 3, [9, 1, 0, 358], 0), (24, .iload_n 1, 1, [], 0), (25, .if_icmp .gt 9, 3, [18], 0)]
def rt_49_1 : List rI := [(28, .iinc 2 1, 3, [], 1), (31, .goto (-29), 3, [2], 0), (34, .iload_n 2, 1, [], 0), (35, .ireturn, 1, [], 0)]
def rt_49 : List (List rI) := [rt_49_0, rt_49_1]
def rt_50_0 : List rI := [(0, .aload_n 2, 1, [], 0), (1, .invokevirtual 112, 3, [28, 0, 0, 561], 0), (4, .aload_n 0, 1, [], 0), (5, .getfield 12, 3, [5, 1, 167], 0), (8, .iload_n 1, 1, [], 0), (9, .invokevirtual 115, 3, [23, 1, 0, 565], 0), (12, .ifCond .eq 50, 3, [32], 0), (15, .aload_n 2, 1, [], 0), (16, .aload_n 0, 1, [], 0), (17, .getfield 12, 3, [5, 1, 167], 0), (20, .getfield 118, 3, [2, 0, 144], 0), (23, .iload_n 1, 1, [], 0), (24, .iaload, 1, [], 0), (25, .putfield 121, 3, [3, 0, 233], 0), (28, .aload_n 2, 1, [], 0), (29, .aload_n 0, 1, [], 0)]
def rt_50_1 : List rI := [(30, .getfield 12, 3, [5, 1, 167], 0), (33, .getfield 123, 3, [2, 1, 148], 0), (36, .iload_n 1, 1, [], 0), (37, .iaload, 1, [], 0), (38, .putfield 126, 3, [3, 1, 236], 0), (41, .aload_n 2, 1, [], 0), (42, .aload_n 0, 1, [], 0), (43, .getfield 12, 3, [5, 1, 167], 0), (46, .getfield 128, 3, [2, 2, 152], 0), (49, .iload_n 1, 1, [], 0), (50, .iaload, 1, [], 0), (51, .putfield 131, 3, [3, 2, 240], 0), (54, .aload_n 2, 1, [], 0), (55, .iconst 1, 1, [], 1), (56, .putfield 133, 3, [3, 3, 243], 0), (59, .goto 16, 3, [39], 0)]
def rt_50_2 : List rI := [(62, .iload_n 1, 1, [], 0), (63, .invokestatic 95, 3, [79, 1, 2, 376], 0), (66, .ifCond .eq 9, 3, [39], 0), (69, .aload_n 0, 1, [], 0), (70, .iload_n 1, 1, [], 0), (71, .aload_n 2, 1, [], 0), (72, .invokevirtual 137, 3, [51, 2, 0, 566], 0), (75, .return_, 1, [], 0)]
def rt_50 : List (List rI) := [rt_50_0, rt_50_1, rt_50_2]
def rt_51_0 : List rI := [(0, .iload_n 1, 1, [], 0), (1, .invokestatic 141, 3, [53, 1, 1, 570], 0), (4, .istore_n 3, 1, [], 0), (5, .iconst 0, 1, [], 0), (6, .istore 4, 2, [], 0), (8, .iload 4, 2, [], 0), (10, .aload_n 0, 1, [], 0), (11, .getfield 74, 3, [5, 3, 173], 0), (14, .if_icmp .ge 126, 3, [73], 0), (17, .aload_n 2, 1, [], 0), (18, .getfield 121, 3, [3, 0, 233], 0), (21, .ifCond .ne 119, 3, [73], 0), (24, .aload_n 0, 1, [], 0), (25, .iload 4, 2, [], 0), (27, .invokevirtual 109, 3, [47, 1, 0, 528], 0), (30, .istore 5, 2, [], 0)]
def rt_51_1 : List rI := [(32, .aload_n 0, 1, [], 0), (33, .getfield 22, 3, [5, 0, 166], 0), (36, .iload 5, 2, [], 0), (38, .bipush 8, 2, [], 8), (40, .iadd, 1, [], 0), (41, .invokevirtual 80, 3, [10, 1, 0, 346], 0), (44, .iload_n 3, 1, [], 0), (45, .iand, 1, [], 0), (46, .iload_n 3, 1, [], 0), (47, .if_icmp .eq 16, 3, [33], 0), (50, .aload_n 2, 1, [], 0), (51, .dup, 1, [], 0), (52, .getfield 144, 3, [3, 5, 249], 0), (55, .iconst 1, 1, [], 1), (56, .iadd, 1, [], 0), (57, .putfield 144, 3, [3, 5, 249], 0)]
def rt_51_2 : List rI := [(60, .goto 74, 3, [71], 0), (63, .aload_n 2, 1, [], 0), (64, .dup, 1, [], 0), (65, .getfield 147, 3, [3, 4, 246], 0), (68, .iconst 1, 1, [], 1), (69, .iadd, 1, [], 0), (70, .putfield 147, 3, [3, 4, 246], 0), (73, .aload_n 0, 1, [], 0), (74, .iload 5, 2, [], 0), (76, .iload_n 1, 1, [], 0), (77, .invokevirtual 150, 3, [52, 2, 0, 571], 0), (80, .istore 6, 2, [], 0), (82, .iload 6, 2, [], 0), (84, .iconst (-1), 1, [], (-1)), (85, .if_icmp .eq 49, 3, [71], 0), (88, .aload_n 2, 1, [], 0)]
def rt_51_3 : List rI := [(89, .aload_n 0, 1, [], 0), (90, .getfield 22, 3, [5, 0, 166], 0), (93, .iload 6, 2, [], 0), (95, .iconst 1, 1, [], 1), (96, .iadd, 1, [], 0), (97, .invokevirtual 86, 3, [9, 1, 0, 358], 0), (100, .putfield 121, 3, [3, 0, 233], 0), (103, .aload_n 2, 1, [], 0), (104, .aload_n 0, 1, [], 0), (105, .getfield 22, 3, [5, 0, 166], 0), (108, .iload 6, 2, [], 0), (110, .iconst 2, 1, [], 2), (111, .iadd, 1, [], 0), (112, .invokevirtual 80, 3, [10, 1, 0, 346], 0), (115, .putfield 131, 3, [3, 2, 240], 0), (118, .aload_n 2, 1, [], 0)]
def rt_51_4 : List rI := [(119, .aload_n 0, 1, [], 0), (120, .getfield 22, 3, [5, 0, 166], 0), (123, .iload 6, 2, [], 0), (125, .bipush 6, 2, [], 6), (127, .iadd, 1, [], 0), (128, .invokevirtual 80, 3, [10, 1, 0, 346], 0), (131, .putfield 126, 3, [3, 1, 236], 0), (134, .iinc 4 1, 3, [], 1), (137, .goto (-129), 3, [5], 0), (140, .return_, 1, [], 0)]
def rt_51 : List (List rI) := [rt_51_0, rt_51_1, rt_51_2, rt_51_3, rt_51_4]
def rt_52_0 : List rI := [(0, .iconst 0, 1, [], 0), (1, .istore_n 3, 1, [], 0), (2, .aload_n 0, 1, [], 0), (3, .getfield 22, 3, [5, 0, 166], 0), (6, .iload_n 1, 1, [], 0), (7, .iconst 2, 1, [], 2), (8, .iadd, 1, [], 0), (9, .invokevirtual 86, 3, [9, 1, 0, 358], 0), (12, .iconst 1, 1, [], 1), (13, .isub, 1, [], 0), (14, .istore 4, 2, [], 0), (16, .iconst 0, 1, [], 0), (17, .istore 5, 2, [], 0), (19, .iload 5, 2, [], 0), (21, .bipush 120, 2, [], 120), (23, .if_icmp .ge 75, 3, [57], 0)]
def rt_52_1 : List rI := [(26, .iload_n 3, 1, [], 0), (27, .iload 4, 2, [], 0), (29, .if_icmp .gt 69, 3, [57], 0), (32, .iload_n 3, 1, [], 0), (33, .iload 4, 2, [], 0), (35, .iadd, 1, [], 0), (36, .iconst 2, 1, [], 2), (37, .idiv, 1, [], 0), (38, .istore 6, 2, [], 0), (40, .iload_n 1, 1, [], 0), (41, .bipush 16, 2, [], 16), (43, .iadd, 1, [], 0), (44, .bipush 10, 2, [], 10), (46, .iload 6, 2, [], 0), (48, .imul, 1, [], 0), (49, .iadd, 1, [], 0)]
def rt_52_2 : List rI := [(50, .istore 7, 2, [], 0), (52, .aload_n 0, 1, [], 0), (53, .getfield 22, 3, [5, 0, 166], 0), (56, .iload 7, 2, [], 0), (58, .invokevirtual 86, 3, [9, 1, 0, 358], 0), (61, .istore 8, 2, [], 0), (63, .iload 8, 2, [], 0), (65, .iload_n 2, 1, [], 0), (66, .if_icmp .ne 6, 3, [43], 0), (69, .iload 7, 2, [], 0), (71, .ireturn, 1, [], 0), (72, .iload 8, 2, [], 0), (74, .iload_n 2, 1, [], 0), (75, .if_icmp .ge 11, 3, [51], 0), (78, .iload 6, 2, [], 0), (80, .iconst 1, 1, [], 1)]
def rt_52_3 : List rI := [(81, .iadd, 1, [], 0), (82, .istore_n 3, 1, [], 0), (83, .goto 9, 3, [55], 0), (86, .iload 6, 2, [], 0), (88, .iconst 1, 1, [], 1), (89, .isub, 1, [], 0), (90, .istore 4, 2, [], 0), (92, .iinc 5 1, 3, [], 1), (95, .goto (-76), 3, [13], 0), (98, .iconst (-1), 1, [], (-1)), (99, .ireturn, 1, [], 0)]
def rt_52 : List (List rI) := [rt_52_0, rt_52_1, rt_52_2, rt_52_3]
def rt_53_0 : List rI := [(0, .iconst 1, 1, [], 1), (1, .bipush 7, 2, [], 7), (3, .iload_n 0, 1, [], 0), (4, .imul, 1, [], 0), (5, .bipush 32, 2, [], 32), (7, .irem, 1, [], 0), (8, .ishl, 1, [], 0), (9, .iconst 1, 1, [], 1), (10, .bipush 11, 2, [], 11), (12, .iload_n 0, 1, [], 0), (13, .imul, 1, [], 0), (14, .iconst 5, 1, [], 5), (15, .iadd, 1, [], 0), (16, .bipush 32, 2, [], 32), (18, .irem, 1, [], 0), (19, .ishl, 1, [], 0)]
def rt_53_1 : List rI := [(20, .ior, 1, [], 0), (21, .ireturn, 1, [], 0)]
def rt_53 : List (List rI) := [rt_53_0, rt_53_1]
def rt_54_0 : List rI := [(0, .aload_n 0, 1, [], 0), (1, .aload_n 0, 1, [], 0), (2, .getfield 74, 3, [5, 3, 173], 0), (5, .aload_n 1, 1, [], 0), (6, .invokevirtual 153, 3, [55, 2, 0, 644], 0), (9, .iconst 0, 1, [], 0), (10, .istore_n 2, 1, [], 0), (11, .iload_n 2, 1, [], 0), (12, .bipush 120, 2, [], 120), (14, .if_icmp .ge 53, 3, [36], 0), (17, .aload_n 0, 1, [], 0), (18, .getfield 12, 3, [5, 1, 167], 0), (21, .getfield 118, 3, [2, 0, 144], 0), (24, .iload_n 2, 1, [], 0), (25, .iaload, 1, [], 0), (26, .ifCond .eq 35, 3, [34], 0)]
def rt_54_1 : List rI := [(29, .aload_n 1, 1, [], 0), (30, .iload_n 2, 1, [], 0), (31, .aload_n 0, 1, [], 0), (32, .getfield 12, 3, [5, 1, 167], 0), (35, .getfield 118, 3, [2, 0, 144], 0), (38, .iload_n 2, 1, [], 0), (39, .iaload, 1, [], 0), (40, .aload_n 0, 1, [], 0), (41, .getfield 12, 3, [5, 1, 167], 0), (44, .getfield 123, 3, [2, 1, 148], 0), (47, .iload_n 2, 1, [], 0), (48, .iaload, 1, [], 0), (49, .aload_n 0, 1, [], 0), (50, .getfield 12, 3, [5, 1, 167], 0), (53, .getfield 128, 3, [2, 2, 152], 0), (56, .iload_n 2, 1, [], 0)]
def rt_54_2 : List rI := [(57, .iaload, 1, [], 0), (58, .invokevirtual 102, 3, [24, 4, 0, 392], 0), (61, .iinc 2 1, 3, [], 1), (64, .goto (-53), 3, [7], 0), (67, .return_, 1, [], 0)]
def rt_54 : List (List rI) := [rt_54_0, rt_54_1, rt_54_2]
def rt_55_0 : List rI := [(0, .aload_n 2, 1, [], 0), (1, .invokevirtual 29, 3, [22, 0, 0, 360], 0), (4, .iload_n 1, 1, [], 0), (5, .iconst 1, 1, [], 1), (6, .isub, 1, [], 0), (7, .istore_n 3, 1, [], 0), (8, .iload_n 3, 1, [], 0), (9, .ifCond .lt 105, 3, [60], 0), (12, .aload_n 0, 1, [], 0), (13, .iload_n 3, 1, [], 0), (14, .invokevirtual 109, 3, [47, 1, 0, 528], 0), (17, .istore 4, 2, [], 0), (19, .aload_n 0, 1, [], 0), (20, .getfield 22, 3, [5, 0, 166], 0), (23, .iload 4, 2, [], 0), (25, .iconst 2, 1, [], 2)]
def rt_55_1 : List rI := [(26, .iadd, 1, [], 0), (27, .invokevirtual 86, 3, [9, 1, 0, 358], 0), (30, .istore 5, 2, [], 0), (32, .iconst 0, 1, [], 0), (33, .istore 6, 2, [], 0), (35, .iload 6, 2, [], 0), (37, .iload 5, 2, [], 0), (39, .if_icmp .ge 69, 3, [58], 0), (42, .iload 4, 2, [], 0), (44, .bipush 16, 2, [], 16), (46, .iadd, 1, [], 0), (47, .bipush 10, 2, [], 10), (49, .iload 6, 2, [], 0), (51, .imul, 1, [], 0), (52, .iadd, 1, [], 0), (53, .istore 7, 2, [], 0)]
def rt_55_2 : List rI := [(55, .aload_n 2, 1, [], 0), (56, .aload_n 0, 1, [], 0), (57, .getfield 22, 3, [5, 0, 166], 0), (60, .iload 7, 2, [], 0), (62, .invokevirtual 86, 3, [9, 1, 0, 358], 0), (65, .aload_n 0, 1, [], 0), (66, .getfield 22, 3, [5, 0, 166], 0), (69, .iload 7, 2, [], 0), (71, .iconst 1, 1, [], 1), (72, .iadd, 1, [], 0), (73, .invokevirtual 86, 3, [9, 1, 0, 358], 0), (76, .aload_n 0, 1, [], 0), (77, .getfield 22, 3, [5, 0, 166], 0), (80, .iload 7, 2, [], 0), (82, .bipush 6, 2, [], 6), (84, .iadd, 1, [], 0)]
def rt_55_3 : List rI := [(85, .invokevirtual 80, 3, [10, 1, 0, 346], 0), (88, .aload_n 0, 1, [], 0), (89, .getfield 22, 3, [5, 0, 166], 0), (92, .iload 7, 2, [], 0), (94, .iconst 2, 1, [], 2), (95, .iadd, 1, [], 0), (96, .invokevirtual 80, 3, [10, 1, 0, 346], 0), (99, .invokevirtual 102, 3, [24, 4, 0, 392], 0), (102, .iinc 6 1, 3, [], 1), (105, .goto (-70), 3, [21], 0), (108, .iinc 3 (-1), 3, [], (-1)), (111, .goto (-103), 3, [6], 0), (114, .return_, 1, [], 0)]
def rt_55 : List (List rI) := [rt_55_0, rt_55_1, rt_55_2, rt_55_3]
def rt_56_0 : List rI := [(0, .aload_n 0, 1, [], 0), (1, .getfield 74, 3, [5, 3, 173], 0), (4, .iload_n 1, 1, [], 0), (5, .isub, 1, [], 0), (6, .istore 4, 2, [], 0), (8, .iload_n 2, 1, [], 0), (9, .ifCond .eq 7, 3, [9], 0), (12, .iconst 1, 1, [], 1), (13, .goto 4, 3, [10], 0), (16, .iconst 0, 1, [], 0), (17, .istore 5, 2, [], 0), (19, .iload 4, 2, [], 0), (21, .ifCond .lt 16, 3, [20], 0), (24, .iload 5, 2, [], 0), (26, .iload 4, 2, [], 0), (28, .iadd, 1, [], 0)]
def rt_56_1 : List rI := [(29, .aload_n 0, 1, [], 0), (30, .getfield 18, 3, [5, 2, 170], 0), (33, .arraylength, 1, [], 0), (34, .if_icmp .le 4, 3, [21], 0), (37, .return_, 1, [], 0), (38, .aload_n 0, 1, [], 0), (39, .getfield 18, 3, [5, 2, 170], 0), (42, .iload_n 1, 1, [], 0), (43, .aload_n 0, 1, [], 0), (44, .getfield 18, 3, [5, 2, 170], 0), (47, .iload 5, 2, [], 0), (49, .iload 4, 2, [], 0), (51, .invokestatic 157, 3, [0, 5, 13, 507], 0), (54, .iload_n 2, 1, [], 0), (55, .ifCond .eq 10, 3, [36], 0), (58, .aload_n 0, 1, [], 0)]
def rt_56_2 : List rI := [(59, .getfield 18, 3, [5, 2, 170], 0), (62, .iconst 0, 1, [], 0), (63, .iload_n 3, 1, [], 0), (64, .iastore, 1, [], 0), (65, .aload_n 0, 1, [], 0), (66, .iload 5, 2, [], 0), (68, .iload 4, 2, [], 0), (70, .iadd, 1, [], 0), (71, .putfield 74, 3, [5, 3, 173], 0), (74, .return_, 1, [], 0)]
def rt_56 : List (List rI) := [rt_56_0, rt_56_1, rt_56_2]
def rt_57_0 : List rI := [(0, .aload_n 0, 1, [], 0), (1, .invokespecial 1, 3, [0, 0, 12, 73], 0), (4, .aload_n 0, 1, [], 0), (5, .new 7, 3, [1, 76, 77, 59], 0), (8, .dup, 1, [], 0), (9, .sipush 512, 3, [], 512), (12, .sipush 4096, 3, [], 4096), (15, .iload_n 1, 1, [], 0), (16, .invokestatic 11, 3, [0, 2, 11, 78], 0), (19, .invokestatic 17, 3, [0, 2, 10, 81], 0), (22, .invokespecial 20, 3, [4, 1, 3, 84], 0), (25, .putfield 23, 3, [6, 0, 415], 0), (28, .aload_n 0, 1, [], 0), (29, .new 27, 3, [5, 130, 131, 61], 0), (32, .dup, 1, [], 0), (33, .aload_n 0, 1, [], 0)]
def rt_57_1 : List rI := [(34, .getfield 23, 3, [6, 0, 415], 0), (37, .invokespecial 29, 3, [41, 1, 3, 132], 0), (40, .putfield 32, 3, [6, 1, 416], 0), (43, .aload_n 0, 1, [], 0), (44, .new 36, 3, [4, 219, 220, 63], 0), (47, .dup, 1, [], 0), (48, .aload_n 0, 1, [], 0), (49, .getfield 23, 3, [6, 0, 415], 0), (52, .aload_n 0, 1, [], 0), (53, .getfield 32, 3, [6, 1, 416], 0), (56, .invokespecial 38, 3, [29, 2, 3, 221], 0), (59, .putfield 41, 3, [6, 2, 417], 0), (62, .aload_n 0, 1, [], 0), (63, .new 27, 3, [5, 130, 131, 61], 0), (66, .dup, 1, [], 0), (67, .aload_n 0, 1, [], 0)]
def rt_57_2 : List rI := [(68, .getfield 23, 3, [6, 0, 415], 0), (71, .invokespecial 29, 3, [41, 1, 3, 132], 0), (74, .putfield 45, 3, [6, 3, 418], 0), (77, .aload_n 0, 1, [], 0), (78, .new 48, 3, [2, 294, 137, 62], 0), (81, .dup, 1, [], 0), (82, .invokespecial 50, 3, [21, 0, 3, 295], 0), (85, .putfield 51, 3, [6, 4, 419], 0), (88, .aload_n 0, 1, [], 0), (89, .new 48, 3, [2, 294, 137, 62], 0), (92, .dup, 1, [], 0), (93, .invokespecial 50, 3, [21, 0, 3, 295], 0), (96, .putfield 55, 3, [6, 5, 420], 0), (99, .aload_n 0, 1, [], 0), (100, .new 58, 3, [0, 296, 297, 65], 0), (103, .dup, 1, [], 0)]
def rt_57_3 : List rI := [(104, .invokespecial 60, 3, [0, 0, 3, 298], 0), (107, .putfield 61, 3, [6, 6, 421], 0), (110, .aload_n 0, 1, [], 0), (111, .bipush 64, 2, [], 64), (113, .newarray .byte, 2, [1], 0), (115, .putfield 65, 3, [6, 8, 423], 0), (118, .aload_n 0, 1, [], 0), (119, .bipush 64, 2, [], 64), (121, .newarray .byte, 2, [1], 0), (123, .putfield 69, 3, [6, 10, 425], 0), (126, .aload_n 0, 1, [], 0), (127, .new 72, 3, [3, 328, 226, 64], 0), (130, .dup, 1, [], 0), (131, .invokespecial 74, 3, [27, 0, 3, 329], 0), (134, .putfield 75, 3, [6, 12, 427], 0), (137, .aload_n 0, 1, [], 0)]
def rt_57_4 : List rI := [(138, .new 72, 3, [3, 328, 226, 64], 0), (141, .dup, 1, [], 0), (142, .invokespecial 74, 3, [27, 0, 3, 329], 0), (145, .putfield 79, 3, [6, 13, 428], 0), (148, .aload_n 0, 1, [], 0), (149, .getfield 41, 3, [6, 2, 417], 0), (152, .invokevirtual 82, 3, [30, 0, 0, 330], 0), (155, .pop, 1, [], 0), (156, .return_, 1, [], 0)]
def rt_57 : List (List rI) := [rt_57_0, rt_57_1, rt_57_2, rt_57_3, rt_57_4]
def rt_58_0 : List rI := [(0, .aload_n 0, 1, [], 0), (1, .getfield 23, 3, [6, 0, 415], 0), (4, .getfield 86, 3, [1, 10, 102], 0), (7, .ifCond .eq 6, 3, [6], 0), (10, .bipush (-2), 2, [], (-2)), (12, .ireturn, 1, [], 0), (13, .iload_n 3, 1, [], 0), (14, .iconst 1, 1, [], 1), (15, .if_icmp .lt 20, 3, [18], 0), (18, .iload_n 3, 1, [], 0), (19, .bipush 8, 2, [], 8), (21, .if_icmp .gt 14, 3, [18], 0), (24, .aload_n 0, 1, [], 0), (25, .getfield 90, 3, [6, 9, 424], 0), (28, .iload_n 3, 1, [], 0), (29, .iadd, 1, [], 0)]
def rt_58_1 : List rI := [(30, .bipush 64, 2, [], 64), (32, .if_icmp .le 5, 3, [20], 0), (35, .iconst (-1), 1, [], (-1)), (36, .ireturn, 1, [], 0), (37, .iload_n 3, 1, [], 0), (38, .iconst 1, 1, [], 1), (39, .isub, 1, [], 0), (40, .istore 4, 2, [], 0), (42, .iload 4, 2, [], 0), (44, .ifCond .lt 37, 3, [46], 0), (47, .aload_n 0, 1, [], 0), (48, .getfield 65, 3, [6, 8, 423], 0), (51, .aload_n 0, 1, [], 0), (52, .getfield 90, 3, [6, 9, 424], 0), (55, .lload_n 1, 1, [], 0), (56, .bipush 8, 2, [], 8)]
def rt_58_2 : List rI := [(58, .iload 4, 2, [], 0), (60, .imul, 1, [], 0), (61, .lushr, 1, [], 0), (62, .l2i, 1, [], 0), (63, .i2b, 1, [], 0), (64, .bastore, 1, [], 0), (65, .aload_n 0, 1, [], 0), (66, .dup, 1, [], 0), (67, .getfield 90, 3, [6, 9, 424], 0), (70, .iconst 1, 1, [], 1), (71, .iadd, 1, [], 0), (72, .putfield 90, 3, [6, 9, 424], 0), (75, .iinc 4 (-1), 3, [], (-1)), (78, .goto (-36), 3, [24], 0), (81, .aload_n 0, 1, [], 0), (82, .getfield 90, 3, [6, 9, 424], 0)]
def rt_58_3 : List rI := [(85, .ireturn, 1, [], 0)]
def rt_58 : List (List rI) := [rt_58_0, rt_58_1, rt_58_2, rt_58_3]
def rt_59_0 : List rI := [(0, .aload_n 0, 1, [], 0), (1, .getfield 23, 3, [6, 0, 415], 0), (4, .getfield 86, 3, [1, 10, 102], 0), (7, .ifCond .eq 6, 3, [6], 0), (10, .bipush (-2), 2, [], (-2)), (12, .ireturn, 1, [], 0), (13, .iload_n 1, 1, [], 0), (14, .invokestatic 94, 3, [79, 1, 1, 466], 0), (17, .ifCond .eq 15, 3, [14], 0), (20, .aload_n 0, 1, [], 0), (21, .getfield 61, 3, [6, 6, 421], 0), (24, .getfield 98, 3, [0, 4, 314], 0), (27, .bipush 8, 2, [], 8), (29, .if_icmp .ne 5, 3, [16], 0), (32, .iconst (-1), 1, [], (-1)), (33, .ireturn, 1, [], 0)]
def rt_59_1 : List rI := [(34, .aload_n 0, 1, [], 0), (35, .getfield 61, 3, [6, 6, 421], 0), (38, .iconst 1, 1, [], 1), (39, .iload_n 1, 1, [], 0), (40, .aload_n 0, 1, [], 0), (41, .getfield 65, 3, [6, 8, 423], 0), (44, .aload_n 0, 1, [], 0), (45, .getfield 90, 3, [6, 9, 424], 0), (48, .invokevirtual 101, 3, [1, 4, 0, 467], 0), (51, .aload_n 0, 1, [], 0), (52, .iconst 0, 1, [], 0), (53, .putfield 90, 3, [6, 9, 424], 0), (56, .aload_n 0, 1, [], 0), (57, .getfield 105, 3, [6, 7, 422], 0), (60, .ifCond .eq 13, 3, [35], 0), (63, .aload_n 0, 1, [], 0)]
def rt_59_2 : List rI := [(64, .getfield 61, 3, [6, 6, 421], 0), (67, .getfield 98, 3, [0, 4, 314], 0), (70, .goto 18, 3, [42], 0), (73, .aload_n 0, 1, [], 0), (74, .aload_n 0, 1, [], 0), (75, .getfield 41, 3, [6, 2, 417], 0), (78, .aload_n 0, 1, [], 0), (79, .getfield 61, 3, [6, 6, 421], 0), (82, .invokevirtual 108, 3, [31, 1, 0, 471], 0), (85, .invokevirtual 112, 3, [85, 1, 0, 590], 0), (88, .ireturn, 1, [], 0)]
def rt_59 : List (List rI) := [rt_59_0, rt_59_1, rt_59_2]
def rt_60_0 : List rI := [(0, .aload_n 0, 1, [], 0), (1, .getfield 23, 3, [6, 0, 415], 0), (4, .getfield 86, 3, [1, 10, 102], 0), (7, .ifCond .eq 6, 3, [6], 0), (10, .bipush (-2), 2, [], (-2)), (12, .ireturn, 1, [], 0), (13, .iload_n 1, 1, [], 0), (14, .invokestatic 94, 3, [79, 1, 1, 466], 0), (17, .ifCond .eq 15, 3, [14], 0), (20, .aload_n 0, 1, [], 0), (21, .getfield 61, 3, [6, 6, 421], 0), (24, .getfield 98, 3, [0, 4, 314], 0), (27, .bipush 8, 2, [], 8), (29, .if_icmp .ne 5, 3, [16], 0), (32, .iconst (-1), 1, [], (-1)), (33, .ireturn, 1, [], 0)]
def rt_60_1 : List rI := [(34, .aload_n 0, 1, [], 0), (35, .getfield 105, 3, [6, 7, 422], 0), (38, .ifCond .ne 13, 3, [25], 0), (41, .aload_n 0, 1, [], 0), (42, .iload_n 1, 1, [], 0), (43, .invokevirtual 116, 3, [80, 1, 0, 610], 0), (46, .ifCond .ne 5, 3, [25], 0), (49, .iconst 0, 1, [], 0), (50, .ireturn, 1, [], 0), (51, .aload_n 0, 1, [], 0), (52, .getfield 61, 3, [6, 6, 421], 0), (55, .iconst 2, 1, [], 2), (56, .iload_n 1, 1, [], 0), (57, .aload_n 0, 1, [], 0), (58, .getfield 65, 3, [6, 8, 423], 0), (61, .iconst 0, 1, [], 0)]
def rt_60_2 : List rI := [(62, .invokevirtual 101, 3, [1, 4, 0, 467], 0), (65, .aload_n 0, 1, [], 0), (66, .getfield 105, 3, [6, 7, 422], 0), (69, .ifCond .eq 13, 3, [40], 0), (72, .aload_n 0, 1, [], 0), (73, .getfield 61, 3, [6, 6, 421], 0), (76, .getfield 98, 3, [0, 4, 314], 0), (79, .goto 18, 3, [47], 0), (82, .aload_n 0, 1, [], 0), (83, .aload_n 0, 1, [], 0), (84, .getfield 41, 3, [6, 2, 417], 0), (87, .aload_n 0, 1, [], 0), (88, .getfield 61, 3, [6, 6, 421], 0), (91, .invokevirtual 108, 3, [31, 1, 0, 471], 0), (94, .invokevirtual 112, 3, [85, 1, 0, 590], 0), (97, .ireturn, 1, [], 0)]
def rt_60 : List (List rI) := [rt_60_0, rt_60_1, rt_60_2]
def rt_61_0 : List rI := [(0, .aload_n 0, 1, [], 0), (1, .getfield 23, 3, [6, 0, 415], 0), (4, .getfield 86, 3, [1, 10, 102], 0), (7, .ifCond .eq 6, 3, [6], 0), (10, .bipush (-2), 2, [], (-2)), (12, .ireturn, 1, [], 0), (13, .aload_n 0, 1, [], 0), (14, .getfield 105, 3, [6, 7, 422], 0), (17, .ifCond .eq 5, 3, [11], 0), (20, .iconst 0, 1, [], 0), (21, .ireturn, 1, [], 0), (22, .aload_n 0, 1, [], 0), (23, .iconst 1, 1, [], 1), (24, .putfield 105, 3, [6, 7, 422], 0), (27, .iconst 1, 1, [], 1), (28, .ireturn, 1, [], 0)]
def rt_61 : List (List rI) := [rt_61_0]
def rt_62_0 : List rI := [(0, .aload_n 0, 1, [], 0), (1, .getfield 23, 3, [6, 0, 415], 0), (4, .getfield 86, 3, [1, 10, 102], 0), (7, .ifCond .eq 6, 3, [6], 0), (10, .bipush (-2), 2, [], (-2)), (12, .ireturn, 1, [], 0), (13, .aload_n 0, 1, [], 0), (14, .getfield 61, 3, [6, 6, 421], 0), (17, .getfield 98, 3, [0, 4, 314], 0), (20, .ifCond .ne 9, 3, [14], 0), (23, .aload_n 0, 1, [], 0), (24, .iconst (-1), 1, [], (-1)), (25, .invokevirtual 112, 3, [85, 1, 0, 590], 0), (28, .ireturn, 1, [], 0), (29, .aload_n 0, 1, [], 0), (30, .aload_n 0, 1, [], 0)]
def rt_62_1 : List rI := [(31, .getfield 41, 3, [6, 2, 417], 0), (34, .aload_n 0, 1, [], 0), (35, .getfield 61, 3, [6, 6, 421], 0), (38, .invokevirtual 108, 3, [31, 1, 0, 471], 0), (41, .invokevirtual 112, 3, [85, 1, 0, 590], 0), (44, .ireturn, 1, [], 0)]
def rt_62 : List (List rI) := [rt_62_0, rt_62_1]
def rt_63_0 : List rI := [(0, .aload_n 0, 1, [], 0), (1, .getfield 23, 3, [6, 0, 415], 0), (4, .getfield 86, 3, [1, 10, 102], 0), (7, .ifCond .eq 6, 3, [6], 0), (10, .bipush (-2), 2, [], (-2)), (12, .ireturn, 1, [], 0), (13, .aload_n 0, 1, [], 0), (14, .aload_n 0, 1, [], 0), (15, .getfield 105, 3, [6, 7, 422], 0), (18, .ifCond .eq 13, 3, [14], 0), (21, .aload_n 0, 1, [], 0), (22, .getfield 61, 3, [6, 6, 421], 0), (25, .getfield 98, 3, [0, 4, 314], 0), (28, .goto 4, 3, [15], 0), (31, .iconst (-1), 1, [], (-1)), (32, .invokevirtual 112, 3, [85, 1, 0, 590], 0)]
def rt_63_1 : List rI := [(35, .ireturn, 1, [], 0)]
def rt_63 : List (List rI) := [rt_63_0, rt_63_1]
def rt_64_0 : List rI := [(0, .aload_n 0, 1, [], 0), (1, .getfield 23, 3, [6, 0, 415], 0), (4, .getfield 86, 3, [1, 10, 102], 0), (7, .ifCond .eq 6, 3, [6], 0), (10, .bipush (-2), 2, [], (-2)), (12, .ireturn, 1, [], 0), (13, .aload_n 0, 1, [], 0), (14, .iconst 0, 1, [], 0), (15, .putfield 119, 3, [6, 11, 426], 0), (18, .aload_n 0, 1, [], 0), (19, .getfield 32, 3, [6, 1, 416], 0), (22, .iload_n 1, 1, [], 0), (23, .aload_n 0, 1, [], 0), (24, .getfield 75, 3, [6, 12, 427], 0), (27, .invokevirtual 122, 3, [50, 2, 0, 614], 0), (30, .aload_n 0, 1, [], 0)]
def rt_64_1 : List rI := [(31, .getfield 75, 3, [6, 12, 427], 0), (34, .getfield 126, 3, [3, 0, 232], 0), (37, .iconst 1, 1, [], 1), (38, .if_icmp .eq 5, 3, [22], 0), (41, .iconst (-1), 1, [], (-1)), (42, .ireturn, 1, [], 0), (43, .aload_n 0, 1, [], 0), (44, .aload_n 0, 1, [], 0), (45, .getfield 23, 3, [6, 0, 415], 0), (48, .aload_n 0, 1, [], 0), (49, .getfield 75, 3, [6, 12, 427], 0), (52, .getfield 129, 3, [3, 2, 239], 0), (55, .aload_n 0, 1, [], 0), (56, .getfield 69, 3, [6, 10, 425], 0), (59, .invokevirtual 132, 3, [14, 2, 0, 631], 0), (62, .putfield 119, 3, [6, 11, 426], 0)]
def rt_64_2 : List rI := [(65, .aload_n 0, 1, [], 0), (66, .getfield 119, 3, [6, 11, 426], 0), (69, .ireturn, 1, [], 0)]
def rt_64 : List (List rI) := [rt_64_0, rt_64_1, rt_64_2]
def rt_65_0 : List rI := [(0, .iload_n 1, 1, [], 0), (1, .ifCond .lt 11, 3, [6], 0), (4, .iload_n 1, 1, [], 0), (5, .aload_n 0, 1, [], 0), (6, .getfield 119, 3, [6, 11, 426], 0), (9, .if_icmp .lt 7, 3, [8], 0), (12, .iconst (-1), 1, [], (-1)), (13, .goto 13, 3, [14], 0), (16, .aload_n 0, 1, [], 0), (17, .getfield 69, 3, [6, 10, 425], 0), (20, .iload_n 1, 1, [], 0), (21, .baload, 1, [], 0), (22, .sipush 255, 3, [], 255), (25, .iand, 1, [], 0), (26, .ireturn, 1, [], 0)]
def rt_65 : List (List rI) := [rt_65_0]
def rt_66_0 : List rI := [(0, .aload_n 0, 1, [], 0), (1, .getfield 23, 3, [6, 0, 415], 0), (4, .getfield 86, 3, [1, 10, 102], 0), (7, .ifCond .eq 6, 3, [6], 0), (10, .bipush (-2), 2, [], (-2)), (12, .ireturn, 1, [], 0), (13, .aload_n 0, 1, [], 0), (14, .getfield 32, 3, [6, 1, 416], 0), (17, .aload_n 0, 1, [], 0), (18, .getfield 51, 3, [6, 4, 419], 0), (21, .invokevirtual 136, 3, [54, 1, 0, 640], 0), (24, .iload_n 1, 1, [], 0), (25, .iconst 0, 1, [], 0), (26, .invokestatic 17, 3, [0, 2, 10, 81], 0), (29, .istore_n 2, 1, [], 0), (30, .iload_n 2, 1, [], 0)]
def rt_66_1 : List rI := [(31, .bipush 120, 2, [], 120), (33, .if_icmp .ge 24, 3, [29], 0), (36, .aload_n 0, 1, [], 0), (37, .getfield 51, 3, [6, 4, 419], 0), (40, .getfield 140, 3, [2, 0, 145], 0), (43, .iload_n 2, 1, [], 0), (44, .iaload, 1, [], 0), (45, .iconst 1, 1, [], 1), (46, .if_icmp .ne 5, 3, [27], 0), (49, .iload_n 2, 1, [], 0), (50, .ireturn, 1, [], 0), (51, .iinc 2 1, 3, [], 1), (54, .goto (-24), 3, [15], 0), (57, .iconst (-1), 1, [], (-1)), (58, .ireturn, 1, [], 0)]
def rt_66 : List (List rI) := [rt_66_0, rt_66_1]
def rt_67_0 : List rI := [(0, .aload_n 0, 1, [], 0), (1, .getfield 23, 3, [6, 0, 415], 0), (4, .getfield 86, 3, [1, 10, 102], 0), (7, .ifCond .eq 6, 3, [6], 0), (10, .bipush (-2), 2, [], (-2)), (12, .ireturn, 1, [], 0), (13, .aload_n 0, 1, [], 0), (14, .getfield 23, 3, [6, 0, 415], 0), (17, .getfield 143, 3, [1, 6, 96], 0), (20, .istore_n 1, 1, [], 0), (21, .aload_n 0, 1, [], 0), (22, .getfield 23, 3, [6, 0, 415], 0), (25, .invokevirtual 146, 3, [17, 0, 0, 649], 0), (28, .iload_n 1, 1, [], 0), (29, .ireturn, 1, [], 0)]
def rt_67 : List (List rI) := [rt_67_0]
def rt_68_0 : List rI := [(0, .aload_n 0, 1, [], 0), (1, .getfield 23, 3, [6, 0, 415], 0), (4, .getfield 86, 3, [1, 10, 102], 0), (7, .ifCond .eq 6, 3, [6], 0), (10, .bipush (-2), 2, [], (-2)), (12, .ireturn, 1, [], 0), (13, .aload_n 0, 1, [], 0), (14, .getfield 41, 3, [6, 2, 417], 0), (17, .invokevirtual 149, 3, [35, 0, 0, 654], 0), (20, .aload_n 0, 1, [], 0), (21, .aload_n 0, 1, [], 0), (22, .getfield 32, 3, [6, 1, 416], 0), (25, .getfield 152, 3, [5, 3, 175], 0), (28, .invokevirtual 155, 3, [86, 1, 0, 594], 0), (31, .ireturn, 1, [], 0)]
def rt_68 : List (List rI) := [rt_68_0]
def rt_69_0 : List rI := [(0, .aload_n 0, 1, [], 0), (1, .getfield 23, 3, [6, 0, 415], 0), (4, .getfield 86, 3, [1, 10, 102], 0), (7, .ifCond .eq 6, 3, [6], 0), (10, .bipush (-2), 2, [], (-2)), (12, .ireturn, 1, [], 0), (13, .iload_n 1, 1, [], 0), (14, .iconst 1, 1, [], 1), (15, .if_icmp .lt 10, 3, [12], 0), (18, .iload_n 1, 1, [], 0), (19, .sipush 1000, 3, [], 1000), (22, .if_icmp .le 5, 3, [14], 0), (25, .iconst (-1), 1, [], (-1)), (26, .ireturn, 1, [], 0), (27, .aload_n 0, 1, [], 0), (28, .aload_n 0, 1, [], 0)]
def rt_69_1 : List rI := [(29, .getfield 41, 3, [6, 2, 417], 0), (32, .iload_n 1, 1, [], 0), (33, .invokevirtual 158, 3, [39, 1, 0, 659], 0), (36, .invokevirtual 155, 3, [86, 1, 0, 594], 0), (39, .ireturn, 1, [], 0)]
def rt_69 : List (List rI) := [rt_69_0, rt_69_1]
def rt_70_0 : List rI := [(0, .aload_n 0, 1, [], 0), (1, .getfield 23, 3, [6, 0, 415], 0), (4, .getfield 86, 3, [1, 10, 102], 0), (7, .ifCond .eq 6, 3, [6], 0), (10, .bipush (-2), 2, [], (-2)), (12, .ireturn, 1, [], 0), (13, .iload_n 1, 1, [], 0), (14, .ifCond .lt 7, 3, [10], 0), (17, .iload_n 2, 1, [], 0), (18, .ifCond .ge 5, 3, [12], 0), (21, .iconst (-1), 1, [], (-1)), (22, .ireturn, 1, [], 0), (23, .aload_n 0, 1, [], 0), (24, .getfield 23, 3, [6, 0, 415], 0), (27, .getfield 143, 3, [1, 6, 96], 0), (30, .istore_n 3, 1, [], 0)]
def rt_70_1 : List rI := [(31, .aload_n 0, 1, [], 0), (32, .iload_n 1, 1, [], 0), (33, .iload_n 2, 1, [], 0), (34, .invokevirtual 161, 3, [87, 2, 0, 598], 0), (37, .iload_n 3, 1, [], 0), (38, .ireturn, 1, [], 0)]
def rt_70 : List (List rI) := [rt_70_0, rt_70_1]
def rt_71_0 : List rI := [(0, .aload_n 0, 1, [], 0), (1, .getfield 23, 3, [6, 0, 415], 0), (4, .getfield 86, 3, [1, 10, 102], 0), (7, .ifCond .eq 6, 3, [6], 0), (10, .bipush (-2), 2, [], (-2)), (12, .ireturn, 1, [], 0), (13, .iload_n 1, 1, [], 0), (14, .iconst 1, 1, [], 1), (15, .if_icmp .lt 18, 3, [16], 0), (18, .iload_n 1, 1, [], 0), (19, .sipush 1000, 3, [], 1000), (22, .if_icmp .gt 11, 3, [16], 0), (25, .iload_n 2, 1, [], 0), (26, .ifCond .lt 7, 3, [16], 0), (29, .iload_n 3, 1, [], 0), (30, .ifCond .ge 5, 3, [18], 0)]
def rt_71_1 : List rI := [(33, .iconst (-1), 1, [], (-1)), (34, .ireturn, 1, [], 0), (35, .aload_n 0, 1, [], 0), (36, .getfield 23, 3, [6, 0, 415], 0), (39, .iload_n 1, 1, [], 0), (40, .putfield 165, 3, [1, 7, 99], 0), (43, .aload_n 0, 1, [], 0), (44, .getfield 23, 3, [6, 0, 415], 0), (47, .iload_n 2, 1, [], 0), (48, .putfield 168, 3, [1, 8, 100], 0), (51, .aload_n 0, 1, [], 0), (52, .getfield 23, 3, [6, 0, 415], 0), (55, .iload_n 3, 1, [], 0), (56, .putfield 171, 3, [1, 9, 101], 0), (59, .iconst 1, 1, [], 1), (60, .ireturn, 1, [], 0)]
def rt_71 : List (List rI) := [rt_71_0, rt_71_1]
def rt_72_0 : List rI := [(0, .aload_n 0, 1, [], 0), (1, .getfield 23, 3, [6, 0, 415], 0), (4, .getfield 86, 3, [1, 10, 102], 0), (7, .ifCond .eq 6, 3, [6], 0), (10, .bipush (-2), 2, [], (-2)), (12, .ireturn, 1, [], 0), (13, .aload_n 0, 1, [], 0), (14, .getfield 23, 3, [6, 0, 415], 0), (17, .getfield 165, 3, [1, 7, 99], 0), (20, .ifCond .le 7, 3, [12], 0), (23, .iconst 1, 1, [], 1), (24, .goto 4, 3, [13], 0), (27, .iconst 0, 1, [], 0), (28, .istore_n 1, 1, [], 0), (29, .aload_n 0, 1, [], 0), (30, .getfield 23, 3, [6, 0, 415], 0)]
def rt_72_1 : List rI := [(33, .iconst 0, 1, [], 0), (34, .putfield 165, 3, [1, 7, 99], 0), (37, .iload_n 1, 1, [], 0), (38, .ireturn, 1, [], 0)]
def rt_72 : List (List rI) := [rt_72_0, rt_72_1]
def rt_73_0 : List rI := [(0, .aload_n 0, 1, [], 0), (1, .getfield 23, 3, [6, 0, 415], 0), (4, .getfield 86, 3, [1, 10, 102], 0), (7, .ifCond .ne 5, 3, [6], 0), (10, .iconst (-1), 1, [], (-1)), (11, .ireturn, 1, [], 0), (12, .aload_n 0, 1, [], 0), (13, .getfield 75, 3, [6, 12, 427], 0), (16, .invokevirtual 174, 3, [28, 0, 0, 676], 0), (19, .aload_n 0, 1, [], 0), (20, .getfield 41, 3, [6, 2, 417], 0), (23, .invokevirtual 82, 3, [30, 0, 0, 330], 0), (26, .ireturn, 1, [], 0)]
def rt_73 : List (List rI) := [rt_73_0]
def rt_74_0 : List rI := [(0, .iload_n 1, 1, [], 0), (1, .bipush 10, 2, [], 10), (3, .if_icmp .ne 11, 3, [7], 0), (6, .aload_n 0, 1, [], 0), (7, .getfield 75, 3, [6, 12, 427], 0), (10, .getfield 177, 3, [3, 4, 247], 0), (13, .ireturn, 1, [], 0), (14, .iload_n 1, 1, [], 0), (15, .bipush 11, 2, [], 11), (17, .if_icmp .ne 11, 3, [14], 0), (20, .aload_n 0, 1, [], 0), (21, .getfield 75, 3, [6, 12, 427], 0), (24, .getfield 180, 3, [3, 5, 250], 0), (27, .ireturn, 1, [], 0), (28, .aload_n 0, 1, [], 0), (29, .getfield 23, 3, [6, 0, 415], 0)]
def rt_74_1 : List rI := [(32, .getfield 86, 3, [1, 10, 102], 0), (35, .ifCond .eq 6, 3, [20], 0), (38, .bipush (-2), 2, [], (-2)), (40, .ireturn, 1, [], 0), (41, .iload_n 1, 1, [], 0), (42, .tableswitch 183 0 14 #[74, 82, 90, 98, 106, 114, 125, 133, 141, 146, 183, 183, 151, 156, 175], 74, [77, 22, 26, 30, 34, 38, 42, 47, 51, 55, 58, 77, 77, 61, 64, 73], 0), (116, .aload_n 0, 1, [], 0), (117, .getfield 32, 3, [6, 1, 416], 0), (120, .getfield 183, 3, [5, 8, 189], 0), (123, .ireturn, 1, [], 0), (124, .aload_n 0, 1, [], 0), (125, .getfield 32, 3, [6, 1, 416], 0), (128, .getfield 186, 3, [5, 7, 186], 0), (131, .ireturn, 1, [], 0), (132, .aload_n 0, 1, [], 0), (133, .getfield 32, 3, [6, 1, 416], 0)]
def rt_74_2 : List rI := [(136, .getfield 189, 3, [5, 5, 181], 0), (139, .ireturn, 1, [], 0), (140, .aload_n 0, 1, [], 0), (141, .getfield 32, 3, [6, 1, 416], 0), (144, .getfield 192, 3, [5, 9, 192], 0), (147, .ireturn, 1, [], 0), (148, .aload_n 0, 1, [], 0), (149, .getfield 32, 3, [6, 1, 416], 0), (152, .getfield 195, 3, [5, 4, 178], 0), (155, .ireturn, 1, [], 0), (156, .aload_n 0, 1, [], 0), (157, .getfield 32, 3, [6, 1, 416], 0), (160, .getfield 198, 3, [5, 1, 169], 0), (163, .getfield 201, 3, [2, 3, 156], 0), (166, .ireturn, 1, [], 0), (167, .aload_n 0, 1, [], 0)]
def rt_74_3 : List rI := [(168, .getfield 32, 3, [6, 1, 416], 0), (171, .getfield 152, 3, [5, 3, 175], 0), (174, .ireturn, 1, [], 0), (175, .aload_n 0, 1, [], 0), (176, .getfield 23, 3, [6, 0, 415], 0), (179, .getfield 143, 3, [1, 6, 96], 0), (182, .ireturn, 1, [], 0), (183, .aload_n 0, 1, [], 0), (184, .invokevirtual 202, 3, [81, 0, 0, 681], 0), (187, .ireturn, 1, [], 0), (188, .aload_n 0, 1, [], 0), (189, .invokevirtual 205, 3, [82, 0, 0, 685], 0), (192, .ireturn, 1, [], 0), (193, .aload_n 0, 1, [], 0), (194, .getfield 90, 3, [6, 9, 424], 0), (197, .ireturn, 1, [], 0)]
def rt_74_4 : List rI := [(198, .aload_n 0, 1, [], 0), (199, .getfield 105, 3, [6, 7, 422], 0), (202, .ifCond .eq 13, 3, [71], 0), (205, .aload_n 0, 1, [], 0), (206, .getfield 61, 3, [6, 6, 421], 0), (209, .getfield 98, 3, [0, 4, 314], 0), (212, .goto 4, 3, [72], 0), (215, .iconst (-1), 1, [], (-1)), (216, .ireturn, 1, [], 0), (217, .aload_n 0, 1, [], 0), (218, .getfield 32, 3, [6, 1, 416], 0), (221, .getfield 208, 3, [5, 10, 195], 0), (224, .ireturn, 1, [], 0), (225, .iconst (-1), 1, [], (-1)), (226, .ireturn, 1, [], 0)]
def rt_74 : List (List rI) := [rt_74_0, rt_74_1, rt_74_2, rt_74_3, rt_74_4]
def rt_75_0 : List rI := [(0, .aload_n 0, 1, [], 0), (1, .getfield 23, 3, [6, 0, 415], 0), (4, .getfield 86, 3, [1, 10, 102], 0), (7, .ifCond .eq 6, 3, [6], 0), (10, .bipush (-2), 2, [], (-2)), (12, .ireturn, 1, [], 0), (13, .iload_n 1, 1, [], 0), (14, .ifCond .lt 14, 3, [13], 0), (17, .iload_n 1, 1, [], 0), (18, .aload_n 0, 1, [], 0), (19, .getfield 32, 3, [6, 1, 416], 0), (22, .getfield 152, 3, [5, 3, 175], 0), (25, .if_icmp .lt 5, 3, [15], 0), (28, .iconst 0, 1, [], 0), (29, .ireturn, 1, [], 0), (30, .aload_n 0, 1, [], 0)]
def rt_75_1 : List rI := [(31, .getfield 32, 3, [6, 1, 416], 0), (34, .iload_n 1, 1, [], 0), (35, .invokevirtual 211, 3, [47, 1, 0, 694], 0), (38, .istore_n 3, 1, [], 0), (39, .aload_n 0, 1, [], 0), (40, .getfield 23, 3, [6, 0, 415], 0), (43, .iload_n 3, 1, [], 0), (44, .iconst 2, 1, [], 2), (45, .iadd, 1, [], 0), (46, .invokevirtual 214, 3, [9, 1, 0, 695], 0), (49, .istore 4, 2, [], 0), (51, .iload_n 2, 1, [], 0), (52, .tableswitch 123 0 6 #[44, 55, 58, 68, 79, 91, 111], 44, [78, 29, 36, 38, 44, 51, 58, 71], 0), (96, .aload_n 0, 1, [], 0), (97, .getfield 23, 3, [6, 0, 415], 0), (100, .iload_n 3, 1, [], 0)]
def rt_75_2 : List rI := [(101, .iconst 1, 1, [], 1), (102, .iadd, 1, [], 0), (103, .invokevirtual 214, 3, [9, 1, 0, 695], 0), (106, .ireturn, 1, [], 0), (107, .iload 4, 2, [], 0), (109, .ireturn, 1, [], 0), (110, .aload_n 0, 1, [], 0), (111, .getfield 32, 3, [6, 1, 416], 0), (114, .getfield 217, 3, [5, 2, 172], 0), (117, .iload_n 1, 1, [], 0), (118, .iaload, 1, [], 0), (119, .ireturn, 1, [], 0), (120, .aload_n 0, 1, [], 0), (121, .getfield 23, 3, [6, 0, 415], 0), (124, .iload_n 3, 1, [], 0), (125, .iconst 4, 1, [], 4)]
def rt_75_3 : List rI := [(126, .iadd, 1, [], 0), (127, .invokevirtual 220, 3, [10, 1, 0, 696], 0), (130, .ireturn, 1, [], 0), (131, .aload_n 0, 1, [], 0), (132, .getfield 23, 3, [6, 0, 415], 0), (135, .iload_n 3, 1, [], 0), (136, .bipush 16, 2, [], 16), (138, .iadd, 1, [], 0), (139, .invokevirtual 214, 3, [9, 1, 0, 695], 0), (142, .ireturn, 1, [], 0), (143, .aload_n 0, 1, [], 0), (144, .getfield 23, 3, [6, 0, 415], 0), (147, .iload_n 3, 1, [], 0), (148, .bipush 16, 2, [], 16), (150, .iadd, 1, [], 0), (151, .bipush 10, 2, [], 10)]
def rt_75_4 : List rI := [(153, .iload 4, 2, [], 0), (155, .iconst 1, 1, [], 1), (156, .isub, 1, [], 0), (157, .imul, 1, [], 0), (158, .iadd, 1, [], 0), (159, .invokevirtual 214, 3, [9, 1, 0, 695], 0), (162, .ireturn, 1, [], 0), (163, .aload_n 0, 1, [], 0), (164, .getfield 23, 3, [6, 0, 415], 0), (167, .iload_n 3, 1, [], 0), (168, .bipush 8, 2, [], 8), (170, .iadd, 1, [], 0), (171, .invokevirtual 220, 3, [10, 1, 0, 696], 0), (174, .ireturn, 1, [], 0), (175, .iconst 0, 1, [], 0), (176, .ireturn, 1, [], 0)]
def rt_75 : List (List rI) := [rt_75_0, rt_75_1, rt_75_2, rt_75_3, rt_75_4]
def rt_76_0 : List rI := [(0, .aload_n 0, 1, [], 0), (1, .getfield 23, 3, [6, 0, 415], 0), (4, .getfield 86, 3, [1, 10, 102], 0), (7, .ifCond .eq 6, 3, [6], 0), (10, .bipush (-2), 2, [], (-2)), (12, .ireturn, 1, [], 0), (13, .aload_n 0, 1, [], 0), (14, .getfield 32, 3, [6, 1, 416], 0), (17, .iload_n 1, 1, [], 0), (18, .aload_n 0, 1, [], 0), (19, .getfield 79, 3, [6, 13, 428], 0), (22, .invokevirtual 122, 3, [50, 2, 0, 614], 0), (25, .aload_n 0, 1, [], 0), (26, .getfield 79, 3, [6, 13, 428], 0), (29, .getfield 126, 3, [3, 0, 232], 0), (32, .ifCond .ne 5, 3, [18], 0)]
def rt_76_1 : List rI := [(35, .iconst (-1), 1, [], (-1)), (36, .ireturn, 1, [], 0), (37, .iload_n 2, 1, [], 0), (38, .tableswitch 70 0 3 #[30, 38, 46, 54], 30, [40, 20, 24, 28, 32], 0), (68, .aload_n 0, 1, [], 0), (69, .getfield 79, 3, [6, 13, 428], 0), (72, .getfield 126, 3, [3, 0, 232], 0), (75, .ireturn, 1, [], 0), (76, .aload_n 0, 1, [], 0), (77, .getfield 79, 3, [6, 13, 428], 0), (80, .getfield 223, 3, [3, 1, 237], 0), (83, .ireturn, 1, [], 0), (84, .aload_n 0, 1, [], 0), (85, .getfield 79, 3, [6, 13, 428], 0), (88, .getfield 129, 3, [3, 2, 239], 0), (91, .ireturn, 1, [], 0)]
def rt_76_2 : List rI := [(92, .aload_n 0, 1, [], 0), (93, .getfield 79, 3, [6, 13, 428], 0), (96, .getfield 226, 3, [3, 3, 244], 0), (99, .ifCond .eq 7, 3, [38], 0), (102, .iconst 1, 1, [], 1), (103, .goto 4, 3, [39], 0), (106, .iconst 0, 1, [], 0), (107, .ireturn, 1, [], 0), (108, .iconst (-1), 1, [], (-1)), (109, .ireturn, 1, [], 0)]
def rt_76 : List (List rI) := [rt_76_0, rt_76_1, rt_76_2]
def rt_77_0 : List rI := [(0, .aload_n 0, 1, [], 0), (1, .getfield 23, 3, [6, 0, 415], 0), (4, .iload_n 1, 1, [], 0), (5, .iload_n 2, 1, [], 0), (6, .invokevirtual 229, 3, [5, 2, 0, 705], 0), (9, .istore_n 3, 1, [], 0), (10, .iload_n 3, 1, [], 0), (11, .iconst (-1), 1, [], (-1)), (12, .if_icmp .ne 7, 3, [11], 0), (15, .iconst (-1), 1, [], (-1)), (16, .goto 11, 3, [15], 0), (19, .aload_n 0, 1, [], 0), (20, .getfield 23, 3, [6, 0, 415], 0), (23, .iload_n 3, 1, [], 0), (24, .invokevirtual 214, 3, [9, 1, 0, 695], 0), (27, .ireturn, 1, [], 0)]
def rt_77 : List (List rI) := [rt_77_0]
def rt_78_0 : List rI := [(0, .aload_n 0, 1, [], 0), (1, .getfield 23, 3, [6, 0, 415], 0), (4, .getfield 86, 3, [1, 10, 102], 0), (7, .ifCond .eq 6, 3, [6], 0), (10, .bipush (-2), 2, [], (-2)), (12, .ireturn, 1, [], 0), (13, .aload_n 0, 1, [], 0), (14, .getfield 32, 3, [6, 1, 416], 0), (17, .aload_n 0, 1, [], 0), (18, .getfield 51, 3, [6, 4, 419], 0), (21, .invokevirtual 136, 3, [54, 1, 0, 640], 0), (24, .aload_n 0, 1, [], 0), (25, .getfield 45, 3, [6, 3, 418], 0), (28, .invokevirtual 232, 3, [42, 0, 0, 715], 0), (31, .pop, 1, [], 0), (32, .aload_n 0, 1, [], 0)]
def rt_78_1 : List rI := [(33, .getfield 45, 3, [6, 3, 418], 0), (36, .aload_n 0, 1, [], 0), (37, .getfield 55, 3, [6, 5, 420], 0), (40, .invokevirtual 136, 3, [54, 1, 0, 640], 0), (43, .aload_n 0, 1, [], 0), (44, .getfield 32, 3, [6, 1, 416], 0), (47, .getfield 189, 3, [5, 5, 181], 0), (50, .aload_n 0, 1, [], 0), (51, .getfield 32, 3, [6, 1, 416], 0), (54, .getfield 186, 3, [5, 7, 186], 0), (57, .isub, 1, [], 0), (58, .ifCond .lt 25, 3, [38], 0), (61, .aload_n 0, 1, [], 0), (62, .getfield 32, 3, [6, 1, 416], 0), (65, .getfield 183, 3, [5, 8, 189], 0), (68, .aload_n 0, 1, [], 0)]
def rt_78_2 : List rI := [(69, .getfield 32, 3, [6, 1, 416], 0), (72, .getfield 189, 3, [5, 5, 181], 0), (75, .isub, 1, [], 0), (76, .ifCond .lt 7, 3, [38], 0), (79, .iconst 1, 1, [], 1), (80, .goto 4, 3, [39], 0), (83, .iconst 0, 1, [], 0), (84, .istore_n 1, 1, [], 0), (85, .iconst 0, 1, [], 0), (86, .istore_n 2, 1, [], 0), (87, .iload_n 2, 1, [], 0), (88, .bipush 120, 2, [], 120), (90, .if_icmp .ge 35, 3, [61], 0), (93, .iload_n 1, 1, [], 0), (94, .ifCond .eq 23, 3, [57], 0), (97, .aload_n 0, 1, [], 0)]
def rt_78_3 : List rI := [(98, .iload_n 2, 1, [], 0), (99, .invokevirtual 235, 3, [83, 1, 0, 716], 0), (102, .ifCond .eq 15, 3, [57], 0), (105, .aload_n 0, 1, [], 0), (106, .iload_n 2, 1, [], 0), (107, .invokevirtual 238, 3, [84, 1, 0, 722], 0), (110, .ifCond .eq 7, 3, [57], 0), (113, .iconst 1, 1, [], 1), (114, .goto 4, 3, [58], 0), (117, .iconst 0, 1, [], 0), (118, .istore_n 1, 1, [], 0), (119, .iinc 2 1, 3, [], 1), (122, .goto (-35), 3, [42], 0), (125, .iload_n 1, 1, [], 0), (126, .ifCond .eq 7, 3, [65], 0), (129, .iconst 1, 1, [], 1)]
def rt_78_4 : List rI := [(130, .goto 4, 3, [66], 0), (133, .iconst 0, 1, [], 0), (134, .ireturn, 1, [], 0)]
def rt_78 : List (List rI) := [rt_78_0, rt_78_1, rt_78_2, rt_78_3, rt_78_4]
def rt_79_0 : List rI := [(0, .iload_n 0, 1, [], 0), (1, .ifCond .lt 13, 3, [7], 0), (4, .iload_n 0, 1, [], 0), (5, .bipush 120, 2, [], 120), (7, .if_icmp .ge 7, 3, [7], 0), (10, .iconst 1, 1, [], 1), (11, .goto 4, 3, [8], 0), (14, .iconst 0, 1, [], 0), (15, .ireturn, 1, [], 0)]
def rt_79 : List (List rI) := [rt_79_0]
def rt_80_0 : List rI := [(0, .aload_n 0, 1, [], 0), (1, .getfield 32, 3, [6, 1, 416], 0), (4, .iload_n 1, 1, [], 0), (5, .aload_n 0, 1, [], 0), (6, .getfield 79, 3, [6, 13, 428], 0), (9, .invokevirtual 122, 3, [50, 2, 0, 614], 0), (12, .aload_n 0, 1, [], 0), (13, .getfield 79, 3, [6, 13, 428], 0), (16, .getfield 126, 3, [3, 0, 232], 0), (19, .iconst 1, 1, [], 1), (20, .if_icmp .ne 7, 3, [13], 0), (23, .iconst 1, 1, [], 1), (24, .goto 4, 3, [14], 0), (27, .iconst 0, 1, [], 0), (28, .ireturn, 1, [], 0)]
def rt_80 : List (List rI) := [rt_80_0]
def rt_81_0 : List rI := [(0, .aload_n 0, 1, [], 0), (1, .getfield 32, 3, [6, 1, 416], 0), (4, .aload_n 0, 1, [], 0), (5, .getfield 51, 3, [6, 4, 419], 0), (8, .invokevirtual 136, 3, [54, 1, 0, 640], 0), (11, .iconst 0, 1, [], 0), (12, .istore_n 1, 1, [], 0), (13, .iconst 0, 1, [], 0), (14, .istore_n 2, 1, [], 0), (15, .iload_n 2, 1, [], 0), (16, .bipush 120, 2, [], 120), (18, .if_icmp .ge 25, 3, [22], 0), (21, .aload_n 0, 1, [], 0), (22, .getfield 51, 3, [6, 4, 419], 0), (25, .getfield 140, 3, [2, 0, 145], 0), (28, .iload_n 2, 1, [], 0)]
def rt_81_1 : List rI := [(29, .iaload, 1, [], 0), (30, .iconst 1, 1, [], 1), (31, .if_icmp .ne 6, 3, [20], 0), (34, .iinc 1 1, 3, [], 1), (37, .iinc 2 1, 3, [], 1), (40, .goto (-25), 3, [9], 0), (43, .iload_n 1, 1, [], 0), (44, .ireturn, 1, [], 0)]
def rt_81 : List (List rI) := [rt_81_0, rt_81_1]
def rt_82_0 : List rI := [(0, .aload_n 0, 1, [], 0), (1, .getfield 32, 3, [6, 1, 416], 0), (4, .aload_n 0, 1, [], 0), (5, .getfield 51, 3, [6, 4, 419], 0), (8, .invokevirtual 136, 3, [54, 1, 0, 640], 0), (11, .iconst 0, 1, [], 0), (12, .istore_n 1, 1, [], 0), (13, .iconst 0, 1, [], 0), (14, .istore_n 2, 1, [], 0), (15, .iload_n 2, 1, [], 0), (16, .bipush 120, 2, [], 120), (18, .if_icmp .ge 41, 3, [32], 0), (21, .aload_n 0, 1, [], 0), (22, .getfield 51, 3, [6, 4, 419], 0), (25, .getfield 140, 3, [2, 0, 145], 0), (28, .iload_n 2, 1, [], 0)]
def rt_82_1 : List rI := [(29, .iaload, 1, [], 0), (30, .iconst 1, 1, [], 1), (31, .if_icmp .ne 22, 3, [30], 0), (34, .iload_n 1, 1, [], 0), (35, .aload_n 0, 1, [], 0), (36, .getfield 23, 3, [6, 0, 415], 0), (39, .aload_n 0, 1, [], 0), (40, .getfield 51, 3, [6, 4, 419], 0), (43, .getfield 241, 3, [2, 2, 153], 0), (46, .iload_n 2, 1, [], 0), (47, .iaload, 1, [], 0), (48, .invokevirtual 243, 3, [13, 1, 0, 689], 0), (51, .iadd, 1, [], 0), (52, .istore_n 1, 1, [], 0), (53, .iinc 2 1, 3, [], 1), (56, .goto (-41), 3, [9], 0)]
def rt_82_2 : List rI := [(59, .iload_n 1, 1, [], 0), (60, .ireturn, 1, [], 0)]
def rt_82 : List (List rI) := [rt_82_0, rt_82_1, rt_82_2]
def rt_83_0 : List rI := [(0, .aload_n 0, 1, [], 0), (1, .getfield 51, 3, [6, 4, 419], 0), (4, .getfield 140, 3, [2, 0, 145], 0), (7, .iload_n 1, 1, [], 0), (8, .iaload, 1, [], 0), (9, .iconst 1, 1, [], 1), (10, .if_icmp .eq 5, 3, [9], 0), (13, .iconst 1, 1, [], 1), (14, .ireturn, 1, [], 0), (15, .aload_n 0, 1, [], 0), (16, .getfield 51, 3, [6, 4, 419], 0), (19, .getfield 241, 3, [2, 2, 153], 0), (22, .iload_n 1, 1, [], 0), (23, .iaload, 1, [], 0), (24, .istore_n 2, 1, [], 0), (25, .iload_n 2, 1, [], 0)]
def rt_83_1 : List rI := [(26, .aload_n 0, 1, [], 0), (27, .getfield 32, 3, [6, 1, 416], 0), (30, .getfield 186, 3, [5, 7, 186], 0), (33, .isub, 1, [], 0), (34, .ifCond .lt 78, 3, [60], 0), (37, .iload_n 2, 1, [], 0), (38, .aload_n 0, 1, [], 0), (39, .getfield 23, 3, [6, 0, 415], 0), (42, .iload_n 2, 1, [], 0), (43, .invokevirtual 243, 3, [13, 1, 0, 689], 0), (46, .iadd, 1, [], 0), (47, .aload_n 0, 1, [], 0), (48, .getfield 32, 3, [6, 1, 416], 0), (51, .getfield 183, 3, [5, 8, 189], 0), (54, .isub, 1, [], 0), (55, .ifCond .gt 57, 3, [60], 0)]
def rt_83_2 : List rI := [(58, .aload_n 0, 1, [], 0), (59, .getfield 32, 3, [6, 1, 416], 0), (62, .iload_n 2, 1, [], 0), (63, .aload_n 0, 1, [], 0), (64, .getfield 51, 3, [6, 4, 419], 0), (67, .getfield 246, 3, [2, 1, 149], 0), (70, .iload_n 1, 1, [], 0), (71, .iaload, 1, [], 0), (72, .invokevirtual 248, 3, [45, 2, 0, 720], 0), (75, .ifCond .eq 37, 3, [60], 0), (78, .aload_n 0, 1, [], 0), (79, .getfield 23, 3, [6, 0, 415], 0), (82, .iload_n 2, 1, [], 0), (83, .invokevirtual 252, 3, [11, 1, 0, 721], 0), (86, .sipush (-129), 3, [], (-129)), (89, .iand, 1, [], 0)]
def rt_83_3 : List rI := [(90, .iconst 1, 1, [], 1), (91, .if_icmp .ne 21, 3, [60], 0), (94, .aload_n 0, 1, [], 0), (95, .getfield 23, 3, [6, 0, 415], 0), (98, .iload_n 2, 1, [], 0), (99, .iconst 1, 1, [], 1), (100, .iadd, 1, [], 0), (101, .invokevirtual 252, 3, [11, 1, 0, 721], 0), (104, .iload_n 1, 1, [], 0), (105, .if_icmp .ne 7, 3, [60], 0), (108, .iconst 1, 1, [], 1), (109, .goto 4, 3, [61], 0), (112, .iconst 0, 1, [], 0), (113, .ireturn, 1, [], 0)]
def rt_83 : List (List rI) := [rt_83_0, rt_83_1, rt_83_2, rt_83_3]
def rt_84_0 : List rI := [(0, .aload_n 0, 1, [], 0), (1, .getfield 51, 3, [6, 4, 419], 0), (4, .getfield 140, 3, [2, 0, 145], 0), (7, .iload_n 1, 1, [], 0), (8, .iaload, 1, [], 0), (9, .iconst 1, 1, [], 1), (10, .if_icmp .ne 7, 3, [9], 0), (13, .iconst 1, 1, [], 1), (14, .goto 4, 3, [10], 0), (17, .iconst 0, 1, [], 0), (18, .istore_n 2, 1, [], 0), (19, .iload_n 2, 1, [], 0), (20, .aload_n 0, 1, [], 0), (21, .getfield 55, 3, [6, 5, 420], 0), (24, .getfield 140, 3, [2, 0, 145], 0), (27, .iload_n 1, 1, [], 0)]
def rt_84_1 : List rI := [(28, .iaload, 1, [], 0), (29, .iconst 1, 1, [], 1), (30, .if_icmp .ne 7, 3, [21], 0), (33, .iconst 1, 1, [], 1), (34, .goto 4, 3, [22], 0), (37, .iconst 0, 1, [], 0), (38, .if_icmp .eq 5, 3, [25], 0), (41, .iconst 0, 1, [], 0), (42, .ireturn, 1, [], 0), (43, .iload_n 2, 1, [], 0), (44, .ifCond .eq 31, 3, [41], 0), (47, .aload_n 0, 1, [], 0), (48, .getfield 23, 3, [6, 0, 415], 0), (51, .aload_n 0, 1, [], 0), (52, .getfield 51, 3, [6, 4, 419], 0), (55, .getfield 241, 3, [2, 2, 153], 0)]
def rt_84_2 : List rI := [(58, .iload_n 1, 1, [], 0), (59, .iaload, 1, [], 0), (60, .aload_n 0, 1, [], 0), (61, .getfield 55, 3, [6, 5, 420], 0), (64, .getfield 241, 3, [2, 2, 153], 0), (67, .iload_n 1, 1, [], 0), (68, .iaload, 1, [], 0), (69, .invokevirtual 255, 3, [15, 2, 0, 726], 0), (72, .ifCond .eq 7, 3, [43], 0), (75, .iconst 1, 1, [], 1), (76, .goto 4, 3, [44], 0), (79, .iconst 0, 1, [], 0), (80, .ireturn, 1, [], 0)]
def rt_84 : List (List rI) := [rt_84_0, rt_84_1, rt_84_2]
def rt_85_0 : List rI := [(0, .aload_n 0, 1, [], 0), (1, .getfield 61, 3, [6, 6, 421], 0), (4, .iconst 0, 1, [], 0), (5, .putfield 98, 3, [0, 4, 314], 0), (8, .aload_n 0, 1, [], 0), (9, .iconst 0, 1, [], 0), (10, .putfield 105, 3, [6, 7, 422], 0), (13, .aload_n 0, 1, [], 0), (14, .iload_n 1, 1, [], 0), (15, .invokevirtual 155, 3, [86, 1, 0, 594], 0), (18, .ireturn, 1, [], 0)]
def rt_85 : List (List rI) := [rt_85_0]
def rt_86_0 : List rI := [(0, .aload_n 0, 1, [], 0), (1, .getfield 23, 3, [6, 0, 415], 0), (4, .getfield 86, 3, [1, 10, 102], 0), (7, .ifCond .ne 5, 3, [6], 0), (10, .iload_n 1, 1, [], 0), (11, .ireturn, 1, [], 0), (12, .aload_n 0, 1, [], 0), (13, .aload_n 0, 1, [], 0), (14, .getfield 23, 3, [6, 0, 415], 0), (17, .getfield 168, 3, [1, 8, 100], 0), (20, .aload_n 0, 1, [], 0), (21, .getfield 23, 3, [6, 0, 415], 0), (24, .getfield 171, 3, [1, 9, 101], 0), (27, .invokevirtual 161, 3, [87, 2, 0, 598], 0), (30, .bipush (-2), 2, [], (-2)), (32, .ireturn, 1, [], 0)]
def rt_86 : List (List rI) := [rt_86_0]
def rt_87_0 : List rI := [(0, .aload_n 0, 1, [], 0), (1, .getfield 23, 3, [6, 0, 415], 0), (4, .iload_n 1, 1, [], 0), (5, .iload_n 2, 1, [], 0), (6, .invokevirtual 258, 3, [18, 2, 0, 602], 0), (9, .aload_n 0, 1, [], 0), (10, .iconst 0, 1, [], 0), (11, .putfield 90, 3, [6, 9, 424], 0), (14, .aload_n 0, 1, [], 0), (15, .getfield 61, 3, [6, 6, 421], 0), (18, .iconst 0, 1, [], 0), (19, .putfield 98, 3, [0, 4, 314], 0), (22, .aload_n 0, 1, [], 0), (23, .iconst 0, 1, [], 0), (24, .putfield 105, 3, [6, 7, 422], 0), (27, .return_, 1, [], 0)]
def rt_87 : List (List rI) := [rt_87_0]
def rt_88_0 : List rI := [(0, .aload_n 0, 1, [], 0), (1, .invokespecial 1, 3, [0, 0, 12, 739], 0), (4, .aload_n 0, 1, [], 0), (5, .iconst 3, 1, [], 3), (6, .newarray .int, 2, [0], 0), (8, .putfield 7, 3, [7, 1, 790], 0), (11, .aload_n 0, 1, [], 0), (12, .iconst 3, 1, [], 3), (13, .newarray .int, 2, [0], 0), (15, .putfield 13, 3, [7, 2, 791], 0), (18, .aload_n 0, 1, [], 0), (19, .sipush 20000, 3, [], 20000), (22, .newarray .byte, 2, [1], 0), (24, .putfield 16, 3, [7, 3, 792], 0), (27, .aload_n 0, 1, [], 0), (28, .sipush 20000, 3, [], 20000)]
def rt_88_1 : List rI := [(31, .newarray .byte, 2, [1], 0), (33, .putfield 20, 3, [7, 4, 793], 0), (36, .aload_n 0, 1, [], 0), (37, .sipush 6000, 3, [], 6000), (40, .newarray .int, 2, [0], 0), (42, .putfield 23, 3, [7, 5, 794], 0), (45, .aload_n 0, 1, [], 0), (46, .sipush 6000, 3, [], 6000), (49, .newarray .int, 2, [0], 0), (51, .putfield 26, 3, [7, 6, 795], 0), (54, .aload_n 0, 1, [], 0), (55, .sipush 6000, 3, [], 6000), (58, .newarray .int, 2, [0], 0), (60, .putfield 29, 3, [7, 7, 796], 0), (63, .aload_n 0, 1, [], 0), (64, .sipush 6000, 3, [], 6000)]
def rt_88_2 : List rI := [(67, .newarray .int, 2, [0], 0), (69, .putfield 32, 3, [7, 8, 797], 0), (72, .aload_n 0, 1, [], 0), (73, .ldc 35, 2, [740], 90000), (75, .newarray .byte, 2, [1], 0), (77, .putfield 36, 3, [7, 9, 798], 0), (80, .aload_n 0, 1, [], 0), (81, .bipush 64, 2, [], 64), (83, .newarray .byte, 2, [1], 0), (85, .putfield 39, 3, [7, 16, 805], 0), (88, .aload_n 0, 1, [], 0), (89, .bipush 64, 2, [], 64), (91, .newarray .byte, 2, [1], 0), (93, .putfield 42, 3, [7, 18, 807], 0), (96, .aload_n 0, 1, [], 0), (97, .bipush 8, 2, [], 8)]
def rt_88_3 : List rI := [(99, .newarray .int, 2, [0], 0), (101, .putfield 45, 3, [7, 24, 813], 0), (104, .aload_n 0, 1, [], 0), (105, .bipush 8, 2, [], 8), (107, .newarray .int, 2, [0], 0), (109, .putfield 48, 3, [7, 25, 814], 0), (112, .aload_n 0, 1, [], 0), (113, .bipush 8, 2, [], 8), (115, .newarray .int, 2, [0], 0), (117, .putfield 51, 3, [7, 26, 815], 0), (120, .aload_n 0, 1, [], 0), (121, .sipush 512, 3, [], 512), (124, .newarray .byte, 2, [1], 0), (126, .putfield 54, 3, [7, 27, 816], 0), (129, .aload_n 0, 1, [], 0), (130, .bipush 12, 2, [], 12)]
def rt_88_4 : List rI := [(132, .newarray .int, 2, [0], 0), (134, .putfield 57, 3, [7, 35, 824], 0), (137, .aload_n 0, 1, [], 0), (138, .bipush 12, 2, [], 12), (140, .newarray .boolean, 2, [2], 0), (142, .putfield 60, 3, [7, 37, 826], 0), (145, .aload_n 0, 1, [], 0), (146, .bipush 120, 2, [], 120), (148, .newarray .int, 2, [0], 0), (150, .putfield 64, 3, [7, 38, 827], 0), (153, .aload_n 0, 1, [], 0), (154, .bipush 120, 2, [], 120), (156, .newarray .int, 2, [0], 0), (158, .putfield 67, 3, [7, 39, 828], 0), (161, .aload_n 0, 1, [], 0), (162, .bipush 120, 2, [], 120)]
def rt_88_5 : List rI := [(164, .newarray .int, 2, [0], 0), (166, .putfield 70, 3, [7, 40, 829], 0), (169, .aload_n 0, 1, [], 0), (170, .bipush 120, 2, [], 120), (172, .newarray .int, 2, [0], 0), (174, .putfield 73, 3, [7, 42, 831], 0), (177, .aload_n 0, 1, [], 0), (178, .bipush 120, 2, [], 120), (180, .newarray .int, 2, [0], 0), (182, .putfield 76, 3, [7, 43, 832], 0), (185, .aload_n 0, 1, [], 0), (186, .bipush 120, 2, [], 120), (188, .newarray .int, 2, [0], 0), (190, .putfield 79, 3, [7, 44, 833], 0), (193, .aload_n 0, 1, [], 0), (194, .sipush 1300, 3, [], 1300)]
def rt_88_6 : List rI := [(197, .newarray .byte, 2, [1], 0), (199, .putfield 82, 3, [7, 45, 834], 0), (202, .aload_n 0, 1, [], 0), (203, .bipush 64, 2, [], 64), (205, .newarray .byte, 2, [1], 0), (207, .putfield 85, 3, [7, 50, 839], 0), (210, .aload_n 0, 1, [], 0), (211, .iload_n 1, 1, [], 0), (212, .sipush 512, 3, [], 512), (215, .if_icmp .ge 9, 3, [108], 0), (218, .sipush 512, 3, [], 512), (221, .goto 17, 3, [114], 0), (224, .iload_n 1, 1, [], 0), (225, .sipush 4096, 3, [], 4096), (228, .if_icmp .le 9, 3, [113], 0), (231, .sipush 4096, 3, [], 4096)]
def rt_88_7 : List rI := [(234, .goto 4, 3, [114], 0), (237, .iload_n 1, 1, [], 0), (238, .putfield 88, 3, [7, 0, 789], 0), (241, .aload_n 0, 1, [], 0), (242, .getfield 7, 3, [7, 1, 790], 0), (245, .iconst 0, 1, [], 0), (246, .iconst 0, 1, [], 0), (247, .iastore, 1, [], 0), (248, .aload_n 0, 1, [], 0), (249, .getfield 13, 3, [7, 2, 791], 0), (252, .iconst 0, 1, [], 0), (253, .aload_n 0, 1, [], 0), (254, .getfield 88, 3, [7, 0, 789], 0), (257, .iastore, 1, [], 0), (258, .aload_n 0, 1, [], 0), (259, .getfield 7, 3, [7, 1, 790], 0)]
def rt_88_8 : List rI := [(262, .iconst 1, 1, [], 1), (263, .aload_n 0, 1, [], 0), (264, .getfield 88, 3, [7, 0, 789], 0), (267, .iastore, 1, [], 0), (268, .aload_n 0, 1, [], 0), (269, .getfield 13, 3, [7, 2, 791], 0), (272, .iconst 1, 1, [], 1), (273, .sipush 15600, 3, [], 15600), (276, .iastore, 1, [], 0), (277, .aload_n 0, 1, [], 0), (278, .getfield 7, 3, [7, 1, 790], 0), (281, .iconst 2, 1, [], 2), (282, .aload_n 0, 1, [], 0), (283, .getfield 88, 3, [7, 0, 789], 0), (286, .sipush 15600, 3, [], 15600), (289, .iadd, 1, [], 0)]
def rt_88_9 : List rI := [(290, .iastore, 1, [], 0), (291, .aload_n 0, 1, [], 0), (292, .getfield 13, 3, [7, 2, 791], 0), (295, .iconst 2, 1, [], 2), (296, .sipush 128, 3, [], 128), (299, .iastore, 1, [], 0), (300, .aload_n 0, 1, [], 0), (301, .invokevirtual 92, 3, [125, 0, 0, 741], 0), (304, .istore_n 2, 1, [], 0), (305, .return_, 1, [], 0)]
def rt_88 : List (List rI) := [rt_88_0, rt_88_1, rt_88_2, rt_88_3, rt_88_4, rt_88_5, rt_88_6, rt_88_7, rt_88_8, rt_88_9]
def rt_89_0 : List rI := [(0, .aload_n 0, 1, [], 0), (1, .getfield 7, 3, [7, 1, 790], 0), (4, .iload_n 1, 1, [], 0), (5, .iaload, 1, [], 0), (6, .iload_n 2, 1, [], 0), (7, .aload_n 0, 1, [], 0), (8, .getfield 13, 3, [7, 2, 791], 0), (11, .iload_n 1, 1, [], 0), (12, .iaload, 1, [], 0), (13, .irem, 1, [], 0), (14, .iadd, 1, [], 0), (15, .ireturn, 1, [], 0)]
def rt_89 : List (List rI) := [rt_89_0]
def rt_90_0 : List rI := [(0, .aload_n 0, 1, [], 0), (1, .getfield 16, 3, [7, 3, 792], 0), (4, .aload_n 0, 1, [], 0), (5, .iload_n 1, 1, [], 0), (6, .iload_n 2, 1, [], 0), (7, .invokevirtual 96, 3, [89, 2, 0, 753], 0), (10, .baload, 1, [], 0), (11, .sipush 255, 3, [], 255), (14, .iand, 1, [], 0), (15, .ireturn, 1, [], 0)]
def rt_90 : List (List rI) := [rt_90_0]
def rt_91_0 : List rI := [(0, .aload_n 0, 1, [], 0), (1, .iload_n 1, 1, [], 0), (2, .iload_n 2, 1, [], 0), (3, .invokevirtual 100, 3, [90, 2, 0, 749], 0), (6, .bipush 24, 2, [], 24), (8, .ishl, 1, [], 0), (9, .aload_n 0, 1, [], 0), (10, .iload_n 1, 1, [], 0), (11, .iload_n 2, 1, [], 0), (12, .iconst 1, 1, [], 1), (13, .iadd, 1, [], 0), (14, .invokevirtual 100, 3, [90, 2, 0, 749], 0), (17, .bipush 16, 2, [], 16), (19, .ishl, 1, [], 0), (20, .ior, 1, [], 0), (21, .aload_n 0, 1, [], 0)]
def rt_91_1 : List rI := [(22, .iload_n 1, 1, [], 0), (23, .iload_n 2, 1, [], 0), (24, .iconst 2, 1, [], 2), (25, .iadd, 1, [], 0), (26, .invokevirtual 100, 3, [90, 2, 0, 749], 0), (29, .bipush 8, 2, [], 8), (31, .ishl, 1, [], 0), (32, .ior, 1, [], 0), (33, .aload_n 0, 1, [], 0), (34, .iload_n 1, 1, [], 0), (35, .iload_n 2, 1, [], 0), (36, .iconst 3, 1, [], 3), (37, .iadd, 1, [], 0), (38, .invokevirtual 100, 3, [90, 2, 0, 749], 0), (41, .ior, 1, [], 0), (42, .ireturn, 1, [], 0)]
def rt_91 : List (List rI) := [rt_91_0, rt_91_1]
def rt_92_0 : List rI := [(0, .iconst 0, 1, [], 0), (1, .istore_n 3, 1, [], 0), (2, .iload_n 3, 1, [], 0), (3, .iconst 4, 1, [], 4), (4, .if_icmp .ge 27, 3, [21], 0), (7, .aload_n 0, 1, [], 0), (8, .getfield 82, 3, [7, 45, 834], 0), (11, .iload_n 1, 1, [], 0), (12, .iload_n 3, 1, [], 0), (13, .iadd, 1, [], 0), (14, .iload_n 2, 1, [], 0), (15, .bipush 24, 2, [], 24), (17, .bipush 8, 2, [], 8), (19, .iload_n 3, 1, [], 0), (20, .imul, 1, [], 0), (21, .isub, 1, [], 0)]
def rt_92_1 : List rI := [(22, .ishr, 1, [], 0), (23, .i2b, 1, [], 0), (24, .bastore, 1, [], 0), (25, .iinc 3 1, 3, [], 1), (28, .goto (-26), 3, [2], 0), (31, .return_, 1, [], 0)]
def rt_92 : List (List rI) := [rt_92_0, rt_92_1]
def rt_93_0 : List rI := [(0, .iconst 0, 1, [], 0), (1, .istore_n 2, 1, [], 0), (2, .iload_n 2, 1, [], 0), (3, .iload_n 1, 1, [], 0), (4, .if_icmp .ge 16, 3, [12], 0), (7, .aload_n 0, 1, [], 0), (8, .getfield 82, 3, [7, 45, 834], 0), (11, .iload_n 2, 1, [], 0), (12, .iconst 0, 1, [], 0), (13, .bastore, 1, [], 0), (14, .iinc 2 1, 3, [], 1), (17, .goto (-15), 3, [2], 0), (20, .return_, 1, [], 0)]
def rt_93 : List (List rI) := [rt_93_0]
def rt_94_0 : List rI := [(0, .aload_n 0, 1, [], 0), (1, .getfield 23, 3, [7, 5, 794], 0), (4, .aload_n 0, 1, [], 0), (5, .getfield 103, 3, [7, 10, 799], 0), (8, .iload_n 1, 1, [], 0), (9, .iastore, 1, [], 0), (10, .aload_n 0, 1, [], 0), (11, .getfield 26, 3, [7, 6, 795], 0), (14, .aload_n 0, 1, [], 0), (15, .getfield 103, 3, [7, 10, 799], 0), (18, .iload_n 2, 1, [], 0), (19, .iastore, 1, [], 0), (20, .aload_n 0, 1, [], 0), (21, .getfield 29, 3, [7, 7, 796], 0), (24, .aload_n 0, 1, [], 0), (25, .getfield 103, 3, [7, 10, 799], 0)]
def rt_94_1 : List rI := [(28, .iload_n 3, 1, [], 0), (29, .iastore, 1, [], 0), (30, .aload_n 0, 1, [], 0), (31, .getfield 32, 3, [7, 8, 797], 0), (34, .aload_n 0, 1, [], 0), (35, .getfield 103, 3, [7, 10, 799], 0), (38, .aload_n 0, 1, [], 0), (39, .getfield 106, 3, [7, 11, 800], 0), (42, .iastore, 1, [], 0), (43, .aload_n 0, 1, [], 0), (44, .dup, 1, [], 0), (45, .getfield 103, 3, [7, 10, 799], 0), (48, .iconst 1, 1, [], 1), (49, .iadd, 1, [], 0), (50, .putfield 103, 3, [7, 10, 799], 0), (53, .iconst 0, 1, [], 0)]
def rt_94_2 : List rI := [(54, .istore 4, 2, [], 0), (56, .iload 4, 2, [], 0), (58, .iload_n 3, 1, [], 0), (59, .if_icmp .ge 56, 3, [66], 0), (62, .aload_n 0, 1, [], 0), (63, .getfield 36, 3, [7, 9, 798], 0), (66, .aload_n 0, 1, [], 0), (67, .getfield 106, 3, [7, 11, 800], 0), (70, .aload_n 0, 1, [], 0), (71, .getfield 82, 3, [7, 45, 834], 0), (74, .iload 4, 2, [], 0), (76, .baload, 1, [], 0), (77, .bastore, 1, [], 0), (78, .aload_n 0, 1, [], 0), (79, .dup, 1, [], 0), (80, .getfield 106, 3, [7, 11, 800], 0)]
def rt_94_3 : List rI := [(83, .iconst 1, 1, [], 1), (84, .iadd, 1, [], 0), (85, .putfield 106, 3, [7, 11, 800], 0), (88, .aload_n 0, 1, [], 0), (89, .getfield 16, 3, [7, 3, 792], 0), (92, .aload_n 0, 1, [], 0), (93, .iload_n 1, 1, [], 0), (94, .iload_n 2, 1, [], 0), (95, .iload 4, 2, [], 0), (97, .iadd, 1, [], 0), (98, .invokevirtual 96, 3, [89, 2, 0, 753], 0), (101, .aload_n 0, 1, [], 0), (102, .getfield 82, 3, [7, 45, 834], 0), (105, .iload 4, 2, [], 0), (107, .baload, 1, [], 0), (108, .bastore, 1, [], 0)]
def rt_94_4 : List rI := [(109, .iinc 4 1, 3, [], 1), (112, .goto (-56), 3, [33], 0), (115, .aload_n 0, 1, [], 0), (116, .getfield 109, 3, [7, 12, 801], 0), (119, .ifCond .le 32, 3, [84], 0), (122, .aload_n 0, 1, [], 0), (123, .dup, 1, [], 0), (124, .getfield 109, 3, [7, 12, 801], 0), (127, .iconst 1, 1, [], 1), (128, .isub, 1, [], 0), (129, .putfield 109, 3, [7, 12, 801], 0), (132, .aload_n 0, 1, [], 0), (133, .getfield 109, 3, [7, 12, 801], 0), (136, .ifCond .ne 15, 3, [84], 0), (139, .aload_n 0, 1, [], 0), (140, .aload_n 0, 1, [], 0)]
def rt_94_5 : List rI := [(141, .getfield 112, 3, [7, 13, 802], 0), (144, .aload_n 0, 1, [], 0), (145, .getfield 115, 3, [7, 14, 803], 0), (148, .invokevirtual 118, 3, [97, 2, 0, 777], 0), (151, .return_, 1, [], 0)]
def rt_94 : List (List rI) := [rt_94_0, rt_94_1, rt_94_2, rt_94_3, rt_94_4, rt_94_5]
def rt_95_0 : List rI := [(0, .iconst 0, 1, [], 0), (1, .istore_n 3, 1, [], 0), (2, .iload_n 3, 1, [], 0), (3, .iload_n 2, 1, [], 0), (4, .if_icmp .ge 45, 3, [31], 0), (7, .aload_n 0, 1, [], 0), (8, .getfield 20, 3, [7, 4, 793], 0), (11, .aload_n 0, 1, [], 0), (12, .aload_n 0, 1, [], 0), (13, .getfield 23, 3, [7, 5, 794], 0), (16, .iload_n 1, 1, [], 0), (17, .iaload, 1, [], 0), (18, .aload_n 0, 1, [], 0), (19, .getfield 26, 3, [7, 6, 795], 0), (22, .iload_n 1, 1, [], 0), (23, .iaload, 1, [], 0)]
def rt_95_1 : List rI := [(24, .iload_n 3, 1, [], 0), (25, .iadd, 1, [], 0), (26, .invokevirtual 96, 3, [89, 2, 0, 753], 0), (29, .aload_n 0, 1, [], 0), (30, .getfield 36, 3, [7, 9, 798], 0), (33, .aload_n 0, 1, [], 0), (34, .getfield 32, 3, [7, 8, 797], 0), (37, .iload_n 1, 1, [], 0), (38, .iaload, 1, [], 0), (39, .iload_n 3, 1, [], 0), (40, .iadd, 1, [], 0), (41, .baload, 1, [], 0), (42, .bastore, 1, [], 0), (43, .iinc 3 1, 3, [], 1), (46, .goto (-44), 3, [2], 0), (49, .return_, 1, [], 0)]
def rt_95 : List (List rI) := [rt_95_0, rt_95_1]
def rt_96_0 : List rI := [(0, .aload_n 0, 1, [], 0), (1, .getfield 103, 3, [7, 10, 799], 0), (4, .istore_n 1, 1, [], 0), (5, .iconst 0, 1, [], 0), (6, .istore_n 2, 1, [], 0), (7, .iload_n 2, 1, [], 0), (8, .iload_n 1, 1, [], 0), (9, .if_icmp .ge 20, 3, [17], 0), (12, .aload_n 0, 1, [], 0), (13, .iload_n 2, 1, [], 0), (14, .aload_n 0, 1, [], 0), (15, .getfield 29, 3, [7, 7, 796], 0), (18, .iload_n 2, 1, [], 0), (19, .iaload, 1, [], 0), (20, .invokevirtual 122, 3, [95, 2, 0, 781], 0), (23, .iinc 2 1, 3, [], 1)]
def rt_96_1 : List rI := [(26, .goto (-19), 3, [5], 0), (29, .aload_n 0, 1, [], 0), (30, .iconst 0, 1, [], 0), (31, .putfield 103, 3, [7, 10, 799], 0), (34, .aload_n 0, 1, [], 0), (35, .iconst 0, 1, [], 0), (36, .putfield 106, 3, [7, 11, 800], 0), (39, .iload_n 1, 1, [], 0), (40, .ireturn, 1, [], 0)]
def rt_96 : List (List rI) := [rt_96_0, rt_96_1]
def rt_97_0 : List rI := [(0, .iconst 0, 1, [], 0), (1, .istore_n 3, 1, [], 0), (2, .iload_n 3, 1, [], 0), (3, .aload_n 0, 1, [], 0), (4, .getfield 103, 3, [7, 10, 799], 0), (7, .if_icmp .ge 44, 3, [29], 0), (10, .iload_n 3, 1, [], 0), (11, .iload_n 1, 1, [], 0), (12, .if_icmp .gt 39, 3, [29], 0), (15, .aload_n 0, 1, [], 0), (16, .iload_n 3, 1, [], 0), (17, .iload_n 3, 1, [], 0), (18, .iload_n 1, 1, [], 0), (19, .if_icmp .lt 13, 3, [20], 0), (22, .iload_n 2, 1, [], 0), (23, .aload_n 0, 1, [], 0)]
def rt_97_1 : List rI := [(24, .getfield 29, 3, [7, 7, 796], 0), (27, .iload_n 3, 1, [], 0), (28, .iaload, 1, [], 0), (29, .if_icmp .le 12, 3, [25], 0), (32, .aload_n 0, 1, [], 0), (33, .getfield 29, 3, [7, 7, 796], 0), (36, .iload_n 3, 1, [], 0), (37, .iaload, 1, [], 0), (38, .goto 4, 3, [26], 0), (41, .iload_n 2, 1, [], 0), (42, .invokevirtual 122, 3, [95, 2, 0, 781], 0), (45, .iinc 3 1, 3, [], 1), (48, .goto (-46), 3, [2], 0), (51, .iconst 0, 1, [], 0), (52, .istore_n 3, 1, [], 0), (53, .iload_n 3, 1, [], 0)]
def rt_97_2 : List rI := [(54, .aload_n 0, 1, [], 0), (55, .getfield 7, 3, [7, 1, 790], 0), (58, .iconst 2, 1, [], 2), (59, .iaload, 1, [], 0), (60, .sipush 128, 3, [], 128), (63, .iadd, 1, [], 0), (64, .if_icmp .ge 21, 3, [49], 0), (67, .aload_n 0, 1, [], 0), (68, .getfield 16, 3, [7, 3, 792], 0), (71, .iload_n 3, 1, [], 0), (72, .aload_n 0, 1, [], 0), (73, .getfield 20, 3, [7, 4, 793], 0), (76, .iload_n 3, 1, [], 0), (77, .baload, 1, [], 0), (78, .bastore, 1, [], 0), (79, .iinc 3 1, 3, [], 1)]
def rt_97_3 : List rI := [(82, .goto (-29), 3, [31], 0), (85, .aload_n 0, 1, [], 0), (86, .iconst 0, 1, [], 0), (87, .putfield 103, 3, [7, 10, 799], 0), (90, .aload_n 0, 1, [], 0), (91, .iconst 0, 1, [], 0), (92, .putfield 106, 3, [7, 11, 800], 0), (95, .aload_n 0, 1, [], 0), (96, .iconst 0, 1, [], 0), (97, .putfield 109, 3, [7, 12, 801], 0), (100, .aload_n 0, 1, [], 0), (101, .iconst 1, 1, [], 1), (102, .putfield 125, 3, [7, 15, 804], 0), (105, .aload_n 0, 1, [], 0), (106, .iconst 0, 1, [], 0), (107, .putfield 129, 3, [7, 17, 806], 0)]
def rt_97_4 : List rI := [(110, .aload_n 0, 1, [], 0), (111, .iconst 0, 1, [], 0), (112, .putfield 132, 3, [7, 22, 811], 0), (115, .aload_n 0, 1, [], 0), (116, .iconst 0, 1, [], 0), (117, .putfield 135, 3, [7, 23, 812], 0), (120, .aload_n 0, 1, [], 0), (121, .iconst 0, 1, [], 0), (122, .putfield 138, 3, [7, 41, 830], 0), (125, .iconst 0, 1, [], 0), (126, .istore_n 3, 1, [], 0), (127, .iload_n 3, 1, [], 0), (128, .bipush 120, 2, [], 120), (130, .if_icmp .ge 16, 3, [85], 0), (133, .aload_n 0, 1, [], 0), (134, .getfield 64, 3, [7, 38, 827], 0)]
def rt_97_5 : List rI := [(137, .iload_n 3, 1, [], 0), (138, .iconst 0, 1, [], 0), (139, .iastore, 1, [], 0), (140, .iinc 3 1, 3, [], 1), (143, .goto (-16), 3, [75], 0), (146, .return_, 1, [], 0)]
def rt_97 : List (List rI) := [rt_97_0, rt_97_1, rt_97_2, rt_97_3, rt_97_4, rt_97_5]
def rt_98_0 : List rI := [(0, .aload_n 0, 1, [], 0), (1, .iconst 0, 1, [], 0), (2, .iload_n 1, 1, [], 0), (3, .invokevirtual 100, 3, [90, 2, 0, 749], 0), (6, .istore_n 3, 1, [], 0), (7, .aload_n 0, 1, [], 0), (8, .iconst 0, 1, [], 0), (9, .iload_n 1, 1, [], 0), (10, .iconst 2, 1, [], 2), (11, .iadd, 1, [], 0), (12, .invokevirtual 100, 3, [90, 2, 0, 749], 0), (15, .istore 4, 2, [], 0), (17, .iload_n 3, 1, [], 0), (18, .iconst 1, 1, [], 1), (19, .if_icmp .eq 27, 3, [26], 0), (22, .iload_n 3, 1, [], 0)]
def rt_98_1 : List rI := [(23, .sipush 129, 3, [], 129), (26, .if_icmp .eq 20, 3, [26], 0), (29, .iload_n 3, 1, [], 0), (30, .iconst 2, 1, [], 2), (31, .if_icmp .eq 10, 3, [24], 0), (34, .iload_n 3, 1, [], 0), (35, .sipush 130, 3, [], 130), (38, .if_icmp .ne 12, 3, [28], 0), (41, .iload 4, 2, [], 0), (43, .ifCond .ne 7, 3, [28], 0), (46, .iconst 1, 1, [], 1), (47, .goto 4, 3, [29], 0), (50, .iconst 0, 1, [], 0), (51, .istore 5, 2, [], 0), (53, .iload 5, 2, [], 0), (55, .ifCond .eq 85, 3, [81], 0)]
def rt_98_2 : List rI := [(58, .aload_n 0, 1, [], 0), (59, .iconst 0, 1, [], 0), (60, .iload_n 1, 1, [], 0), (61, .iconst 1, 1, [], 1), (62, .iadd, 1, [], 0), (63, .invokevirtual 100, 3, [90, 2, 0, 749], 0), (66, .bipush 120, 2, [], 120), (68, .if_icmp .ge 72, 3, [81], 0), (71, .iload 4, 2, [], 0), (73, .bipush 64, 2, [], 64), (75, .if_icmp .gt 65, 3, [81], 0), (78, .aload_n 0, 1, [], 0), (79, .iconst 0, 1, [], 0), (80, .iload_n 1, 1, [], 0), (81, .iconst 3, 1, [], 3), (82, .iadd, 1, [], 0)]
def rt_98_3 : List rI := [(83, .invokevirtual 100, 3, [90, 2, 0, 749], 0), (86, .ifCond .ne 54, 3, [81], 0), (89, .aload_n 0, 1, [], 0), (90, .iconst 0, 1, [], 0), (91, .iload_n 1, 1, [], 0), (92, .iconst 4, 1, [], 4), (93, .iadd, 1, [], 0), (94, .invokevirtual 141, 3, [91, 2, 0, 745], 0), (97, .iload_n 2, 1, [], 0), (98, .if_icmp .ne 42, 3, [81], 0), (101, .aload_n 0, 1, [], 0), (102, .iconst 0, 1, [], 0), (103, .iload_n 1, 1, [], 0), (104, .bipush 8, 2, [], 8), (106, .iadd, 1, [], 0), (107, .invokevirtual 141, 3, [91, 2, 0, 745], 0)]
def rt_98_4 : List rI := [(110, .iload_n 2, 1, [], 0), (111, .if_icmp .ne 29, 3, [81], 0), (114, .iload_n 1, 1, [], 0), (115, .bipush 12, 2, [], 12), (117, .iadd, 1, [], 0), (118, .iload 4, 2, [], 0), (120, .iadd, 1, [], 0), (121, .aload_n 0, 1, [], 0), (122, .getfield 144, 3, [7, 29, 818], 0), (125, .aload_n 0, 1, [], 0), (126, .getfield 88, 3, [7, 0, 789], 0), (129, .iadd, 1, [], 0), (130, .bipush 12, 2, [], 12), (132, .isub, 1, [], 0), (133, .if_icmp .gt 7, 3, [81], 0), (136, .iconst 1, 1, [], 1)]
def rt_98_5 : List rI := [(137, .goto 4, 3, [82], 0), (140, .iconst 0, 1, [], 0), (141, .ireturn, 1, [], 0)]
def rt_98 : List (List rI) := [rt_98_0, rt_98_1, rt_98_2, rt_98_3, rt_98_4, rt_98_5]
def rt_99_0 : List rI := [(0, .bipush 12, 2, [], 12), (2, .aload_n 0, 1, [], 0), (3, .iconst 0, 1, [], 0), (4, .iload_n 1, 1, [], 0), (5, .iconst 2, 1, [], 2), (6, .iadd, 1, [], 0), (7, .invokevirtual 100, 3, [90, 2, 0, 749], 0), (10, .iadd, 1, [], 0), (11, .ireturn, 1, [], 0)]
def rt_99 : List (List rI) := [rt_99_0]
def rt_100_0 : List rI := [(0, .aload_n 0, 1, [], 0), (1, .bipush 12, 2, [], 12), (3, .invokevirtual 147, 3, [93, 1, 0, 769], 0), (6, .aload_n 0, 1, [], 0), (7, .iconst 0, 1, [], 0), (8, .aload_n 0, 1, [], 0), (9, .getfield 151, 3, [7, 28, 817], 0), (12, .bipush 12, 2, [], 12), (14, .iadd, 1, [], 0), (15, .iload_n 3, 1, [], 0), (16, .iadd, 1, [], 0), (17, .bipush 12, 2, [], 12), (19, .invokevirtual 154, 3, [94, 3, 0, 773], 0), (22, .aload_n 0, 1, [], 0), (23, .getfield 125, 3, [7, 15, 804], 0), (26, .ifCond .ne 49, 3, [41], 0)]
def rt_100_1 : List rI := [(29, .iload_n 3, 1, [], 0), (30, .ifCond .le 45, 3, [41], 0), (33, .iconst 0, 1, [], 0), (34, .istore 4, 2, [], 0), (36, .iload 4, 2, [], 0), (38, .iload_n 3, 1, [], 0), (39, .if_icmp .ge 23, 3, [33], 0), (42, .aload_n 0, 1, [], 0), (43, .getfield 82, 3, [7, 45, 834], 0), (46, .iload 4, 2, [], 0), (48, .aload_n 0, 1, [], 0), (49, .getfield 85, 3, [7, 50, 839], 0), (52, .iload 4, 2, [], 0), (54, .baload, 1, [], 0), (55, .bastore, 1, [], 0), (56, .iinc 4 1, 3, [], 1)]
def rt_100_2 : List rI := [(59, .goto (-23), 3, [20], 0), (62, .aload_n 0, 1, [], 0), (63, .iconst 0, 1, [], 0), (64, .aload_n 0, 1, [], 0), (65, .getfield 151, 3, [7, 28, 817], 0), (68, .bipush 12, 2, [], 12), (70, .iadd, 1, [], 0), (71, .iload_n 3, 1, [], 0), (72, .invokevirtual 154, 3, [94, 3, 0, 773], 0), (75, .aload_n 0, 1, [], 0), (76, .getfield 125, 3, [7, 15, 804], 0), (79, .ifCond .eq 5, 3, [46], 0), (82, .iconst 0, 1, [], 0), (83, .ireturn, 1, [], 0), (84, .aload_n 0, 1, [], 0), (85, .getfield 82, 3, [7, 45, 834], 0)]
def rt_100_3 : List rI := [(88, .iconst 0, 1, [], 0), (89, .iload_n 1, 1, [], 0), (90, .i2b, 1, [], 0), (91, .bastore, 1, [], 0), (92, .aload_n 0, 1, [], 0), (93, .getfield 82, 3, [7, 45, 834], 0), (96, .iconst 1, 1, [], 1), (97, .iload_n 2, 1, [], 0), (98, .i2b, 1, [], 0), (99, .bastore, 1, [], 0), (100, .aload_n 0, 1, [], 0), (101, .getfield 82, 3, [7, 45, 834], 0), (104, .iconst 2, 1, [], 2), (105, .iload_n 3, 1, [], 0), (106, .i2b, 1, [], 0), (107, .bastore, 1, [], 0)]
def rt_100_4 : List rI := [(108, .aload_n 0, 1, [], 0), (109, .getfield 82, 3, [7, 45, 834], 0), (112, .iconst 3, 1, [], 3), (113, .iconst 0, 1, [], 0), (114, .bastore, 1, [], 0), (115, .aload_n 0, 1, [], 0), (116, .iconst 4, 1, [], 4), (117, .aload_n 0, 1, [], 0), (118, .getfield 158, 3, [7, 32, 821], 0), (121, .invokevirtual 161, 3, [92, 2, 0, 983], 0), (124, .aload_n 0, 1, [], 0), (125, .bipush 8, 2, [], 8), (127, .aload_n 0, 1, [], 0), (128, .getfield 158, 3, [7, 32, 821], 0), (131, .invokevirtual 161, 3, [92, 2, 0, 983], 0), (134, .aload_n 0, 1, [], 0)]
def rt_100_5 : List rI := [(135, .iconst 0, 1, [], 0), (136, .aload_n 0, 1, [], 0), (137, .getfield 151, 3, [7, 28, 817], 0), (140, .bipush 12, 2, [], 12), (142, .invokevirtual 154, 3, [94, 3, 0, 773], 0), (145, .aload_n 0, 1, [], 0), (146, .getfield 125, 3, [7, 15, 804], 0), (149, .ifCond .eq 5, 3, [90], 0), (152, .iconst 0, 1, [], 0), (153, .ireturn, 1, [], 0), (154, .aload_n 0, 1, [], 0), (155, .aload_n 0, 1, [], 0), (156, .getfield 151, 3, [7, 28, 817], 0), (159, .bipush 12, 2, [], 12), (161, .iadd, 1, [], 0), (162, .iload_n 3, 1, [], 0)]
def rt_100_6 : List rI := [(163, .iadd, 1, [], 0), (164, .putfield 151, 3, [7, 28, 817], 0), (167, .aload_n 0, 1, [], 0), (168, .dup, 1, [], 0), (169, .getfield 158, 3, [7, 32, 821], 0), (172, .iconst 1, 1, [], 1), (173, .iadd, 1, [], 0), (174, .putfield 158, 3, [7, 32, 821], 0), (177, .iconst 1, 1, [], 1), (178, .ireturn, 1, [], 0)]
def rt_100 : List (List rI) := [rt_100_0, rt_100_1, rt_100_2, rt_100_3, rt_100_4, rt_100_5, rt_100_6]
def rt_101_0 : List rI := [(0, .aload_n 0, 1, [], 0), (1, .dup, 1, [], 0), (2, .getfield 138, 3, [7, 41, 830], 0), (5, .aload_n 0, 1, [], 0), (6, .getfield 64, 3, [7, 38, 827], 0), (9, .iload_n 1, 1, [], 0), (10, .iaload, 1, [], 0), (11, .ifCond .ne 7, 3, [10], 0), (14, .iconst 1, 1, [], 1), (15, .goto 4, 3, [11], 0), (18, .iconst 0, 1, [], 0), (19, .iadd, 1, [], 0), (20, .putfield 138, 3, [7, 41, 830], 0), (23, .aload_n 0, 1, [], 0), (24, .getfield 64, 3, [7, 38, 827], 0), (27, .iload_n 1, 1, [], 0)]
def rt_101_1 : List rI := [(28, .iload_n 2, 1, [], 0), (29, .iastore, 1, [], 0), (30, .aload_n 0, 1, [], 0), (31, .getfield 67, 3, [7, 39, 828], 0), (34, .iload_n 1, 1, [], 0), (35, .iload_n 3, 1, [], 0), (36, .iastore, 1, [], 0), (37, .aload_n 0, 1, [], 0), (38, .getfield 70, 3, [7, 40, 829], 0), (41, .iload_n 1, 1, [], 0), (42, .iload 4, 2, [], 0), (44, .iastore, 1, [], 0), (45, .return_, 1, [], 0)]
def rt_101 : List (List rI) := [rt_101_0, rt_101_1]
def rt_102_0 : List rI := [(0, .aload_n 0, 1, [], 0), (1, .iconst 1, 1, [], 1), (2, .aload_n 0, 1, [], 0), (3, .getfield 57, 3, [7, 35, 824], 0), (6, .iload_n 1, 1, [], 0), (7, .iaload, 1, [], 0), (8, .sipush 1300, 3, [], 1300), (11, .imul, 1, [], 0), (12, .iload_n 2, 1, [], 0), (13, .iadd, 1, [], 0), (14, .invokevirtual 100, 3, [90, 2, 0, 749], 0), (17, .ireturn, 1, [], 0)]
def rt_102 : List (List rI) := [rt_102_0]
def rt_103_0 : List rI := [(0, .aload_n 0, 1, [], 0), (1, .iconst 1, 1, [], 1), (2, .aload_n 0, 1, [], 0), (3, .getfield 57, 3, [7, 35, 824], 0), (6, .iload_n 1, 1, [], 0), (7, .iaload, 1, [], 0), (8, .sipush 1300, 3, [], 1300), (11, .imul, 1, [], 0), (12, .iload_n 2, 1, [], 0), (13, .iadd, 1, [], 0), (14, .invokevirtual 141, 3, [91, 2, 0, 745], 0), (17, .ireturn, 1, [], 0)]
def rt_103 : List (List rI) := [rt_103_0]
def rt_104_0 : List rI := [(0, .aload_n 0, 1, [], 0), (1, .iload_n 1, 1, [], 0), (2, .iconst 1, 1, [], 1), (3, .invokevirtual 164, 3, [102, 2, 0, 1002], 0), (6, .ireturn, 1, [], 0)]
def rt_104 : List (List rI) := [rt_104_0]
def rt_105_0 : List rI := [(0, .iconst 1, 1, [], 1), (1, .bipush 7, 2, [], 7), (3, .iload_n 0, 1, [], 0), (4, .imul, 1, [], 0), (5, .bipush 32, 2, [], 32), (7, .irem, 1, [], 0), (8, .ishl, 1, [], 0), (9, .iconst 1, 1, [], 1), (10, .bipush 11, 2, [], 11), (12, .iload_n 0, 1, [], 0), (13, .imul, 1, [], 0), (14, .iconst 5, 1, [], 5), (15, .iadd, 1, [], 0), (16, .bipush 32, 2, [], 32), (18, .irem, 1, [], 0), (19, .ishl, 1, [], 0)]
def rt_105_1 : List rI := [(20, .ior, 1, [], 0), (21, .ireturn, 1, [], 0)]
def rt_105 : List (List rI) := [rt_105_0, rt_105_1]
def rt_106_0 : List rI := [(0, .iconst 0, 1, [], 0), (1, .istore_n 3, 1, [], 0), (2, .iload_n 3, 1, [], 0), (3, .aload_n 0, 1, [], 0), (4, .iload_n 1, 1, [], 0), (5, .iconst 2, 1, [], 2), (6, .invokevirtual 164, 3, [102, 2, 0, 1002], 0), (9, .if_icmp .ge 33, 3, [26], 0), (12, .aload_n 0, 1, [], 0), (13, .iload_n 1, 1, [], 0), (14, .bipush 16, 2, [], 16), (16, .bipush 10, 2, [], 10), (18, .iload_n 3, 1, [], 0), (19, .imul, 1, [], 0), (20, .iadd, 1, [], 0), (21, .invokevirtual 164, 3, [102, 2, 0, 1002], 0)]
def rt_106_1 : List rI := [(24, .iload_n 2, 1, [], 0), (25, .if_icmp .ne 11, 3, [24], 0), (28, .bipush 16, 2, [], 16), (30, .bipush 10, 2, [], 10), (32, .iload_n 3, 1, [], 0), (33, .imul, 1, [], 0), (34, .iadd, 1, [], 0), (35, .ireturn, 1, [], 0), (36, .iinc 3 1, 3, [], 1), (39, .goto (-37), 3, [2], 0), (42, .iconst 0, 1, [], 0), (43, .ireturn, 1, [], 0)]
def rt_106 : List (List rI) := [rt_106_0, rt_106_1]
def rt_107_0 : List rI := [(0, .aload_n 0, 1, [], 0), (1, .iconst 0, 1, [], 0), (2, .putfield 167, 3, [7, 46, 835], 0), (5, .aload_n 0, 1, [], 0), (6, .aload_n 0, 1, [], 0), (7, .getfield 64, 3, [7, 38, 827], 0), (10, .iload_n 1, 1, [], 0), (11, .iaload, 1, [], 0), (12, .ifCond .le 7, 3, [11], 0), (15, .iconst 1, 1, [], 1), (16, .goto 4, 3, [12], 0), (19, .iconst 0, 1, [], 0), (20, .putfield 170, 3, [7, 49, 838], 0), (23, .aload_n 0, 1, [], 0), (24, .getfield 170, 3, [7, 49, 838], 0), (27, .ifCond .eq 35, 3, [36], 0)]
def rt_107_1 : List rI := [(30, .aload_n 0, 1, [], 0), (31, .aload_n 0, 1, [], 0), (32, .getfield 64, 3, [7, 38, 827], 0), (35, .iload_n 1, 1, [], 0), (36, .iaload, 1, [], 0), (37, .putfield 167, 3, [7, 46, 835], 0), (40, .aload_n 0, 1, [], 0), (41, .aload_n 0, 1, [], 0), (42, .getfield 67, 3, [7, 39, 828], 0), (45, .iload_n 1, 1, [], 0), (46, .iaload, 1, [], 0), (47, .putfield 173, 3, [7, 47, 836], 0), (50, .aload_n 0, 1, [], 0), (51, .aload_n 0, 1, [], 0), (52, .getfield 70, 3, [7, 40, 829], 0), (55, .iload_n 1, 1, [], 0)]
def rt_107_2 : List rI := [(56, .iaload, 1, [], 0), (57, .putfield 176, 3, [7, 48, 837], 0), (60, .iconst 1, 1, [], 1), (61, .ireturn, 1, [], 0), (62, .iconst 0, 1, [], 0), (63, .istore_n 2, 1, [], 0), (64, .iload_n 2, 1, [], 0), (65, .aload_n 0, 1, [], 0), (66, .getfield 179, 3, [7, 36, 825], 0), (69, .if_icmp .ge 59, 3, [77], 0), (72, .aload_n 0, 1, [], 0), (73, .iload_n 2, 1, [], 0), (74, .iload_n 1, 1, [], 0), (75, .invokevirtual 182, 3, [106, 2, 0, 1047], 0), (78, .istore_n 3, 1, [], 0), (79, .iload_n 3, 1, [], 0)]
def rt_107_3 : List rI := [(80, .ifCond .le 42, 3, [75], 0), (83, .aload_n 0, 1, [], 0), (84, .aload_n 0, 1, [], 0), (85, .iload_n 2, 1, [], 0), (86, .iload_n 3, 1, [], 0), (87, .iconst 1, 1, [], 1), (88, .iadd, 1, [], 0), (89, .invokevirtual 164, 3, [102, 2, 0, 1002], 0), (92, .putfield 167, 3, [7, 46, 835], 0), (95, .aload_n 0, 1, [], 0), (96, .aload_n 0, 1, [], 0), (97, .iload_n 2, 1, [], 0), (98, .iload_n 3, 1, [], 0), (99, .iconst 2, 1, [], 2), (100, .iadd, 1, [], 0), (101, .invokevirtual 185, 3, [103, 2, 0, 1014], 0)]
def rt_107_4 : List rI := [(104, .putfield 176, 3, [7, 48, 837], 0), (107, .aload_n 0, 1, [], 0), (108, .aload_n 0, 1, [], 0), (109, .iload_n 2, 1, [], 0), (110, .iload_n 3, 1, [], 0), (111, .bipush 6, 2, [], 6), (113, .iadd, 1, [], 0), (114, .invokevirtual 185, 3, [103, 2, 0, 1014], 0), (117, .putfield 173, 3, [7, 47, 836], 0), (120, .iconst 1, 1, [], 1), (121, .ireturn, 1, [], 0), (122, .iinc 2 1, 3, [], 1), (125, .goto (-61), 3, [38], 0), (128, .iconst 0, 1, [], 0), (129, .ireturn, 1, [], 0)]
def rt_107 : List (List rI) := [rt_107_0, rt_107_1, rt_107_2, rt_107_3, rt_107_4]
def rt_108_0 : List rI := [(0, .aload_n 0, 1, [], 0), (1, .iload_n 1, 1, [], 0), (2, .invokevirtual 188, 3, [107, 1, 0, 1043], 0), (5, .ifCond .eq 15, 3, [10], 0), (8, .aload_n 0, 1, [], 0), (9, .getfield 167, 3, [7, 46, 835], 0), (12, .iconst 1, 1, [], 1), (13, .if_icmp .ne 7, 3, [10], 0), (16, .iconst 1, 1, [], 1), (17, .goto 4, 3, [11], 0), (20, .iconst 0, 1, [], 0), (21, .ireturn, 1, [], 0)]
def rt_108 : List (List rI) := [rt_108_0]
def rt_109_0 : List rI := [(0, .iconst 0, 1, [], 0), (1, .istore_n 1, 1, [], 0), (2, .iload_n 1, 1, [], 0), (3, .bipush 120, 2, [], 120), (5, .if_icmp .ge 16, 3, [12], 0), (8, .aload_n 0, 1, [], 0), (9, .getfield 73, 3, [7, 42, 831], 0), (12, .iload_n 1, 1, [], 0), (13, .iconst 0, 1, [], 0), (14, .iastore, 1, [], 0), (15, .iinc 1 1, 3, [], 1), (18, .goto (-16), 3, [2], 0), (21, .return_, 1, [], 0)]
def rt_109 : List (List rI) := [rt_109_0]
def rt_110_0 : List rI := [(0, .iconst 0, 1, [], 0), (1, .istore_n 2, 1, [], 0), (2, .iload_n 2, 1, [], 0), (3, .aload_n 0, 1, [], 0), (4, .iload_n 1, 1, [], 0), (5, .iconst 2, 1, [], 2), (6, .invokevirtual 164, 3, [102, 2, 0, 1002], 0), (9, .if_icmp .ge 81, 3, [56], 0), (12, .bipush 16, 2, [], 16), (14, .bipush 10, 2, [], 10), (16, .iload_n 2, 1, [], 0), (17, .imul, 1, [], 0), (18, .iadd, 1, [], 0), (19, .istore_n 3, 1, [], 0), (20, .aload_n 0, 1, [], 0), (21, .iload_n 1, 1, [], 0)]
def rt_110_1 : List rI := [(22, .iload_n 3, 1, [], 0), (23, .invokevirtual 164, 3, [102, 2, 0, 1002], 0), (26, .istore 4, 2, [], 0), (28, .aload_n 0, 1, [], 0), (29, .getfield 73, 3, [7, 42, 831], 0), (32, .iload 4, 2, [], 0), (34, .iaload, 1, [], 0), (35, .ifCond .ne 49, 3, [54], 0), (38, .aload_n 0, 1, [], 0), (39, .getfield 73, 3, [7, 42, 831], 0), (42, .iload 4, 2, [], 0), (44, .aload_n 0, 1, [], 0), (45, .iload_n 1, 1, [], 0), (46, .iload_n 3, 1, [], 0), (47, .iconst 1, 1, [], 1), (48, .iadd, 1, [], 0)]
def rt_110_2 : List rI := [(49, .invokevirtual 164, 3, [102, 2, 0, 1002], 0), (52, .iastore, 1, [], 0), (53, .aload_n 0, 1, [], 0), (54, .getfield 79, 3, [7, 44, 833], 0), (57, .iload 4, 2, [], 0), (59, .aload_n 0, 1, [], 0), (60, .iload_n 1, 1, [], 0), (61, .iload_n 3, 1, [], 0), (62, .iconst 2, 1, [], 2), (63, .iadd, 1, [], 0), (64, .invokevirtual 185, 3, [103, 2, 0, 1014], 0), (67, .iastore, 1, [], 0), (68, .aload_n 0, 1, [], 0), (69, .getfield 76, 3, [7, 43, 832], 0), (72, .iload 4, 2, [], 0), (74, .aload_n 0, 1, [], 0)]
def rt_110_3 : List rI := [(75, .iload_n 1, 1, [], 0), (76, .iload_n 3, 1, [], 0), (77, .bipush 6, 2, [], 6), (79, .iadd, 1, [], 0), (80, .invokevirtual 185, 3, [103, 2, 0, 1014], 0), (83, .iastore, 1, [], 0), (84, .iinc 2 1, 3, [], 1), (87, .goto (-85), 3, [2], 0), (90, .return_, 1, [], 0)]
def rt_110 : List (List rI) := [rt_110_0, rt_110_1, rt_110_2, rt_110_3]
def rt_111_0 : List rI := [(0, .iconst 0, 1, [], 0), (1, .istore_n 1, 1, [], 0), (2, .iconst 0, 1, [], 0), (3, .istore_n 2, 1, [], 0), (4, .iload_n 2, 1, [], 0), (5, .bipush 120, 2, [], 120), (7, .if_icmp .ge 26, 3, [20], 0), (10, .iload_n 1, 1, [], 0), (11, .aload_n 0, 1, [], 0), (12, .getfield 73, 3, [7, 42, 831], 0), (15, .iload_n 2, 1, [], 0), (16, .iaload, 1, [], 0), (17, .ifCond .le 7, 3, [15], 0), (20, .iconst 1, 1, [], 1), (21, .goto 4, 3, [16], 0), (24, .iconst 0, 1, [], 0)]
def rt_111_1 : List rI := [(25, .iadd, 1, [], 0), (26, .istore_n 1, 1, [], 0), (27, .iinc 2 1, 3, [], 1), (30, .goto (-26), 3, [4], 0), (33, .iload_n 1, 1, [], 0), (34, .ireturn, 1, [], 0)]
def rt_111 : List (List rI) := [rt_111_0, rt_111_1]
def rt_112_0 : List rI := [(0, .iconst 0, 1, [], 0), (1, .istore_n 2, 1, [], 0), (2, .iconst 1, 1, [], 1), (3, .istore_n 3, 1, [], 0), (4, .iload_n 3, 1, [], 0), (5, .ifCond .eq 64, 3, [40], 0), (8, .aload_n 0, 1, [], 0), (9, .getfield 60, 3, [7, 37, 826], 0), (12, .iload_n 2, 1, [], 0), (13, .baload, 1, [], 0), (14, .istore_n 3, 1, [], 0), (15, .iconst 0, 1, [], 0), (16, .istore 4, 2, [], 0), (18, .iload 4, 2, [], 0), (20, .aload_n 0, 1, [], 0), (21, .getfield 179, 3, [7, 36, 825], 0)]
def rt_112_1 : List rI := [(24, .if_icmp .ge 30, 3, [31], 0), (27, .iload_n 3, 1, [], 0), (28, .ifCond .ne 14, 3, [25], 0), (31, .aload_n 0, 1, [], 0), (32, .getfield 57, 3, [7, 35, 824], 0), (35, .iload 4, 2, [], 0), (37, .iaload, 1, [], 0), (38, .iload_n 2, 1, [], 0), (39, .if_icmp .ne 7, 3, [27], 0), (42, .iconst 1, 1, [], 1), (43, .goto 4, 3, [28], 0), (46, .iconst 0, 1, [], 0), (47, .istore_n 3, 1, [], 0), (48, .iinc 4 1, 3, [], 1), (51, .goto (-33), 3, [13], 0), (54, .iload_n 2, 1, [], 0)]
def rt_112_2 : List rI := [(55, .iload_n 3, 1, [], 0), (56, .ifCond .eq 7, 3, [36], 0), (59, .iconst 1, 1, [], 1), (60, .goto 4, 3, [37], 0), (63, .iconst 0, 1, [], 0), (64, .iadd, 1, [], 0), (65, .istore_n 2, 1, [], 0), (66, .goto (-62), 3, [4], 0), (69, .iconst 0, 1, [], 0), (70, .istore 4, 2, [], 0), (72, .iconst 0, 1, [], 0), (73, .istore 5, 2, [], 0), (75, .iconst 0, 1, [], 0), (76, .istore 6, 2, [], 0), (78, .iload 6, 2, [], 0), (80, .bipush 120, 2, [], 120)]
def rt_112_3 : List rI := [(82, .if_icmp .ge 100, 3, [103], 0), (85, .aload_n 0, 1, [], 0), (86, .getfield 73, 3, [7, 42, 831], 0), (89, .iload 6, 2, [], 0), (91, .iaload, 1, [], 0), (92, .ifCond .le 84, 3, [101], 0), (95, .bipush 16, 2, [], 16), (97, .bipush 10, 2, [], 10), (99, .iload 4, 2, [], 0), (101, .imul, 1, [], 0), (102, .iadd, 1, [], 0), (103, .istore 7, 2, [], 0), (105, .aload_n 0, 1, [], 0), (106, .getfield 82, 3, [7, 45, 834], 0), (109, .iload 7, 2, [], 0), (111, .iload 6, 2, [], 0)]
def rt_112_4 : List rI := [(113, .i2b, 1, [], 0), (114, .bastore, 1, [], 0), (115, .aload_n 0, 1, [], 0), (116, .getfield 82, 3, [7, 45, 834], 0), (119, .iload 7, 2, [], 0), (121, .iconst 1, 1, [], 1), (122, .iadd, 1, [], 0), (123, .aload_n 0, 1, [], 0), (124, .getfield 73, 3, [7, 42, 831], 0), (127, .iload 6, 2, [], 0), (129, .iaload, 1, [], 0), (130, .i2b, 1, [], 0), (131, .bastore, 1, [], 0), (132, .aload_n 0, 1, [], 0), (133, .iload 7, 2, [], 0), (135, .iconst 2, 1, [], 2)]
def rt_112_5 : List rI := [(136, .iadd, 1, [], 0), (137, .aload_n 0, 1, [], 0), (138, .getfield 79, 3, [7, 44, 833], 0), (141, .iload 6, 2, [], 0), (143, .iaload, 1, [], 0), (144, .invokevirtual 161, 3, [92, 2, 0, 983], 0), (147, .aload_n 0, 1, [], 0), (148, .iload 7, 2, [], 0), (150, .bipush 6, 2, [], 6), (152, .iadd, 1, [], 0), (153, .aload_n 0, 1, [], 0), (154, .getfield 76, 3, [7, 43, 832], 0), (157, .iload 6, 2, [], 0), (159, .iaload, 1, [], 0), (160, .invokevirtual 161, 3, [92, 2, 0, 983], 0), (163, .iload 5, 2, [], 0)]
def rt_112_6 : List rI := [(165, .iload 6, 2, [], 0), (167, .invokestatic 192, 3, [105, 1, 1, 987], 0), (170, .ior, 1, [], 0), (171, .istore 5, 2, [], 0), (173, .iinc 4 1, 3, [], 1), (176, .iinc 6 1, 3, [], 1), (179, .goto (-101), 3, [46], 0), (182, .aload_n 0, 1, [], 0), (183, .getfield 82, 3, [7, 45, 834], 0), (186, .iconst 0, 1, [], 0), (187, .bipush 84, 2, [], 84), (189, .bastore, 1, [], 0), (190, .aload_n 0, 1, [], 0), (191, .getfield 82, 3, [7, 45, 834], 0), (194, .iconst 1, 1, [], 1), (195, .iload_n 1, 1, [], 0)]
def rt_112_7 : List rI := [(196, .i2b, 1, [], 0), (197, .bastore, 1, [], 0), (198, .aload_n 0, 1, [], 0), (199, .getfield 82, 3, [7, 45, 834], 0), (202, .iconst 2, 1, [], 2), (203, .iload 4, 2, [], 0), (205, .i2b, 1, [], 0), (206, .bastore, 1, [], 0), (207, .aload_n 0, 1, [], 0), (208, .getfield 82, 3, [7, 45, 834], 0), (211, .iconst 3, 1, [], 3), (212, .iconst 0, 1, [], 0), (213, .bastore, 1, [], 0), (214, .aload_n 0, 1, [], 0), (215, .iconst 4, 1, [], 4), (216, .aload_n 0, 1, [], 0)]
def rt_112_8 : List rI := [(217, .getfield 196, 3, [7, 33, 822], 0), (220, .invokevirtual 161, 3, [92, 2, 0, 983], 0), (223, .aload_n 0, 1, [], 0), (224, .bipush 8, 2, [], 8), (226, .iload 5, 2, [], 0), (228, .invokevirtual 161, 3, [92, 2, 0, 983], 0), (231, .aload_n 0, 1, [], 0), (232, .bipush 12, 2, [], 12), (234, .aload_n 0, 1, [], 0), (235, .getfield 196, 3, [7, 33, 822], 0), (238, .invokevirtual 161, 3, [92, 2, 0, 983], 0), (241, .aload_n 0, 1, [], 0), (242, .dup, 1, [], 0), (243, .getfield 196, 3, [7, 33, 822], 0), (246, .iconst 1, 1, [], 1), (247, .iadd, 1, [], 0)]
def rt_112_9 : List rI := [(248, .putfield 196, 3, [7, 33, 822], 0), (251, .aload_n 0, 1, [], 0), (252, .iconst 1, 1, [], 1), (253, .iload_n 2, 1, [], 0), (254, .sipush 1300, 3, [], 1300), (257, .imul, 1, [], 0), (258, .bipush 16, 2, [], 16), (260, .bipush 10, 2, [], 10), (262, .iload 4, 2, [], 0), (264, .imul, 1, [], 0), (265, .iadd, 1, [], 0), (266, .invokevirtual 154, 3, [94, 3, 0, 773], 0), (269, .iload_n 2, 1, [], 0), (270, .ireturn, 1, [], 0)]
def rt_112 : List (List rI) := [rt_112_0, rt_112_1, rt_112_2, rt_112_3, rt_112_4, rt_112_5, rt_112_6, rt_112_7, rt_112_8, rt_112_9]
def rt_113_0 : List rI := [(0, .iload_n 1, 1, [], 0), (1, .istore_n 3, 1, [], 0), (2, .iload_n 3, 1, [], 0), (3, .iload_n 1, 1, [], 0), (4, .iload_n 2, 1, [], 0), (5, .iadd, 1, [], 0), (6, .if_icmp .ge 21, 3, [17], 0), (9, .aload_n 0, 1, [], 0), (10, .getfield 60, 3, [7, 37, 826], 0), (13, .aload_n 0, 1, [], 0), (14, .getfield 57, 3, [7, 35, 824], 0), (17, .iload_n 3, 1, [], 0), (18, .iaload, 1, [], 0), (19, .iconst 1, 1, [], 1), (20, .bastore, 1, [], 0), (21, .iinc 3 1, 3, [], 1)]
def rt_113_1 : List rI := [(24, .goto (-22), 3, [2], 0), (27, .iload_n 1, 1, [], 0), (28, .istore_n 3, 1, [], 0), (29, .iload_n 3, 1, [], 0), (30, .iload_n 2, 1, [], 0), (31, .iadd, 1, [], 0), (32, .aload_n 0, 1, [], 0), (33, .getfield 179, 3, [7, 36, 825], 0), (36, .if_icmp .ge 23, 3, [37], 0), (39, .aload_n 0, 1, [], 0), (40, .getfield 57, 3, [7, 35, 824], 0), (43, .iload_n 3, 1, [], 0), (44, .aload_n 0, 1, [], 0), (45, .getfield 57, 3, [7, 35, 824], 0), (48, .iload_n 3, 1, [], 0), (49, .iload_n 2, 1, [], 0)]
def rt_113_2 : List rI := [(50, .iadd, 1, [], 0), (51, .iaload, 1, [], 0), (52, .iastore, 1, [], 0), (53, .iinc 3 1, 3, [], 1), (56, .goto (-27), 3, [19], 0), (59, .aload_n 0, 1, [], 0), (60, .dup, 1, [], 0), (61, .getfield 179, 3, [7, 36, 825], 0), (64, .iload_n 2, 1, [], 0), (65, .isub, 1, [], 0), (66, .putfield 179, 3, [7, 36, 825], 0), (69, .return_, 1, [], 0)]
def rt_113 : List (List rI) := [rt_113_0, rt_113_1, rt_113_2]
def rt_114_0 : List rI := [(0, .aload_n 0, 1, [], 0), (1, .getfield 179, 3, [7, 36, 825], 0), (4, .istore_n 3, 1, [], 0), (5, .iload_n 3, 1, [], 0), (6, .iload_n 1, 1, [], 0), (7, .if_icmp .le 23, 3, [18], 0), (10, .aload_n 0, 1, [], 0), (11, .getfield 57, 3, [7, 35, 824], 0), (14, .iload_n 3, 1, [], 0), (15, .aload_n 0, 1, [], 0), (16, .getfield 57, 3, [7, 35, 824], 0), (19, .iload_n 3, 1, [], 0), (20, .iconst 1, 1, [], 1), (21, .isub, 1, [], 0), (22, .iaload, 1, [], 0), (23, .iastore, 1, [], 0)]
def rt_114_1 : List rI := [(24, .iinc 3 (-1), 3, [], (-1)), (27, .goto (-22), 3, [3], 0), (30, .aload_n 0, 1, [], 0), (31, .getfield 57, 3, [7, 35, 824], 0), (34, .iload_n 1, 1, [], 0), (35, .iload_n 2, 1, [], 0), (36, .iastore, 1, [], 0), (37, .aload_n 0, 1, [], 0), (38, .dup, 1, [], 0), (39, .getfield 179, 3, [7, 36, 825], 0), (42, .iconst 1, 1, [], 1), (43, .iadd, 1, [], 0), (44, .putfield 179, 3, [7, 36, 825], 0), (47, .return_, 1, [], 0)]
def rt_114 : List (List rI) := [rt_114_0, rt_114_1]
def rt_115_0 : List rI := [(0, .iconst 0, 1, [], 0), (1, .istore_n 2, 1, [], 0), (2, .iconst 0, 1, [], 0), (3, .istore_n 3, 1, [], 0), (4, .iload_n 3, 1, [], 0), (5, .aload_n 0, 1, [], 0), (6, .getfield 179, 3, [7, 36, 825], 0), (9, .if_icmp .ge 26, 3, [21], 0), (12, .iload_n 2, 1, [], 0), (13, .aload_n 0, 1, [], 0), (14, .iload_n 3, 1, [], 0), (15, .invokevirtual 199, 3, [104, 1, 0, 998], 0), (18, .iload_n 1, 1, [], 0), (19, .if_icmp .ne 7, 3, [16], 0), (22, .iconst 1, 1, [], 1), (23, .goto 4, 3, [17], 0)]
def rt_115_1 : List rI := [(26, .iconst 0, 1, [], 0), (27, .iadd, 1, [], 0), (28, .istore_n 2, 1, [], 0), (29, .iinc 3 1, 3, [], 1), (32, .goto (-28), 3, [4], 0), (35, .iload_n 2, 1, [], 0), (36, .ireturn, 1, [], 0)]
def rt_115 : List (List rI) := [rt_115_0, rt_115_1]
def rt_116_0 : List rI := [(0, .aload_n 0, 1, [], 0), (1, .dup, 1, [], 0), (2, .getfield 202, 3, [7, 34, 823], 0), (5, .iconst 1, 1, [], 1), (6, .iadd, 1, [], 0), (7, .putfield 202, 3, [7, 34, 823], 0), (10, .bipush 64, 2, [], 64), (12, .aload_n 0, 1, [], 0), (13, .getfield 202, 3, [7, 34, 823], 0), (16, .iconst 2, 1, [], 2), (17, .irem, 1, [], 0), (18, .imul, 1, [], 0), (19, .istore_n 1, 1, [], 0), (20, .aload_n 0, 1, [], 0), (21, .bipush 64, 2, [], 64), (23, .invokevirtual 147, 3, [93, 1, 0, 769], 0)]
def rt_116_1 : List rI := [(26, .aload_n 0, 1, [], 0), (27, .iconst 2, 1, [], 2), (28, .iload_n 1, 1, [], 0), (29, .bipush 60, 2, [], 60), (31, .iadd, 1, [], 0), (32, .iconst 4, 1, [], 4), (33, .invokevirtual 154, 3, [94, 3, 0, 773], 0), (36, .aload_n 0, 1, [], 0), (37, .getfield 125, 3, [7, 15, 804], 0), (40, .ifCond .eq 4, 3, [27], 0), (43, .return_, 1, [], 0), (44, .aload_n 0, 1, [], 0), (45, .iconst 0, 1, [], 0), (46, .aload_n 0, 1, [], 0), (47, .getfield 202, 3, [7, 34, 823], 0), (50, .invokevirtual 161, 3, [92, 2, 0, 983], 0)]
def rt_116_2 : List rI := [(53, .aload_n 0, 1, [], 0), (54, .iconst 4, 1, [], 4), (55, .aload_n 0, 1, [], 0), (56, .getfield 205, 3, [7, 30, 819], 0), (59, .invokevirtual 161, 3, [92, 2, 0, 983], 0), (62, .aload_n 0, 1, [], 0), (63, .bipush 8, 2, [], 8), (65, .aload_n 0, 1, [], 0), (66, .getfield 144, 3, [7, 29, 818], 0), (69, .invokevirtual 161, 3, [92, 2, 0, 983], 0), (72, .aload_n 0, 1, [], 0), (73, .bipush 12, 2, [], 12), (75, .aload_n 0, 1, [], 0), (76, .getfield 208, 3, [7, 31, 820], 0), (79, .invokevirtual 161, 3, [92, 2, 0, 983], 0), (82, .aload_n 0, 1, [], 0)]
def rt_116_3 : List rI := [(83, .bipush 16, 2, [], 16), (85, .aload_n 0, 1, [], 0), (86, .getfield 196, 3, [7, 33, 822], 0), (89, .invokevirtual 161, 3, [92, 2, 0, 983], 0), (92, .aload_n 0, 1, [], 0), (93, .getfield 82, 3, [7, 45, 834], 0), (96, .bipush 20, 2, [], 20), (98, .aload_n 0, 1, [], 0), (99, .getfield 179, 3, [7, 36, 825], 0), (102, .i2b, 1, [], 0), (103, .bastore, 1, [], 0), (104, .iconst 0, 1, [], 0), (105, .istore_n 2, 1, [], 0), (106, .iload_n 2, 1, [], 0), (107, .aload_n 0, 1, [], 0), (108, .getfield 179, 3, [7, 36, 825], 0)]
def rt_116_4 : List rI := [(111, .if_icmp .ge 25, 3, [78], 0), (114, .aload_n 0, 1, [], 0), (115, .getfield 82, 3, [7, 45, 834], 0), (118, .bipush 21, 2, [], 21), (120, .iload_n 2, 1, [], 0), (121, .iadd, 1, [], 0), (122, .aload_n 0, 1, [], 0), (123, .getfield 57, 3, [7, 35, 824], 0), (126, .iload_n 2, 1, [], 0), (127, .iaload, 1, [], 0), (128, .i2b, 1, [], 0), (129, .bastore, 1, [], 0), (130, .iinc 2 1, 3, [], 1), (133, .goto (-27), 3, [61], 0), (136, .aload_n 0, 1, [], 0), (137, .iconst 2, 1, [], 2)]
def rt_116_5 : List rI := [(138, .iload_n 1, 1, [], 0), (139, .bipush 60, 2, [], 60), (141, .invokevirtual 154, 3, [94, 3, 0, 773], 0), (144, .aload_n 0, 1, [], 0), (145, .getfield 125, 3, [7, 15, 804], 0), (148, .ifCond .eq 4, 3, [87], 0), (151, .return_, 1, [], 0), (152, .aload_n 0, 1, [], 0), (153, .iconst 0, 1, [], 0), (154, .aload_n 0, 1, [], 0), (155, .getfield 202, 3, [7, 34, 823], 0), (158, .invokevirtual 161, 3, [92, 2, 0, 983], 0), (161, .aload_n 0, 1, [], 0), (162, .iconst 2, 1, [], 2), (163, .iload_n 1, 1, [], 0), (164, .bipush 60, 2, [], 60)]
def rt_116_6 : List rI := [(166, .iadd, 1, [], 0), (167, .iconst 4, 1, [], 4), (168, .invokevirtual 154, 3, [94, 3, 0, 773], 0), (171, .return_, 1, [], 0)]
def rt_116 : List (List rI) := [rt_116_0, rt_116_1, rt_116_2, rt_116_3, rt_116_4, rt_116_5, rt_116_6]
def rt_117_0 : List rI := [(0, .iconst 0, 1, [], 0), (1, .istore_n 1, 1, [], 0), (2, .iload_n 1, 1, [], 0), (3, .bipush 12, 2, [], 12), (5, .if_icmp .ge 16, 3, [12], 0), (8, .aload_n 0, 1, [], 0), (9, .getfield 60, 3, [7, 37, 826], 0), (12, .iload_n 1, 1, [], 0), (13, .iconst 0, 1, [], 0), (14, .bastore, 1, [], 0), (15, .iinc 1 1, 3, [], 1), (18, .goto (-16), 3, [2], 0), (21, .iconst 0, 1, [], 0), (22, .istore_n 1, 1, [], 0), (23, .iload_n 1, 1, [], 0), (24, .bipush 120, 2, [], 120)]
def rt_117_1 : List rI := [(26, .if_icmp .ge 45, 3, [43], 0), (29, .aload_n 0, 1, [], 0), (30, .getfield 73, 3, [7, 42, 831], 0), (33, .iload_n 1, 1, [], 0), (34, .aload_n 0, 1, [], 0), (35, .getfield 64, 3, [7, 38, 827], 0), (38, .iload_n 1, 1, [], 0), (39, .iaload, 1, [], 0), (40, .iastore, 1, [], 0), (41, .aload_n 0, 1, [], 0), (42, .getfield 76, 3, [7, 43, 832], 0), (45, .iload_n 1, 1, [], 0), (46, .aload_n 0, 1, [], 0), (47, .getfield 67, 3, [7, 39, 828], 0), (50, .iload_n 1, 1, [], 0), (51, .iaload, 1, [], 0)]
def rt_117_2 : List rI := [(52, .iastore, 1, [], 0), (53, .aload_n 0, 1, [], 0), (54, .getfield 79, 3, [7, 44, 833], 0), (57, .iload_n 1, 1, [], 0), (58, .aload_n 0, 1, [], 0), (59, .getfield 70, 3, [7, 40, 829], 0), (62, .iload_n 1, 1, [], 0), (63, .iaload, 1, [], 0), (64, .iastore, 1, [], 0), (65, .iinc 1 1, 3, [], 1), (68, .goto (-45), 3, [14], 0), (71, .aload_n 0, 1, [], 0), (72, .iconst 0, 1, [], 0), (73, .invokevirtual 211, 3, [112, 1, 0, 979], 0), (76, .istore_n 1, 1, [], 0), (77, .aload_n 0, 1, [], 0)]
def rt_117_3 : List rI := [(78, .getfield 125, 3, [7, 15, 804], 0), (81, .ifCond .eq 4, 3, [51], 0), (84, .return_, 1, [], 0), (85, .aload_n 0, 1, [], 0), (86, .iconst 0, 1, [], 0), (87, .iload_n 1, 1, [], 0), (88, .invokevirtual 214, 3, [114, 2, 0, 990], 0), (91, .aload_n 0, 1, [], 0), (92, .iconst 0, 1, [], 0), (93, .invokevirtual 217, 3, [115, 1, 0, 994], 0), (96, .iconst 4, 1, [], 4), (97, .if_icmp .ge 4, 3, [61], 0), (100, .return_, 1, [], 0), (101, .iconst 4, 1, [], 4), (102, .aload_n 0, 1, [], 0), (103, .iconst 1, 1, [], 1)]
def rt_117_4 : List rI := [(104, .invokevirtual 217, 3, [115, 1, 0, 994], 0), (107, .iadd, 1, [], 0), (108, .istore_n 2, 1, [], 0), (109, .aload_n 0, 1, [], 0), (110, .invokevirtual 220, 3, [109, 0, 0, 1006], 0), (113, .iconst 0, 1, [], 0), (114, .istore_n 3, 1, [], 0), (115, .iload_n 3, 1, [], 0), (116, .iload_n 2, 1, [], 0), (117, .if_icmp .ge 14, 3, [79], 0), (120, .aload_n 0, 1, [], 0), (121, .iload_n 3, 1, [], 0), (122, .invokevirtual 223, 3, [110, 1, 0, 1010], 0), (125, .iinc 3 1, 3, [], 1), (128, .goto (-13), 3, [71], 0), (131, .aload_n 0, 1, [], 0)]
def rt_117_5 : List rI := [(132, .iconst 1, 1, [], 1), (133, .invokevirtual 211, 3, [112, 1, 0, 979], 0), (136, .istore_n 1, 1, [], 0), (137, .aload_n 0, 1, [], 0), (138, .getfield 125, 3, [7, 15, 804], 0), (141, .ifCond .eq 4, 3, [87], 0), (144, .return_, 1, [], 0), (145, .aload_n 0, 1, [], 0), (146, .invokevirtual 226, 3, [111, 0, 0, 1018], 0), (149, .bipush 40, 2, [], 40), (151, .if_icmp .le 7, 3, [93], 0), (154, .iconst 1, 1, [], 1), (155, .goto 4, 3, [94], 0), (158, .iconst 0, 1, [], 0), (159, .istore_n 3, 1, [], 0), (160, .aload_n 0, 1, [], 0)]
def rt_117_6 : List rI := [(161, .iconst 0, 1, [], 0), (162, .iload_n 2, 1, [], 0), (163, .invokevirtual 229, 3, [113, 2, 0, 1022], 0), (166, .aload_n 0, 1, [], 0), (167, .iconst 0, 1, [], 0), (168, .iload_n 1, 1, [], 0), (169, .invokevirtual 214, 3, [114, 2, 0, 990], 0), (172, .iload_n 3, 1, [], 0), (173, .ifCond .ne 4, 3, [106], 0), (176, .return_, 1, [], 0), (177, .aload_n 0, 1, [], 0), (178, .invokevirtual 220, 3, [109, 0, 0, 1006], 0), (181, .iconst 1, 1, [], 1), (182, .aload_n 0, 1, [], 0), (183, .iconst 2, 1, [], 2), (184, .invokevirtual 217, 3, [115, 1, 0, 994], 0)]
def rt_117_7 : List rI := [(187, .iadd, 1, [], 0), (188, .istore_n 2, 1, [], 0), (189, .iconst 0, 1, [], 0), (190, .istore 4, 2, [], 0), (192, .iload 4, 2, [], 0), (194, .iload_n 2, 1, [], 0), (195, .if_icmp .ge 15, 3, [124], 0), (198, .aload_n 0, 1, [], 0), (199, .iload 4, 2, [], 0), (201, .invokevirtual 223, 3, [110, 1, 0, 1010], 0), (204, .iinc 4 1, 3, [], 1), (207, .goto (-15), 3, [116], 0), (210, .iconst 0, 1, [], 0), (211, .istore 4, 2, [], 0), (213, .iload 4, 2, [], 0), (215, .bipush 120, 2, [], 120)]
def rt_117_8 : List rI := [(217, .if_icmp .ge 38, 3, [147], 0), (220, .aload_n 0, 1, [], 0), (221, .getfield 73, 3, [7, 42, 831], 0), (224, .iload 4, 2, [], 0), (226, .aload_n 0, 1, [], 0), (227, .getfield 73, 3, [7, 42, 831], 0), (230, .iload 4, 2, [], 0), (232, .iaload, 1, [], 0), (233, .iconst 2, 1, [], 2), (234, .if_icmp .ne 7, 3, [140], 0), (237, .iconst 0, 1, [], 0), (238, .goto 10, 3, [144], 0), (241, .aload_n 0, 1, [], 0), (242, .getfield 73, 3, [7, 42, 831], 0), (245, .iload 4, 2, [], 0), (247, .iaload, 1, [], 0)]
def rt_117_9 : List rI := [(248, .iastore, 1, [], 0), (249, .iinc 4 1, 3, [], 1), (252, .goto (-39), 3, [126], 0), (255, .aload_n 0, 1, [], 0), (256, .invokevirtual 226, 3, [111, 0, 0, 1018], 0), (259, .ifCond .le 7, 3, [152], 0), (262, .iconst 1, 1, [], 1), (263, .goto 4, 3, [153], 0), (266, .iconst 0, 1, [], 0), (267, .istore 4, 2, [], 0), (269, .iload 4, 2, [], 0), (271, .ifCond .eq 9, 3, [160], 0), (274, .aload_n 0, 1, [], 0), (275, .iconst 2, 1, [], 2), (276, .invokevirtual 211, 3, [112, 1, 0, 979], 0), (279, .istore_n 1, 1, [], 0)]
def rt_117_10 : List rI := [(280, .aload_n 0, 1, [], 0), (281, .getfield 125, 3, [7, 15, 804], 0), (284, .ifCond .eq 4, 3, [164], 0), (287, .return_, 1, [], 0), (288, .aload_n 0, 1, [], 0), (289, .iconst 0, 1, [], 0), (290, .iload_n 2, 1, [], 0), (291, .invokevirtual 229, 3, [113, 2, 0, 1022], 0), (294, .iload 4, 2, [], 0), (296, .ifCond .eq 9, 3, [174], 0), (299, .aload_n 0, 1, [], 0), (300, .iconst 0, 1, [], 0), (301, .iload_n 1, 1, [], 0), (302, .invokevirtual 214, 3, [114, 2, 0, 990], 0), (305, .return_, 1, [], 0)]
def rt_117 : List (List rI) := [rt_117_0, rt_117_1, rt_117_2, rt_117_3, rt_117_4, rt_117_5, rt_117_6, rt_117_7, rt_117_8, rt_117_9, rt_117_10]
def rt_118_0 : List rI := [(0, .aload_n 0, 1, [], 0), (1, .invokevirtual 232, 3, [96, 0, 0, 785], 0), (4, .istore_n 1, 1, [], 0), (5, .aload_n 0, 1, [], 0), (6, .getfield 138, 3, [7, 41, 830], 0), (9, .ifCond .le 7, 3, [8], 0), (12, .aload_n 0, 1, [], 0), (13, .invokevirtual 235, 3, [117, 0, 0, 975], 0), (16, .aload_n 0, 1, [], 0), (17, .getfield 125, 3, [7, 15, 804], 0), (20, .ifCond .eq 4, 3, [12], 0), (23, .return_, 1, [], 0), (24, .aload_n 0, 1, [], 0), (25, .iconst 0, 1, [], 0), (26, .putfield 138, 3, [7, 41, 830], 0), (29, .iconst 0, 1, [], 0)]
def rt_118_1 : List rI := [(30, .istore_n 2, 1, [], 0), (31, .iload_n 2, 1, [], 0), (32, .bipush 120, 2, [], 120), (34, .if_icmp .ge 16, 3, [27], 0), (37, .aload_n 0, 1, [], 0), (38, .getfield 64, 3, [7, 38, 827], 0), (41, .iload_n 2, 1, [], 0), (42, .iconst 0, 1, [], 0), (43, .iastore, 1, [], 0), (44, .iinc 2 1, 3, [], 1), (47, .goto (-16), 3, [17], 0), (50, .aload_n 0, 1, [], 0), (51, .invokevirtual 232, 3, [96, 0, 0, 785], 0), (54, .istore_n 1, 1, [], 0), (55, .aload_n 0, 1, [], 0), (56, .aload_n 0, 1, [], 0)]
def rt_118_2 : List rI := [(57, .getfield 151, 3, [7, 28, 817], 0), (60, .putfield 205, 3, [7, 30, 819], 0), (63, .aload_n 0, 1, [], 0), (64, .aload_n 0, 1, [], 0), (65, .getfield 158, 3, [7, 32, 821], 0), (68, .putfield 208, 3, [7, 31, 820], 0), (71, .aload_n 0, 1, [], 0), (72, .invokevirtual 238, 3, [116, 0, 0, 1026], 0), (75, .aload_n 0, 1, [], 0), (76, .getfield 125, 3, [7, 15, 804], 0), (79, .ifCond .ne 8, 3, [46], 0), (82, .aload_n 0, 1, [], 0), (83, .invokevirtual 232, 3, [96, 0, 0, 785], 0), (86, .istore_n 1, 1, [], 0), (87, .return_, 1, [], 0)]
def rt_118 : List (List rI) := [rt_118_0, rt_118_1, rt_118_2]
def rt_119_0 : List rI := [(0, .aload_n 0, 1, [], 0), (1, .getfield 151, 3, [7, 28, 817], 0), (4, .i2l, 1, [], 0), (5, .iload_n 1, 1, [], 0), (6, .i2l, 1, [], 0), (7, .ladd, 1, [], 0), (8, .ldc2_w 241, 3, [12, 1034], 0), (11, .ladd, 1, [], 0), (12, .aload_n 0, 1, [], 0), (13, .getfield 144, 3, [7, 29, 818], 0), (16, .i2l, 1, [], 0), (17, .lsub, 1, [], 0), (18, .aload_n 0, 1, [], 0), (19, .getfield 88, 3, [7, 0, 789], 0), (22, .iload_n 2, 1, [], 0), (23, .isub, 1, [], 0)]
def rt_119_1 : List rI := [(24, .i2l, 1, [], 0), (25, .lcmp, 1, [], 0), (26, .ifCond .gt 7, 3, [21], 0), (29, .iconst 1, 1, [], 1), (30, .goto 4, 3, [22], 0), (33, .iconst 0, 1, [], 0), (34, .ireturn, 1, [], 0)]
def rt_119 : List (List rI) := [rt_119_0, rt_119_1]
def rt_120_0 : List rI := [(0, .aload_n 0, 1, [], 0), (1, .getfield 205, 3, [7, 30, 819], 0), (4, .aload_n 0, 1, [], 0), (5, .getfield 151, 3, [7, 28, 817], 0), (8, .if_icmp .eq 7, 3, [7], 0), (11, .aload_n 0, 1, [], 0), (12, .invokevirtual 243, 3, [118, 0, 0, 971], 0), (15, .aload_n 0, 1, [], 0), (16, .getfield 125, 3, [7, 15, 804], 0), (19, .ifCond .eq 5, 3, [12], 0), (22, .iconst 0, 1, [], 0), (23, .ireturn, 1, [], 0), (24, .aload_n 0, 1, [], 0), (25, .getfield 151, 3, [7, 28, 817], 0), (28, .istore_n 2, 1, [], 0), (29, .aload_n 0, 1, [], 0)]
def rt_120_1 : List rI := [(30, .getfield 144, 3, [7, 29, 818], 0), (33, .istore_n 3, 1, [], 0), (34, .iconst 0, 1, [], 0), (35, .istore 4, 2, [], 0), (37, .iconst 1, 1, [], 1), (38, .istore 5, 2, [], 0), (40, .iload 5, 2, [], 0), (42, .ifCond .eq 204, 3, [131], 0), (45, .iload 4, 2, [], 0), (47, .iload_n 1, 1, [], 0), (48, .if_icmp .ge 198, 3, [131], 0), (51, .iload_n 3, 1, [], 0), (52, .iload_n 2, 1, [], 0), (53, .if_icmp .ge 193, 3, [131], 0), (56, .aload_n 0, 1, [], 0), (57, .iconst 0, 1, [], 0)]
def rt_120_2 : List rI := [(58, .iload_n 3, 1, [], 0), (59, .iconst 1, 1, [], 1), (60, .iadd, 1, [], 0), (61, .invokevirtual 100, 3, [90, 2, 0, 749], 0), (64, .istore 6, 2, [], 0), (66, .aload_n 0, 1, [], 0), (67, .iload_n 3, 1, [], 0), (68, .invokevirtual 246, 3, [99, 1, 0, 761], 0), (71, .istore 7, 2, [], 0), (73, .aload_n 0, 1, [], 0), (74, .iload 6, 2, [], 0), (76, .invokevirtual 188, 3, [107, 1, 0, 1043], 0), (79, .ifCond .eq 23, 3, [55], 0), (82, .aload_n 0, 1, [], 0), (83, .getfield 167, 3, [7, 46, 835], 0), (86, .iconst 1, 1, [], 1)]
def rt_120_3 : List rI := [(87, .if_icmp .ne 15, 3, [55], 0), (90, .aload_n 0, 1, [], 0), (91, .getfield 176, 3, [7, 48, 837], 0), (94, .iload_n 3, 1, [], 0), (95, .if_icmp .ne 7, 3, [55], 0), (98, .iconst 1, 1, [], 1), (99, .goto 4, 3, [56], 0), (102, .iconst 0, 1, [], 0), (103, .istore 8, 2, [], 0), (105, .iload 8, 2, [], 0), (107, .ifCond .eq 123, 3, [123], 0), (110, .aload_n 0, 1, [], 0), (111, .iload 7, 2, [], 0), (113, .iconst 0, 1, [], 0), (114, .invokevirtual 249, 3, [119, 2, 0, 1030], 0), (117, .ifCond .eq 26, 3, [75], 0)]
def rt_120_4 : List rI := [(120, .aload_n 0, 1, [], 0), (121, .getfield 64, 3, [7, 38, 827], 0), (124, .iload 6, 2, [], 0), (126, .iaload, 1, [], 0), (127, .ifCond .gt 12, 3, [73], 0), (130, .aload_n 0, 1, [], 0), (131, .getfield 138, 3, [7, 41, 830], 0), (134, .bipush 24, 2, [], 24), (136, .if_icmp .ge 7, 3, [75], 0), (139, .iconst 1, 1, [], 1), (140, .goto 4, 3, [76], 0), (143, .iconst 0, 1, [], 0), (144, .istore 5, 2, [], 0), (146, .iload 5, 2, [], 0), (148, .ifCond .eq 82, 3, [123], 0), (151, .iconst 0, 1, [], 0)]
def rt_120_5 : List rI := [(152, .istore 9, 2, [], 0), (154, .iload 9, 2, [], 0), (156, .iload 7, 2, [], 0), (158, .bipush 12, 2, [], 12), (160, .isub, 1, [], 0), (161, .if_icmp .ge 29, 3, [101], 0), (164, .aload_n 0, 1, [], 0), (165, .getfield 85, 3, [7, 50, 839], 0), (168, .iload 9, 2, [], 0), (170, .aload_n 0, 1, [], 0), (171, .iconst 0, 1, [], 0), (172, .iload_n 3, 1, [], 0), (173, .bipush 12, 2, [], 12), (175, .iadd, 1, [], 0), (176, .iload 9, 2, [], 0), (178, .iadd, 1, [], 0)]
def rt_120_6 : List rI := [(179, .invokevirtual 100, 3, [90, 2, 0, 749], 0), (182, .i2b, 1, [], 0), (183, .bastore, 1, [], 0), (184, .iinc 9 1, 3, [], 1), (187, .goto (-33), 3, [81], 0), (190, .aload_n 0, 1, [], 0), (191, .getfield 151, 3, [7, 28, 817], 0), (194, .istore 9, 2, [], 0), (196, .aload_n 0, 1, [], 0), (197, .getfield 158, 3, [7, 32, 821], 0), (200, .istore 10, 2, [], 0), (202, .aload_n 0, 1, [], 0), (203, .iconst 1, 1, [], 1), (204, .iload 6, 2, [], 0), (206, .iload 7, 2, [], 0), (208, .bipush 12, 2, [], 12)]
def rt_120_7 : List rI := [(210, .isub, 1, [], 0), (211, .invokevirtual 253, 3, [100, 3, 0, 1051], 0), (214, .ifCond .ne 5, 3, [117], 0), (217, .iconst 0, 1, [], 0), (218, .ireturn, 1, [], 0), (219, .aload_n 0, 1, [], 0), (220, .iload 6, 2, [], 0), (222, .iconst 1, 1, [], 1), (223, .iload 10, 2, [], 0), (225, .iload 9, 2, [], 0), (227, .invokevirtual 257, 3, [101, 4, 0, 765], 0), (230, .iload 5, 2, [], 0), (232, .ifCond .eq 11, 3, [130], 0), (235, .iinc 4 1, 3, [], 1), (238, .iload_n 3, 1, [], 0), (239, .iload 7, 2, [], 0)]
def rt_120_8 : List rI := [(241, .iadd, 1, [], 0), (242, .istore_n 3, 1, [], 0), (243, .goto (-203), 3, [22], 0), (246, .aload_n 0, 1, [], 0), (247, .invokevirtual 232, 3, [96, 0, 0, 785], 0), (250, .istore 6, 2, [], 0), (252, .aload_n 0, 1, [], 0), (253, .iload_n 3, 1, [], 0), (254, .putfield 144, 3, [7, 29, 818], 0), (257, .iload 4, 2, [], 0), (259, .ifCond .le 20, 3, [147], 0), (262, .aload_n 0, 1, [], 0), (263, .invokevirtual 238, 3, [116, 0, 0, 1026], 0), (266, .aload_n 0, 1, [], 0), (267, .getfield 125, 3, [7, 15, 804], 0), (270, .ifCond .ne 9, 3, [147], 0)]
def rt_120_9 : List rI := [(273, .aload_n 0, 1, [], 0), (274, .invokevirtual 232, 3, [96, 0, 0, 785], 0), (277, .istore 6, 2, [], 0), (279, .iload 4, 2, [], 0), (281, .ireturn, 1, [], 0)]
def rt_120 : List (List rI) := [rt_120_0, rt_120_1, rt_120_2, rt_120_3, rt_120_4, rt_120_5, rt_120_6, rt_120_7, rt_120_8, rt_120_9]
def rt_121_0 : List rI := [(0, .aload_n 0, 1, [], 0), (1, .getfield 151, 3, [7, 28, 817], 0), (4, .istore_n 1, 1, [], 0), (5, .iconst 1, 1, [], 1), (6, .istore_n 2, 1, [], 0), (7, .aload_n 0, 1, [], 0), (8, .getfield 125, 3, [7, 15, 804], 0), (11, .ifCond .ne 26, 3, [19], 0), (14, .aload_n 0, 1, [], 0), (15, .getfield 144, 3, [7, 29, 818], 0), (18, .iload_n 1, 1, [], 0), (19, .if_icmp .ge 18, 3, [19], 0), (22, .iload_n 2, 1, [], 0), (23, .ifCond .le 14, 3, [19], 0), (26, .aload_n 0, 1, [], 0), (27, .sipush 1000, 3, [], 1000)]
def rt_121_1 : List rI := [(30, .invokevirtual 261, 3, [120, 1, 0, 1039], 0), (33, .istore_n 2, 1, [], 0), (34, .goto (-27), 3, [5], 0), (37, .return_, 1, [], 0)]
def rt_121 : List (List rI) := [rt_121_0, rt_121_1]
def rt_122_0 : List rI := [(0, .aload_n 0, 1, [], 0), (1, .getfield 138, 3, [7, 41, 830], 0), (4, .istore_n 1, 1, [], 0), (5, .iconst 0, 1, [], 0), (6, .istore_n 2, 1, [], 0), (7, .iload_n 2, 1, [], 0), (8, .aload_n 0, 1, [], 0), (9, .getfield 135, 3, [7, 23, 812], 0), (12, .if_icmp .ge 82, 3, [53], 0), (15, .aload_n 0, 1, [], 0), (16, .getfield 64, 3, [7, 38, 827], 0), (19, .aload_n 0, 1, [], 0), (20, .getfield 48, 3, [7, 25, 814], 0), (23, .iload_n 2, 1, [], 0), (24, .iaload, 1, [], 0), (25, .iaload, 1, [], 0)]
def rt_122_1 : List rI := [(26, .ifCond .le 7, 3, [19], 0), (29, .iconst 1, 1, [], 1), (30, .goto 4, 3, [20], 0), (33, .iconst 0, 1, [], 0), (34, .istore_n 3, 1, [], 0), (35, .iconst 0, 1, [], 0), (36, .istore 4, 2, [], 0), (38, .iload 4, 2, [], 0), (40, .iload_n 2, 1, [], 0), (41, .if_icmp .ge 35, 3, [43], 0), (44, .iload_n 3, 1, [], 0), (45, .ifCond .ne 19, 3, [37], 0), (48, .aload_n 0, 1, [], 0), (49, .getfield 48, 3, [7, 25, 814], 0), (52, .iload 4, 2, [], 0), (54, .iaload, 1, [], 0)]
def rt_122_2 : List rI := [(55, .aload_n 0, 1, [], 0), (56, .getfield 48, 3, [7, 25, 814], 0), (59, .iload_n 2, 1, [], 0), (60, .iaload, 1, [], 0), (61, .if_icmp .ne 7, 3, [39], 0), (64, .iconst 1, 1, [], 1), (65, .goto 4, 3, [40], 0), (68, .iconst 0, 1, [], 0), (69, .istore_n 3, 1, [], 0), (70, .iinc 4 1, 3, [], 1), (73, .goto (-35), 3, [23], 0), (76, .iload_n 1, 1, [], 0), (77, .iload_n 3, 1, [], 0), (78, .ifCond .eq 7, 3, [48], 0), (81, .iconst 0, 1, [], 0), (82, .goto 4, 3, [49], 0)]
def rt_122_3 : List rI := [(85, .iconst 1, 1, [], 1), (86, .iadd, 1, [], 0), (87, .istore_n 1, 1, [], 0), (88, .iinc 2 1, 3, [], 1), (91, .goto (-84), 3, [5], 0), (94, .iload_n 1, 1, [], 0), (95, .ireturn, 1, [], 0)]
def rt_122 : List (List rI) := [rt_122_0, rt_122_1, rt_122_2, rt_122_3]
def rt_123_0 : List rI := [(0, .aload_n 0, 1, [], 0), (1, .invokevirtual 264, 3, [122, 0, 0, 967], 0), (4, .bipush 24, 2, [], 24), (6, .if_icmp .le 7, 3, [6], 0), (9, .aload_n 0, 1, [], 0), (10, .invokevirtual 243, 3, [118, 0, 0, 971], 0), (13, .iconst 0, 1, [], 0), (14, .istore_n 1, 1, [], 0), (15, .iconst 0, 1, [], 0), (16, .istore_n 2, 1, [], 0), (17, .iload_n 2, 1, [], 0), (18, .aload_n 0, 1, [], 0), (19, .getfield 135, 3, [7, 23, 812], 0), (22, .if_icmp .ge 21, 3, [25], 0), (25, .iload_n 1, 1, [], 0), (26, .bipush 12, 2, [], 12)]
def rt_123_1 : List rI := [(28, .aload_n 0, 1, [], 0), (29, .getfield 51, 3, [7, 26, 815], 0), (32, .iload_n 2, 1, [], 0), (33, .iaload, 1, [], 0), (34, .iadd, 1, [], 0), (35, .iadd, 1, [], 0), (36, .istore_n 1, 1, [], 0), (37, .iinc 2 1, 3, [], 1), (40, .goto (-23), 3, [10], 0), (43, .aload_n 0, 1, [], 0), (44, .getfield 125, 3, [7, 15, 804], 0), (47, .ifCond .ne 69, 3, [60], 0), (50, .aload_n 0, 1, [], 0), (51, .iload_n 1, 1, [], 0), (52, .sipush 176, 3, [], 176), (55, .invokevirtual 249, 3, [119, 2, 0, 1030], 0)]
def rt_123_2 : List rI := [(58, .ifCond .ne 58, 3, [60], 0), (61, .aload_n 0, 1, [], 0), (62, .invokevirtual 267, 3, [121, 0, 0, 1035], 0), (65, .aload_n 0, 1, [], 0), (66, .getfield 125, 3, [7, 15, 804], 0), (69, .ifCond .ne 27, 3, [51], 0), (72, .aload_n 0, 1, [], 0), (73, .iload_n 1, 1, [], 0), (74, .sipush 176, 3, [], 176), (77, .invokevirtual 249, 3, [119, 2, 0, 1030], 0), (80, .ifCond .ne 16, 3, [51], 0), (83, .aload_n 0, 1, [], 0), (84, .iconst 0, 1, [], 0), (85, .putfield 135, 3, [7, 23, 812], 0), (88, .aload_n 0, 1, [], 0), (89, .iconst 0, 1, [], 0)]
def rt_123_3 : List rI := [(90, .putfield 132, 3, [7, 22, 811], 0), (93, .bipush (-3), 2, [], (-3)), (95, .ireturn, 1, [], 0), (96, .aload_n 0, 1, [], 0), (97, .getfield 125, 3, [7, 15, 804], 0), (100, .ifCond .ne 16, 3, [60], 0), (103, .aload_n 0, 1, [], 0), (104, .invokevirtual 264, 3, [122, 0, 0, 967], 0), (107, .bipush 24, 2, [], 24), (109, .if_icmp .le 7, 3, [60], 0), (112, .aload_n 0, 1, [], 0), (113, .invokevirtual 243, 3, [118, 0, 0, 971], 0), (116, .aload_n 0, 1, [], 0), (117, .getfield 125, 3, [7, 15, 804], 0), (120, .ifCond .eq 6, 3, [65], 0), (123, .bipush (-2), 2, [], (-2))]
def rt_123_4 : List rI := [(125, .ireturn, 1, [], 0), (126, .aload_n 0, 1, [], 0), (127, .getfield 135, 3, [7, 23, 812], 0), (130, .istore_n 2, 1, [], 0), (131, .aload_n 0, 1, [], 0), (132, .getfield 158, 3, [7, 32, 821], 0), (135, .istore_n 3, 1, [], 0), (136, .aload_n 0, 1, [], 0), (137, .getfield 151, 3, [7, 28, 817], 0), (140, .istore 4, 2, [], 0), (142, .iconst 0, 1, [], 0), (143, .istore 5, 2, [], 0), (145, .iload 5, 2, [], 0), (147, .iload_n 2, 1, [], 0), (148, .if_icmp .ge 97, 3, [129], 0), (151, .iconst 0, 1, [], 0)]
def rt_123_5 : List rI := [(152, .istore 6, 2, [], 0), (154, .iload 6, 2, [], 0), (156, .aload_n 0, 1, [], 0), (157, .getfield 51, 3, [7, 26, 815], 0), (160, .iload 5, 2, [], 0), (162, .iaload, 1, [], 0), (163, .if_icmp .ge 29, 3, [101], 0), (166, .aload_n 0, 1, [], 0), (167, .getfield 85, 3, [7, 50, 839], 0), (170, .iload 6, 2, [], 0), (172, .aload_n 0, 1, [], 0), (173, .getfield 54, 3, [7, 27, 816], 0), (176, .bipush 64, 2, [], 64), (178, .iload 5, 2, [], 0), (180, .imul, 1, [], 0), (181, .iload 6, 2, [], 0)]
def rt_123_6 : List rI := [(183, .iadd, 1, [], 0), (184, .baload, 1, [], 0), (185, .bastore, 1, [], 0), (186, .iinc 6 1, 3, [], 1), (189, .goto (-35), 3, [81], 0), (192, .aload_n 0, 1, [], 0), (193, .aload_n 0, 1, [], 0), (194, .getfield 45, 3, [7, 24, 813], 0), (197, .iload 5, 2, [], 0), (199, .iaload, 1, [], 0), (200, .iload 5, 2, [], 0), (202, .iload_n 2, 1, [], 0), (203, .iconst 1, 1, [], 1), (204, .isub, 1, [], 0), (205, .if_icmp .ge 9, 3, [113], 0), (208, .sipush 128, 3, [], 128)]
def rt_123_7 : List rI := [(211, .goto 4, 3, [114], 0), (214, .iconst 0, 1, [], 0), (215, .iadd, 1, [], 0), (216, .aload_n 0, 1, [], 0), (217, .getfield 48, 3, [7, 25, 814], 0), (220, .iload 5, 2, [], 0), (222, .iaload, 1, [], 0), (223, .aload_n 0, 1, [], 0), (224, .getfield 51, 3, [7, 26, 815], 0), (227, .iload 5, 2, [], 0), (229, .iaload, 1, [], 0), (230, .invokevirtual 253, 3, [100, 3, 0, 1051], 0), (233, .ifCond .ne 6, 3, [127], 0), (236, .bipush (-2), 2, [], (-2)), (238, .ireturn, 1, [], 0), (239, .iinc 5 1, 3, [], 1)]
def rt_123_8 : List rI := [(242, .goto (-97), 3, [76], 0), (245, .iconst 0, 1, [], 0), (246, .istore 5, 2, [], 0), (248, .iload 5, 2, [], 0), (250, .iload_n 2, 1, [], 0), (251, .if_icmp .ge 48, 3, [159], 0), (254, .aload_n 0, 1, [], 0), (255, .aload_n 0, 1, [], 0), (256, .getfield 48, 3, [7, 25, 814], 0), (259, .iload 5, 2, [], 0), (261, .iaload, 1, [], 0), (262, .aload_n 0, 1, [], 0), (263, .getfield 45, 3, [7, 24, 813], 0), (266, .iload 5, 2, [], 0), (268, .iaload, 1, [], 0), (269, .iload_n 3, 1, [], 0)]
def rt_123_9 : List rI := [(270, .iload 5, 2, [], 0), (272, .iadd, 1, [], 0), (273, .iload 4, 2, [], 0), (275, .invokevirtual 257, 3, [101, 4, 0, 765], 0), (278, .iload 4, 2, [], 0), (280, .bipush 12, 2, [], 12), (282, .aload_n 0, 1, [], 0), (283, .getfield 51, 3, [7, 26, 815], 0), (286, .iload 5, 2, [], 0), (288, .iaload, 1, [], 0), (289, .iadd, 1, [], 0), (290, .iadd, 1, [], 0), (291, .istore 4, 2, [], 0), (293, .iinc 5 1, 3, [], 1), (296, .goto (-48), 3, [131], 0), (299, .aload_n 0, 1, [], 0)]
def rt_123_10 : List rI := [(300, .iconst 0, 1, [], 0), (301, .putfield 135, 3, [7, 23, 812], 0), (304, .aload_n 0, 1, [], 0), (305, .iconst 0, 1, [], 0), (306, .putfield 132, 3, [7, 22, 811], 0), (309, .iload_n 2, 1, [], 0), (310, .ireturn, 1, [], 0)]
def rt_123 : List (List rI) := [rt_123_0, rt_123_1, rt_123_2, rt_123_3, rt_123_4, rt_123_5, rt_123_6, rt_123_7, rt_123_8, rt_123_9, rt_123_10]
def rt_124_0 : List rI := [(0, .aload_n 0, 1, [], 0), (1, .getfield 45, 3, [7, 24, 813], 0), (4, .aload_n 0, 1, [], 0), (5, .getfield 135, 3, [7, 23, 812], 0), (8, .iload_n 1, 1, [], 0), (9, .iastore, 1, [], 0), (10, .aload_n 0, 1, [], 0), (11, .getfield 48, 3, [7, 25, 814], 0), (14, .aload_n 0, 1, [], 0), (15, .getfield 135, 3, [7, 23, 812], 0), (18, .iload_n 2, 1, [], 0), (19, .iastore, 1, [], 0), (20, .aload_n 0, 1, [], 0), (21, .getfield 51, 3, [7, 26, 815], 0), (24, .aload_n 0, 1, [], 0), (25, .getfield 135, 3, [7, 23, 812], 0)]
def rt_124_1 : List rI := [(28, .iload_n 1, 1, [], 0), (29, .iconst 1, 1, [], 1), (30, .if_icmp .ne 10, 3, [22], 0), (33, .aload_n 0, 1, [], 0), (34, .getfield 129, 3, [7, 17, 806], 0), (37, .goto 4, 3, [23], 0), (40, .iconst 0, 1, [], 0), (41, .iastore, 1, [], 0), (42, .iconst 0, 1, [], 0), (43, .istore_n 3, 1, [], 0), (44, .iload_n 3, 1, [], 0), (45, .aload_n 0, 1, [], 0), (46, .getfield 51, 3, [7, 26, 815], 0), (49, .aload_n 0, 1, [], 0), (50, .getfield 135, 3, [7, 23, 812], 0), (53, .iaload, 1, [], 0)]
def rt_124_2 : List rI := [(54, .if_icmp .ge 29, 3, [48], 0), (57, .aload_n 0, 1, [], 0), (58, .getfield 54, 3, [7, 27, 816], 0), (61, .bipush 64, 2, [], 64), (63, .aload_n 0, 1, [], 0), (64, .getfield 135, 3, [7, 23, 812], 0), (67, .imul, 1, [], 0), (68, .iload_n 3, 1, [], 0), (69, .iadd, 1, [], 0), (70, .aload_n 0, 1, [], 0), (71, .getfield 39, 3, [7, 16, 805], 0), (74, .iload_n 3, 1, [], 0), (75, .baload, 1, [], 0), (76, .bastore, 1, [], 0), (77, .iinc 3 1, 3, [], 1), (80, .goto (-36), 3, [26], 0)]
def rt_124_3 : List rI := [(83, .aload_n 0, 1, [], 0), (84, .dup, 1, [], 0), (85, .getfield 135, 3, [7, 23, 812], 0), (88, .iconst 1, 1, [], 1), (89, .iadd, 1, [], 0), (90, .putfield 135, 3, [7, 23, 812], 0), (93, .return_, 1, [], 0)]
def rt_124 : List (List rI) := [rt_124_0, rt_124_1, rt_124_2, rt_124_3]
def rt_125_0 : List rI := [(0, .iconst (-1), 1, [], (-1)), (1, .istore_n 1, 1, [], 0), (2, .aload_n 0, 1, [], 0), (3, .iconst 0, 1, [], 0), (4, .putfield 202, 3, [7, 34, 823], 0), (7, .iconst 0, 1, [], 0), (8, .istore_n 2, 1, [], 0), (9, .iload_n 2, 1, [], 0), (10, .iconst 2, 1, [], 2), (11, .if_icmp .ge 58, 3, [42], 0), (14, .aload_n 0, 1, [], 0), (15, .iconst 2, 1, [], 2), (16, .bipush 64, 2, [], 64), (18, .iload_n 2, 1, [], 0), (19, .imul, 1, [], 0), (20, .invokevirtual 141, 3, [91, 2, 0, 745], 0)]
def rt_125_1 : List rI := [(23, .istore_n 3, 1, [], 0), (24, .iload_n 3, 1, [], 0), (25, .ifCond .eq 38, 3, [40], 0), (28, .iload_n 3, 1, [], 0), (29, .aload_n 0, 1, [], 0), (30, .iconst 2, 1, [], 2), (31, .bipush 64, 2, [], 64), (33, .iload_n 2, 1, [], 0), (34, .imul, 1, [], 0), (35, .bipush 60, 2, [], 60), (37, .iadd, 1, [], 0), (38, .invokevirtual 141, 3, [91, 2, 0, 745], 0), (41, .if_icmp .ne 22, 3, [40], 0), (44, .iload_n 1, 1, [], 0), (45, .ifCond .lt 11, 3, [35], 0), (48, .iload_n 3, 1, [], 0)]
def rt_125_2 : List rI := [(49, .aload_n 0, 1, [], 0), (50, .getfield 202, 3, [7, 34, 823], 0), (53, .if_icmp .le 10, 3, [40], 0), (56, .iload_n 2, 1, [], 0), (57, .istore_n 1, 1, [], 0), (58, .aload_n 0, 1, [], 0), (59, .iload_n 3, 1, [], 0), (60, .putfield 202, 3, [7, 34, 823], 0), (63, .iinc 2 1, 3, [], 1), (66, .goto (-57), 3, [7], 0), (69, .bipush 64, 2, [], 64), (71, .iload_n 1, 1, [], 0), (72, .imul, 1, [], 0), (73, .istore_n 2, 1, [], 0), (74, .aload_n 0, 1, [], 0), (75, .iload_n 1, 1, [], 0)]
def rt_125_3 : List rI := [(76, .ifCond .ge 7, 3, [51], 0), (79, .iconst 0, 1, [], 0), (80, .goto 11, 3, [57], 0), (83, .aload_n 0, 1, [], 0), (84, .iconst 2, 1, [], 2), (85, .iload_n 2, 1, [], 0), (86, .iconst 4, 1, [], 4), (87, .iadd, 1, [], 0), (88, .invokevirtual 141, 3, [91, 2, 0, 745], 0), (91, .putfield 205, 3, [7, 30, 819], 0), (94, .aload_n 0, 1, [], 0), (95, .iload_n 1, 1, [], 0), (96, .ifCond .ge 7, 3, [63], 0), (99, .iconst 0, 1, [], 0), (100, .goto 12, 3, [69], 0), (103, .aload_n 0, 1, [], 0)]
def rt_125_4 : List rI := [(104, .iconst 2, 1, [], 2), (105, .iload_n 2, 1, [], 0), (106, .bipush 8, 2, [], 8), (108, .iadd, 1, [], 0), (109, .invokevirtual 141, 3, [91, 2, 0, 745], 0), (112, .putfield 144, 3, [7, 29, 818], 0), (115, .aload_n 0, 1, [], 0), (116, .iload_n 1, 1, [], 0), (117, .ifCond .ge 7, 3, [75], 0), (120, .iconst 1, 1, [], 1), (121, .goto 12, 3, [81], 0), (124, .aload_n 0, 1, [], 0), (125, .iconst 2, 1, [], 2), (126, .iload_n 2, 1, [], 0), (127, .bipush 12, 2, [], 12), (129, .iadd, 1, [], 0)]
def rt_125_5 : List rI := [(130, .invokevirtual 141, 3, [91, 2, 0, 745], 0), (133, .putfield 208, 3, [7, 31, 820], 0), (136, .aload_n 0, 1, [], 0), (137, .iload_n 1, 1, [], 0), (138, .ifCond .ge 7, 3, [87], 0), (141, .iconst 1, 1, [], 1), (142, .goto 12, 3, [93], 0), (145, .aload_n 0, 1, [], 0), (146, .iconst 2, 1, [], 2), (147, .iload_n 2, 1, [], 0), (148, .bipush 16, 2, [], 16), (150, .iadd, 1, [], 0), (151, .invokevirtual 141, 3, [91, 2, 0, 745], 0), (154, .putfield 196, 3, [7, 33, 822], 0), (157, .aload_n 0, 1, [], 0), (158, .iload_n 1, 1, [], 0)]
def rt_125_6 : List rI := [(159, .ifCond .ge 7, 3, [99], 0), (162, .iconst 0, 1, [], 0), (163, .goto 12, 3, [105], 0), (166, .aload_n 0, 1, [], 0), (167, .iconst 2, 1, [], 2), (168, .iload_n 2, 1, [], 0), (169, .bipush 20, 2, [], 20), (171, .iadd, 1, [], 0), (172, .invokevirtual 100, 3, [90, 2, 0, 749], 0), (175, .putfield 179, 3, [7, 36, 825], 0), (178, .iconst 0, 1, [], 0), (179, .istore_n 3, 1, [], 0), (180, .iload_n 3, 1, [], 0), (181, .aload_n 0, 1, [], 0), (182, .getfield 179, 3, [7, 36, 825], 0), (185, .if_icmp .ge 26, 3, [126], 0)]
def rt_125_7 : List rI := [(188, .aload_n 0, 1, [], 0), (189, .getfield 57, 3, [7, 35, 824], 0), (192, .iload_n 3, 1, [], 0), (193, .aload_n 0, 1, [], 0), (194, .iconst 2, 1, [], 2), (195, .iload_n 2, 1, [], 0), (196, .bipush 21, 2, [], 21), (198, .iadd, 1, [], 0), (199, .iload_n 3, 1, [], 0), (200, .iadd, 1, [], 0), (201, .invokevirtual 100, 3, [90, 2, 0, 749], 0), (204, .iastore, 1, [], 0), (205, .iinc 3 1, 3, [], 1), (208, .goto (-28), 3, [108], 0), (211, .aload_n 0, 1, [], 0), (212, .iconst 0, 1, [], 0)]
def rt_125_8 : List rI := [(213, .putfield 138, 3, [7, 41, 830], 0), (216, .iconst 0, 1, [], 0), (217, .istore_n 3, 1, [], 0), (218, .iload_n 3, 1, [], 0), (219, .bipush 120, 2, [], 120), (221, .if_icmp .ge 16, 3, [141], 0), (224, .aload_n 0, 1, [], 0), (225, .getfield 64, 3, [7, 38, 827], 0), (228, .iload_n 3, 1, [], 0), (229, .iconst 0, 1, [], 0), (230, .iastore, 1, [], 0), (231, .iinc 3 1, 3, [], 1), (234, .goto (-16), 3, [131], 0), (237, .aload_n 0, 1, [], 0), (238, .aload_n 0, 1, [], 0), (239, .getfield 205, 3, [7, 30, 819], 0)]
def rt_125_9 : List rI := [(242, .putfield 151, 3, [7, 28, 817], 0), (245, .aload_n 0, 1, [], 0), (246, .aload_n 0, 1, [], 0), (247, .getfield 208, 3, [7, 31, 820], 0), (250, .putfield 158, 3, [7, 32, 821], 0), (253, .aload_n 0, 1, [], 0), (254, .getfield 151, 3, [7, 28, 817], 0), (257, .istore_n 3, 1, [], 0), (258, .aload_n 0, 1, [], 0), (259, .getfield 158, 3, [7, 32, 821], 0), (262, .istore 4, 2, [], 0), (264, .iconst 0, 1, [], 0), (265, .istore 5, 2, [], 0), (267, .aload_n 0, 1, [], 0), (268, .iload_n 3, 1, [], 0), (269, .iload 4, 2, [], 0)]
def rt_125_10 : List rI := [(271, .invokevirtual 270, 3, [98, 2, 0, 757], 0), (274, .ifCond .eq 117, 3, [223], 0), (277, .aload_n 0, 1, [], 0), (278, .iconst 0, 1, [], 0), (279, .iload_n 3, 1, [], 0), (280, .invokevirtual 100, 3, [90, 2, 0, 749], 0), (283, .sipush 128, 3, [], 128), (286, .if_icmp .ge 7, 3, [170], 0), (289, .iconst 1, 1, [], 1), (290, .goto 4, 3, [171], 0), (293, .iconst 0, 1, [], 0), (294, .istore 6, 2, [], 0), (296, .iload_n 3, 1, [], 0), (297, .aload_n 0, 1, [], 0), (298, .iload_n 3, 1, [], 0), (299, .invokevirtual 246, 3, [99, 1, 0, 761], 0)]
def rt_125_11 : List rI := [(302, .iadd, 1, [], 0), (303, .istore_n 3, 1, [], 0), (304, .iinc 4 1, 3, [], 1), (307, .iload 6, 2, [], 0), (309, .ifCond .eq 79, 3, [222], 0), (312, .aload_n 0, 1, [], 0), (313, .getfield 151, 3, [7, 28, 817], 0), (316, .iload_n 3, 1, [], 0), (317, .if_icmp .ge 71, 3, [222], 0), (320, .aload_n 0, 1, [], 0), (321, .aload_n 0, 1, [], 0), (322, .iconst 0, 1, [], 0), (323, .aload_n 0, 1, [], 0), (324, .getfield 151, 3, [7, 28, 817], 0), (327, .iconst 1, 1, [], 1), (328, .iadd, 1, [], 0)]
def rt_125_12 : List rI := [(329, .invokevirtual 100, 3, [90, 2, 0, 749], 0), (332, .aload_n 0, 1, [], 0), (333, .iconst 0, 1, [], 0), (334, .aload_n 0, 1, [], 0), (335, .getfield 151, 3, [7, 28, 817], 0), (338, .invokevirtual 100, 3, [90, 2, 0, 749], 0), (341, .bipush 127, 2, [], 127), (343, .iand, 1, [], 0), (344, .aload_n 0, 1, [], 0), (345, .getfield 158, 3, [7, 32, 821], 0), (348, .aload_n 0, 1, [], 0), (349, .getfield 151, 3, [7, 28, 817], 0), (352, .invokevirtual 257, 3, [101, 4, 0, 765], 0), (355, .aload_n 0, 1, [], 0), (356, .dup, 1, [], 0), (357, .getfield 151, 3, [7, 28, 817], 0)]
def rt_125_13 : List rI := [(360, .aload_n 0, 1, [], 0), (361, .aload_n 0, 1, [], 0), (362, .getfield 151, 3, [7, 28, 817], 0), (365, .invokevirtual 246, 3, [99, 1, 0, 761], 0), (368, .iadd, 1, [], 0), (369, .putfield 151, 3, [7, 28, 817], 0), (372, .aload_n 0, 1, [], 0), (373, .dup, 1, [], 0), (374, .getfield 158, 3, [7, 32, 821], 0), (377, .iconst 1, 1, [], 1), (378, .iadd, 1, [], 0), (379, .putfield 158, 3, [7, 32, 821], 0), (382, .iinc 5 1, 3, [], 1), (385, .goto (-73), 3, [181], 0), (388, .goto (-121), 3, [157], 0), (391, .aload_n 0, 1, [], 0)]
def rt_125_14 : List rI := [(392, .iconst 0, 1, [], 0), (393, .putfield 125, 3, [7, 15, 804], 0), (396, .aload_n 0, 1, [], 0), (397, .iconst 0, 1, [], 0), (398, .putfield 273, 3, [7, 20, 809], 0), (401, .aload_n 0, 1, [], 0), (402, .iconst 0, 1, [], 0), (403, .putfield 276, 3, [7, 21, 810], 0), (406, .aload_n 0, 1, [], 0), (407, .bipush 12, 2, [], 12), (409, .invokevirtual 147, 3, [93, 1, 0, 769], 0), (412, .aload_n 0, 1, [], 0), (413, .iconst 0, 1, [], 0), (414, .aload_n 0, 1, [], 0), (415, .getfield 151, 3, [7, 28, 817], 0), (418, .bipush 12, 2, [], 12)]
def rt_125_15 : List rI := [(420, .invokevirtual 154, 3, [94, 3, 0, 773], 0), (423, .aload_n 0, 1, [], 0), (424, .invokevirtual 232, 3, [96, 0, 0, 785], 0), (427, .istore 6, 2, [], 0), (429, .iload 5, 2, [], 0), (431, .ireturn, 1, [], 0)]
def rt_125 : List (List rI) := [rt_125_0, rt_125_1, rt_125_2, rt_125_3, rt_125_4, rt_125_5, rt_125_6, rt_125_7, rt_125_8, rt_125_9, rt_125_10, rt_125_11, rt_125_12, rt_125_13, rt_125_14, rt_125_15]
def rt_126_0 : List rI := [(0, .aload_n 0, 1, [], 0), (1, .getfield 125, 3, [7, 15, 804], 0), (4, .ifCond .eq 10, 3, [6], 0), (7, .aload_n 0, 1, [], 0), (8, .invokevirtual 92, 3, [125, 0, 0, 741], 0), (11, .goto 4, 3, [7], 0), (14, .iconst (-1), 1, [], (-1)), (15, .ireturn, 1, [], 0)]
def rt_126 : List (List rI) := [rt_126_0]
def rt_127_0 : List rI := [(0, .iload_n 0, 1, [], 0), (1, .ifCond .lt 13, 3, [7], 0), (4, .iload_n 0, 1, [], 0), (5, .bipush 120, 2, [], 120), (7, .if_icmp .ge 7, 3, [7], 0), (10, .iconst 1, 1, [], 1), (11, .goto 4, 3, [8], 0), (14, .iconst 0, 1, [], 0), (15, .ireturn, 1, [], 0)]
def rt_127 : List (List rI) := [rt_127_0]
def rt_128_0 : List rI := [(0, .aload_n 0, 1, [], 0), (1, .getfield 125, 3, [7, 15, 804], 0), (4, .ifCond .eq 6, 3, [5], 0), (7, .bipush (-2), 2, [], (-2)), (9, .ireturn, 1, [], 0), (10, .iload_n 3, 1, [], 0), (11, .iconst 1, 1, [], 1), (12, .if_icmp .lt 20, 3, [17], 0), (15, .iload_n 3, 1, [], 0), (16, .bipush 8, 2, [], 8), (18, .if_icmp .gt 14, 3, [17], 0), (21, .aload_n 0, 1, [], 0), (22, .getfield 129, 3, [7, 17, 806], 0), (25, .iload_n 3, 1, [], 0), (26, .iadd, 1, [], 0), (27, .bipush 64, 2, [], 64)]
def rt_128_1 : List rI := [(29, .if_icmp .le 5, 3, [19], 0), (32, .iconst (-1), 1, [], (-1)), (33, .ireturn, 1, [], 0), (34, .iload_n 3, 1, [], 0), (35, .iconst 1, 1, [], 1), (36, .isub, 1, [], 0), (37, .istore 4, 2, [], 0), (39, .iload 4, 2, [], 0), (41, .ifCond .lt 37, 3, [45], 0), (44, .aload_n 0, 1, [], 0), (45, .getfield 39, 3, [7, 16, 805], 0), (48, .aload_n 0, 1, [], 0), (49, .getfield 129, 3, [7, 17, 806], 0), (52, .lload_n 1, 1, [], 0), (53, .bipush 8, 2, [], 8), (55, .iload 4, 2, [], 0)]
def rt_128_2 : List rI := [(57, .imul, 1, [], 0), (58, .lshr, 1, [], 0), (59, .l2i, 1, [], 0), (60, .i2b, 1, [], 0), (61, .bastore, 1, [], 0), (62, .aload_n 0, 1, [], 0), (63, .dup, 1, [], 0), (64, .getfield 129, 3, [7, 17, 806], 0), (67, .iconst 1, 1, [], 1), (68, .iadd, 1, [], 0), (69, .putfield 129, 3, [7, 17, 806], 0), (72, .iinc 4 (-1), 3, [], (-1)), (75, .goto (-36), 3, [23], 0), (78, .aload_n 0, 1, [], 0), (79, .getfield 129, 3, [7, 17, 806], 0), (82, .ireturn, 1, [], 0)]
def rt_128 : List (List rI) := [rt_128_0, rt_128_1, rt_128_2]
def rt_129_0 : List rI := [(0, .aload_n 0, 1, [], 0), (1, .getfield 125, 3, [7, 15, 804], 0), (4, .ifCond .eq 6, 3, [5], 0), (7, .bipush (-2), 2, [], (-2)), (9, .ireturn, 1, [], 0), (10, .iload_n 1, 1, [], 0), (11, .invokestatic 279, 3, [127, 1, 1, 956], 0), (14, .ifCond .eq 19, 3, [15], 0), (17, .aload_n 0, 1, [], 0), (18, .getfield 132, 3, [7, 22, 811], 0), (21, .ifCond .eq 14, 3, [17], 0), (24, .aload_n 0, 1, [], 0), (25, .getfield 135, 3, [7, 23, 812], 0), (28, .bipush 8, 2, [], 8), (30, .if_icmp .ne 5, 3, [17], 0), (33, .iconst (-1), 1, [], (-1))]
def rt_129_1 : List rI := [(34, .ireturn, 1, [], 0), (35, .aload_n 0, 1, [], 0), (36, .iconst 1, 1, [], 1), (37, .iload_n 1, 1, [], 0), (38, .invokevirtual 282, 3, [124, 2, 0, 959], 0), (41, .aload_n 0, 1, [], 0), (42, .iconst 0, 1, [], 0), (43, .putfield 129, 3, [7, 17, 806], 0), (46, .aload_n 0, 1, [], 0), (47, .getfield 132, 3, [7, 22, 811], 0), (50, .ifCond .eq 10, 3, [30], 0), (53, .aload_n 0, 1, [], 0), (54, .getfield 135, 3, [7, 23, 812], 0), (57, .goto 7, 3, [32], 0), (60, .aload_n 0, 1, [], 0), (61, .invokevirtual 285, 3, [123, 0, 0, 963], 0)]
def rt_129_2 : List rI := [(64, .ireturn, 1, [], 0)]
def rt_129 : List (List rI) := [rt_129_0, rt_129_1, rt_129_2]
def rt_130_0 : List rI := [(0, .aload_n 0, 1, [], 0), (1, .getfield 125, 3, [7, 15, 804], 0), (4, .ifCond .eq 6, 3, [5], 0), (7, .bipush (-2), 2, [], (-2)), (9, .ireturn, 1, [], 0), (10, .iload_n 1, 1, [], 0), (11, .invokestatic 279, 3, [127, 1, 1, 956], 0), (14, .ifCond .eq 19, 3, [15], 0), (17, .aload_n 0, 1, [], 0), (18, .getfield 132, 3, [7, 22, 811], 0), (21, .ifCond .eq 14, 3, [17], 0), (24, .aload_n 0, 1, [], 0), (25, .getfield 135, 3, [7, 23, 812], 0), (28, .bipush 8, 2, [], 8), (30, .if_icmp .ne 5, 3, [17], 0), (33, .iconst (-1), 1, [], (-1))]
def rt_130_1 : List rI := [(34, .ireturn, 1, [], 0), (35, .aload_n 0, 1, [], 0), (36, .getfield 132, 3, [7, 22, 811], 0), (39, .ifCond .ne 13, 3, [26], 0), (42, .aload_n 0, 1, [], 0), (43, .iload_n 1, 1, [], 0), (44, .invokevirtual 288, 3, [108, 1, 0, 1059], 0), (47, .ifCond .ne 5, 3, [26], 0), (50, .iconst 0, 1, [], 0), (51, .ireturn, 1, [], 0), (52, .aload_n 0, 1, [], 0), (53, .iconst 2, 1, [], 2), (54, .iload_n 1, 1, [], 0), (55, .invokevirtual 282, 3, [124, 2, 0, 959], 0), (58, .aload_n 0, 1, [], 0), (59, .getfield 132, 3, [7, 22, 811], 0)]
def rt_130_2 : List rI := [(62, .ifCond .eq 10, 3, [36], 0), (65, .aload_n 0, 1, [], 0), (66, .getfield 135, 3, [7, 23, 812], 0), (69, .goto 7, 3, [38], 0), (72, .aload_n 0, 1, [], 0), (73, .invokevirtual 285, 3, [123, 0, 0, 963], 0), (76, .ireturn, 1, [], 0)]
def rt_130 : List (List rI) := [rt_130_0, rt_130_1, rt_130_2]
def rt_131_0 : List rI := [(0, .aload_n 0, 1, [], 0), (1, .getfield 125, 3, [7, 15, 804], 0), (4, .ifCond .eq 6, 3, [5], 0), (7, .bipush (-2), 2, [], (-2)), (9, .ireturn, 1, [], 0), (10, .aload_n 0, 1, [], 0), (11, .getfield 132, 3, [7, 22, 811], 0), (14, .istore_n 1, 1, [], 0), (15, .aload_n 0, 1, [], 0), (16, .iconst 1, 1, [], 1), (17, .putfield 132, 3, [7, 22, 811], 0), (20, .iload_n 1, 1, [], 0), (21, .ifCond .eq 7, 3, [15], 0), (24, .iconst 0, 1, [], 0), (25, .goto 4, 3, [16], 0), (28, .iconst 1, 1, [], 1)]
def rt_131_1 : List rI := [(29, .ireturn, 1, [], 0)]
def rt_131 : List (List rI) := [rt_131_0, rt_131_1]
def rt_132_0 : List rI := [(0, .aload_n 0, 1, [], 0), (1, .getfield 125, 3, [7, 15, 804], 0), (4, .ifCond .eq 6, 3, [5], 0), (7, .bipush (-2), 2, [], (-2)), (9, .ireturn, 1, [], 0), (10, .aload_n 0, 1, [], 0), (11, .getfield 132, 3, [7, 22, 811], 0), (14, .ifCond .eq 10, 3, [11], 0), (17, .aload_n 0, 1, [], 0), (18, .getfield 135, 3, [7, 23, 812], 0), (21, .ifCond .ne 10, 3, [16], 0), (24, .aload_n 0, 1, [], 0), (25, .iconst 0, 1, [], 0), (26, .putfield 132, 3, [7, 22, 811], 0), (29, .iconst (-1), 1, [], (-1)), (30, .ireturn, 1, [], 0)]
def rt_132_1 : List rI := [(31, .aload_n 0, 1, [], 0), (32, .invokevirtual 285, 3, [123, 0, 0, 963], 0), (35, .ireturn, 1, [], 0)]
def rt_132 : List (List rI) := [rt_132_0, rt_132_1]
def rt_133_0 : List rI := [(0, .aload_n 0, 1, [], 0), (1, .getfield 125, 3, [7, 15, 804], 0), (4, .ifCond .eq 6, 3, [5], 0), (7, .bipush (-2), 2, [], (-2)), (9, .ireturn, 1, [], 0), (10, .aload_n 0, 1, [], 0), (11, .getfield 132, 3, [7, 22, 811], 0), (14, .ifCond .eq 10, 3, [11], 0), (17, .aload_n 0, 1, [], 0), (18, .getfield 135, 3, [7, 23, 812], 0), (21, .goto 4, 3, [12], 0), (24, .iconst (-1), 1, [], (-1)), (25, .istore_n 1, 1, [], 0), (26, .aload_n 0, 1, [], 0), (27, .iconst 0, 1, [], 0), (28, .putfield 132, 3, [7, 22, 811], 0)]
def rt_133_1 : List rI := [(31, .aload_n 0, 1, [], 0), (32, .iconst 0, 1, [], 0), (33, .putfield 135, 3, [7, 23, 812], 0), (36, .iload_n 1, 1, [], 0), (37, .ireturn, 1, [], 0)]
def rt_133 : List (List rI) := [rt_133_0, rt_133_1]
def rt_134_0 : List rI := [(0, .aload_n 0, 1, [], 0), (1, .getfield 125, 3, [7, 15, 804], 0), (4, .ifCond .eq 6, 3, [5], 0), (7, .bipush (-2), 2, [], (-2)), (9, .ireturn, 1, [], 0), (10, .aload_n 0, 1, [], 0), (11, .iconst 0, 1, [], 0), (12, .putfield 291, 3, [7, 19, 808], 0), (15, .aload_n 0, 1, [], 0), (16, .iconst 0, 1, [], 0), (17, .putfield 273, 3, [7, 20, 809], 0), (20, .aload_n 0, 1, [], 0), (21, .iconst 0, 1, [], 0), (22, .putfield 276, 3, [7, 21, 810], 0), (25, .iload_n 1, 1, [], 0), (26, .invokestatic 279, 3, [127, 1, 1, 956], 0)]
def rt_134_1 : List rI := [(29, .ifCond .ne 5, 3, [19], 0), (32, .iconst (-1), 1, [], (-1)), (33, .ireturn, 1, [], 0), (34, .aload_n 0, 1, [], 0), (35, .getfield 64, 3, [7, 38, 827], 0), (38, .iload_n 1, 1, [], 0), (39, .iaload, 1, [], 0), (40, .ifCond .le 7, 3, [26], 0), (43, .iconst 1, 1, [], 1), (44, .goto 4, 3, [27], 0), (47, .iconst 0, 1, [], 0), (48, .istore_n 2, 1, [], 0), (49, .iconst 0, 1, [], 0), (50, .istore_n 3, 1, [], 0), (51, .iload_n 3, 1, [], 0), (52, .aload_n 0, 1, [], 0)]
def rt_134_2 : List rI := [(53, .getfield 179, 3, [7, 36, 825], 0), (56, .if_icmp .ge 70, 3, [70], 0), (59, .iload_n 2, 1, [], 0), (60, .ifCond .ne 66, 3, [70], 0), (63, .aload_n 0, 1, [], 0), (64, .iload_n 3, 1, [], 0), (65, .bipush 8, 2, [], 8), (67, .invokevirtual 185, 3, [103, 2, 0, 1014], 0), (70, .iload_n 1, 1, [], 0), (71, .invokestatic 192, 3, [105, 1, 1, 987], 0), (74, .iand, 1, [], 0), (75, .iload_n 1, 1, [], 0), (76, .invokestatic 192, 3, [105, 1, 1, 987], 0), (79, .if_icmp .ne 31, 3, [62], 0), (82, .aload_n 0, 1, [], 0), (83, .dup, 1, [], 0)]
def rt_134_3 : List rI := [(84, .getfield 273, 3, [7, 20, 809], 0), (87, .iconst 1, 1, [], 1), (88, .iadd, 1, [], 0), (89, .putfield 273, 3, [7, 20, 809], 0), (92, .aload_n 0, 1, [], 0), (93, .iload_n 3, 1, [], 0), (94, .iload_n 1, 1, [], 0), (95, .invokevirtual 182, 3, [106, 2, 0, 1047], 0), (98, .ifCond .le 7, 3, [59], 0), (101, .iconst 1, 1, [], 1), (102, .goto 4, 3, [60], 0), (105, .iconst 0, 1, [], 0), (106, .istore_n 2, 1, [], 0), (107, .goto 13, 3, [68], 0), (110, .aload_n 0, 1, [], 0), (111, .dup, 1, [], 0)]
def rt_134_4 : List rI := [(112, .getfield 276, 3, [7, 21, 810], 0), (115, .iconst 1, 1, [], 1), (116, .iadd, 1, [], 0), (117, .putfield 276, 3, [7, 21, 810], 0), (120, .iinc 3 1, 3, [], 1), (123, .goto (-72), 3, [30], 0), (126, .aload_n 0, 1, [], 0), (127, .iload_n 1, 1, [], 0), (128, .invokevirtual 288, 3, [108, 1, 0, 1059], 0), (131, .ifCond .ne 5, 3, [76], 0), (134, .iconst (-1), 1, [], (-1)), (135, .ireturn, 1, [], 0), (136, .aload_n 0, 1, [], 0), (137, .aload_n 0, 1, [], 0), (138, .iconst 0, 1, [], 0), (139, .aload_n 0, 1, [], 0)]
def rt_134_5 : List rI := [(140, .getfield 176, 3, [7, 48, 837], 0), (143, .iconst 2, 1, [], 2), (144, .iadd, 1, [], 0), (145, .invokevirtual 100, 3, [90, 2, 0, 749], 0), (148, .putfield 291, 3, [7, 19, 808], 0), (151, .iconst 0, 1, [], 0), (152, .istore_n 3, 1, [], 0), (153, .iload_n 3, 1, [], 0), (154, .aload_n 0, 1, [], 0), (155, .getfield 291, 3, [7, 19, 808], 0), (158, .if_icmp .ge 30, 3, [107], 0), (161, .aload_n 0, 1, [], 0), (162, .getfield 42, 3, [7, 18, 807], 0), (165, .iload_n 3, 1, [], 0), (166, .aload_n 0, 1, [], 0), (167, .iconst 0, 1, [], 0)]
def rt_134_6 : List rI := [(168, .aload_n 0, 1, [], 0), (169, .getfield 176, 3, [7, 48, 837], 0), (172, .bipush 12, 2, [], 12), (174, .iadd, 1, [], 0), (175, .iload_n 3, 1, [], 0), (176, .iadd, 1, [], 0), (177, .invokevirtual 100, 3, [90, 2, 0, 749], 0), (180, .i2b, 1, [], 0), (181, .bastore, 1, [], 0), (182, .iinc 3 1, 3, [], 1), (185, .goto (-32), 3, [87], 0), (188, .aload_n 0, 1, [], 0), (189, .getfield 291, 3, [7, 19, 808], 0), (192, .ireturn, 1, [], 0)]
def rt_134 : List (List rI) := [rt_134_0, rt_134_1, rt_134_2, rt_134_3, rt_134_4, rt_134_5, rt_134_6]
def rt_135_0 : List rI := [(0, .iload_n 1, 1, [], 0), (1, .ifCond .lt 24, 3, [13], 0), (4, .iload_n 1, 1, [], 0), (5, .aload_n 0, 1, [], 0), (6, .getfield 291, 3, [7, 19, 808], 0), (9, .if_icmp .ge 16, 3, [13], 0), (12, .aload_n 0, 1, [], 0), (13, .getfield 42, 3, [7, 18, 807], 0), (16, .iload_n 1, 1, [], 0), (17, .baload, 1, [], 0), (18, .sipush 255, 3, [], 255), (21, .iand, 1, [], 0), (22, .goto 4, 3, [14], 0), (25, .iconst (-1), 1, [], (-1)), (26, .ireturn, 1, [], 0)]
def rt_135 : List (List rI) := [rt_135_0]
def rt_136_0 : List rI := [(0, .aload_n 0, 1, [], 0), (1, .getfield 125, 3, [7, 15, 804], 0), (4, .ifCond .eq 6, 3, [5], 0), (7, .bipush (-2), 2, [], (-2)), (9, .ireturn, 1, [], 0), (10, .iload_n 1, 1, [], 0), (11, .ifCond .ge 7, 3, [9], 0), (14, .iconst 0, 1, [], 0), (15, .goto 4, 3, [10], 0), (18, .iload_n 1, 1, [], 0), (19, .istore_n 2, 1, [], 0), (20, .iload_n 2, 1, [], 0), (21, .bipush 120, 2, [], 120), (23, .if_icmp .ge 19, 3, [22], 0), (26, .aload_n 0, 1, [], 0), (27, .iload_n 2, 1, [], 0)]
def rt_136_1 : List rI := [(28, .invokevirtual 288, 3, [108, 1, 0, 1059], 0), (31, .ifCond .eq 5, 3, [20], 0), (34, .iload_n 2, 1, [], 0), (35, .ireturn, 1, [], 0), (36, .iinc 2 1, 3, [], 1), (39, .goto (-19), 3, [11], 0), (42, .iconst (-1), 1, [], (-1)), (43, .ireturn, 1, [], 0)]
def rt_136 : List (List rI) := [rt_136_0, rt_136_1]
def rt_137_0 : List rI := [(0, .aload_n 0, 1, [], 0), (1, .getfield 125, 3, [7, 15, 804], 0), (4, .ifCond .eq 8, 3, [5], 0), (7, .bipush (-2), 2, [], (-2)), (9, .goto 7, 3, [7], 0), (12, .aload_n 0, 1, [], 0), (13, .invokevirtual 232, 3, [96, 0, 0, 785], 0), (16, .ireturn, 1, [], 0)]
def rt_137 : List (List rI) := [rt_137_0]
def rt_138_0 : List rI := [(0, .aload_n 0, 1, [], 0), (1, .getfield 125, 3, [7, 15, 804], 0), (4, .ifCond .ne 7, 3, [5], 0), (7, .aload_n 0, 1, [], 0), (8, .invokevirtual 243, 3, [118, 0, 0, 971], 0), (11, .aload_n 0, 1, [], 0), (12, .getfield 125, 3, [7, 15, 804], 0), (15, .ifCond .eq 8, 3, [10], 0), (18, .bipush (-2), 2, [], (-2)), (20, .goto 7, 3, [12], 0), (23, .aload_n 0, 1, [], 0), (24, .getfield 179, 3, [7, 36, 825], 0), (27, .ireturn, 1, [], 0)]
def rt_138 : List (List rI) := [rt_138_0]
def rt_139_0 : List rI := [(0, .aload_n 0, 1, [], 0), (1, .getfield 125, 3, [7, 15, 804], 0), (4, .ifCond .eq 6, 3, [5], 0), (7, .bipush (-2), 2, [], (-2)), (9, .ireturn, 1, [], 0), (10, .iload_n 1, 1, [], 0), (11, .iconst 1, 1, [], 1), (12, .if_icmp .lt 10, 3, [11], 0), (15, .iload_n 1, 1, [], 0), (16, .sipush 1000, 3, [], 1000), (19, .if_icmp .le 5, 3, [13], 0), (22, .iconst (-1), 1, [], (-1)), (23, .ireturn, 1, [], 0), (24, .aload_n 0, 1, [], 0), (25, .iload_n 1, 1, [], 0), (26, .invokevirtual 261, 3, [120, 1, 0, 1039], 0)]
def rt_139_1 : List rI := [(29, .istore_n 2, 1, [], 0), (30, .aload_n 0, 1, [], 0), (31, .getfield 125, 3, [7, 15, 804], 0), (34, .ifCond .eq 8, 3, [22], 0), (37, .bipush (-2), 2, [], (-2)), (39, .goto 4, 3, [23], 0), (42, .iload_n 2, 1, [], 0), (43, .ireturn, 1, [], 0)]
def rt_139 : List (List rI) := [rt_139_0, rt_139_1]
def rt_140_0 : List rI := [(0, .aload_n 0, 1, [], 0), (1, .getfield 125, 3, [7, 15, 804], 0), (4, .ifCond .eq 6, 3, [5], 0), (7, .bipush (-2), 2, [], (-2)), (9, .ireturn, 1, [], 0), (10, .iload_n 1, 1, [], 0), (11, .ifCond .lt 7, 3, [9], 0), (14, .iload_n 2, 1, [], 0), (15, .ifCond .ge 5, 3, [11], 0), (18, .iconst (-1), 1, [], (-1)), (19, .ireturn, 1, [], 0), (20, .aload_n 0, 1, [], 0), (21, .getfield 103, 3, [7, 10, 799], 0), (24, .istore_n 3, 1, [], 0), (25, .aload_n 0, 1, [], 0), (26, .iload_n 1, 1, [], 0)]
def rt_140_1 : List rI := [(27, .iload_n 2, 1, [], 0), (28, .invokevirtual 118, 3, [97, 2, 0, 777], 0), (31, .iload_n 3, 1, [], 0), (32, .ireturn, 1, [], 0)]
def rt_140 : List (List rI) := [rt_140_0, rt_140_1]
def rt_141_0 : List rI := [(0, .aload_n 0, 1, [], 0), (1, .getfield 125, 3, [7, 15, 804], 0), (4, .ifCond .eq 6, 3, [5], 0), (7, .bipush (-2), 2, [], (-2)), (9, .ireturn, 1, [], 0), (10, .iload_n 1, 1, [], 0), (11, .iconst 1, 1, [], 1), (12, .if_icmp .lt 18, 3, [15], 0), (15, .iload_n 1, 1, [], 0), (16, .sipush 1000, 3, [], 1000), (19, .if_icmp .gt 11, 3, [15], 0), (22, .iload_n 2, 1, [], 0), (23, .ifCond .lt 7, 3, [15], 0), (26, .iload_n 3, 1, [], 0), (27, .ifCond .ge 5, 3, [17], 0), (30, .iconst (-1), 1, [], (-1))]
def rt_141_1 : List rI := [(31, .ireturn, 1, [], 0), (32, .aload_n 0, 1, [], 0), (33, .iload_n 1, 1, [], 0), (34, .putfield 109, 3, [7, 12, 801], 0), (37, .aload_n 0, 1, [], 0), (38, .iload_n 2, 1, [], 0), (39, .putfield 112, 3, [7, 13, 802], 0), (42, .aload_n 0, 1, [], 0), (43, .iload_n 3, 1, [], 0), (44, .putfield 115, 3, [7, 14, 803], 0), (47, .iconst 1, 1, [], 1), (48, .ireturn, 1, [], 0)]
def rt_141 : List (List rI) := [rt_141_0, rt_141_1]
def rt_142_0 : List rI := [(0, .aload_n 0, 1, [], 0), (1, .getfield 125, 3, [7, 15, 804], 0), (4, .ifCond .eq 6, 3, [5], 0), (7, .bipush (-2), 2, [], (-2)), (9, .ireturn, 1, [], 0), (10, .aload_n 0, 1, [], 0), (11, .getfield 109, 3, [7, 12, 801], 0), (14, .ifCond .le 7, 3, [10], 0), (17, .iconst 1, 1, [], 1), (18, .goto 4, 3, [11], 0), (21, .iconst 0, 1, [], 0), (22, .istore_n 1, 1, [], 0), (23, .aload_n 0, 1, [], 0), (24, .iconst 0, 1, [], 0), (25, .putfield 109, 3, [7, 12, 801], 0), (28, .iload_n 1, 1, [], 0)]
def rt_142_1 : List rI := [(29, .ireturn, 1, [], 0)]
def rt_142 : List (List rI) := [rt_142_0, rt_142_1]
def rt_143_0 : List rI := [(0, .iload_n 1, 1, [], 0), (1, .bipush 10, 2, [], 10), (3, .if_icmp .eq 9, 3, [6], 0), (6, .iload_n 1, 1, [], 0), (7, .bipush 11, 2, [], 11), (9, .if_icmp .ne 21, 3, [15], 0), (12, .iload_n 1, 1, [], 0), (13, .bipush 10, 2, [], 10), (15, .if_icmp .ne 10, 3, [12], 0), (18, .aload_n 0, 1, [], 0), (19, .getfield 273, 3, [7, 20, 809], 0), (22, .goto 7, 3, [14], 0), (25, .aload_n 0, 1, [], 0), (26, .getfield 276, 3, [7, 21, 810], 0), (29, .ireturn, 1, [], 0), (30, .aload_n 0, 1, [], 0)]
def rt_143_1 : List rI := [(31, .getfield 125, 3, [7, 15, 804], 0), (34, .ifCond .eq 6, 3, [20], 0), (37, .bipush (-2), 2, [], (-2)), (39, .ireturn, 1, [], 0), (40, .iload_n 1, 1, [], 0), (41, .ifCond .lt 9, 3, [25], 0), (44, .iload_n 1, 1, [], 0), (45, .bipush 14, 2, [], 14), (47, .if_icmp .le 5, 3, [27], 0), (50, .iconst (-1), 1, [], (-1)), (51, .ireturn, 1, [], 0), (52, .iconst 0, 1, [], 0), (53, .istore_n 2, 1, [], 0), (54, .iconst 0, 1, [], 0), (55, .istore_n 3, 1, [], 0), (56, .iconst 0, 1, [], 0)]
def rt_143_2 : List rI := [(57, .istore 4, 2, [], 0), (59, .iload 4, 2, [], 0), (61, .bipush 120, 2, [], 120), (63, .if_icmp .ge 39, 3, [55], 0), (66, .iload_n 1, 1, [], 0), (67, .iconst 2, 1, [], 2), (68, .idiv, 1, [], 0), (69, .iconst 4, 1, [], 4), (70, .if_icmp .ne 32, 3, [55], 0), (73, .aload_n 0, 1, [], 0), (74, .iload 4, 2, [], 0), (76, .invokevirtual 288, 3, [108, 1, 0, 1059], 0), (79, .ifCond .eq 17, 3, [53], 0), (82, .iinc 2 1, 3, [], 1), (85, .iload_n 3, 1, [], 0), (86, .aload_n 0, 1, [], 0)]
def rt_143_3 : List rI := [(87, .aload_n 0, 1, [], 0), (88, .getfield 176, 3, [7, 48, 837], 0), (91, .invokevirtual 246, 3, [99, 1, 0, 761], 0), (94, .iadd, 1, [], 0), (95, .istore_n 3, 1, [], 0), (96, .iinc 4 1, 3, [], 1), (99, .goto (-40), 3, [33], 0), (102, .iload_n 1, 1, [], 0), (103, .tableswitch 134 0 13 #[69, 74, 79, 84, 89, 94, 99, 104, 109, 111, 134, 134, 113, 118], 69, [96, 57, 60, 63, 66, 69, 72, 75, 78, 81, 83, 96, 96, 85, 88], 0), (172, .aload_n 0, 1, [], 0), (173, .getfield 151, 3, [7, 28, 817], 0), (176, .ireturn, 1, [], 0), (177, .aload_n 0, 1, [], 0), (178, .getfield 144, 3, [7, 29, 818], 0), (181, .ireturn, 1, [], 0), (182, .aload_n 0, 1, [], 0)]
def rt_143_4 : List rI := [(183, .getfield 205, 3, [7, 30, 819], 0), (186, .ireturn, 1, [], 0), (187, .aload_n 0, 1, [], 0), (188, .getfield 158, 3, [7, 32, 821], 0), (191, .ireturn, 1, [], 0), (192, .aload_n 0, 1, [], 0), (193, .getfield 202, 3, [7, 34, 823], 0), (196, .ireturn, 1, [], 0), (197, .aload_n 0, 1, [], 0), (198, .getfield 138, 3, [7, 41, 830], 0), (201, .ireturn, 1, [], 0), (202, .aload_n 0, 1, [], 0), (203, .getfield 179, 3, [7, 36, 825], 0), (206, .ireturn, 1, [], 0), (207, .aload_n 0, 1, [], 0), (208, .getfield 103, 3, [7, 10, 799], 0)]
def rt_143_5 : List rI := [(211, .ireturn, 1, [], 0), (212, .iload_n 2, 1, [], 0), (213, .ireturn, 1, [], 0), (214, .iload_n 3, 1, [], 0), (215, .ireturn, 1, [], 0), (216, .aload_n 0, 1, [], 0), (217, .getfield 129, 3, [7, 17, 806], 0), (220, .ireturn, 1, [], 0), (221, .aload_n 0, 1, [], 0), (222, .getfield 132, 3, [7, 22, 811], 0), (225, .ifCond .eq 10, 3, [94], 0), (228, .aload_n 0, 1, [], 0), (229, .getfield 135, 3, [7, 23, 812], 0), (232, .goto 4, 3, [95], 0), (235, .iconst (-1), 1, [], (-1)), (236, .ireturn, 1, [], 0)]
def rt_143_6 : List rI := [(237, .aload_n 0, 1, [], 0), (238, .getfield 196, 3, [7, 33, 822], 0), (241, .ireturn, 1, [], 0)]
def rt_143 : List (List rI) := [rt_143_0, rt_143_1, rt_143_2, rt_143_3, rt_143_4, rt_143_5, rt_143_6]
def rt_144_0 : List rI := [(0, .aload_n 0, 1, [], 0), (1, .getfield 125, 3, [7, 15, 804], 0), (4, .ifCond .eq 6, 3, [5], 0), (7, .bipush (-2), 2, [], (-2)), (9, .ireturn, 1, [], 0), (10, .iload_n 1, 1, [], 0), (11, .ifCond .lt 11, 3, [11], 0), (14, .iload_n 1, 1, [], 0), (15, .aload_n 0, 1, [], 0), (16, .getfield 179, 3, [7, 36, 825], 0), (19, .if_icmp .lt 5, 3, [13], 0), (22, .iconst 0, 1, [], 0), (23, .ireturn, 1, [], 0), (24, .iload_n 2, 1, [], 0), (25, .tableswitch 104 0 6 #[43, 49, 56, 63, 70, 78, 96], 43, [56, 15, 19, 24, 29, 34, 39, 51], 0), (68, .aload_n 0, 1, [], 0)]
def rt_144_1 : List rI := [(69, .iload_n 1, 1, [], 0), (70, .invokevirtual 199, 3, [104, 1, 0, 998], 0), (73, .ireturn, 1, [], 0), (74, .aload_n 0, 1, [], 0), (75, .iload_n 1, 1, [], 0), (76, .iconst 2, 1, [], 2), (77, .invokevirtual 164, 3, [102, 2, 0, 1002], 0), (80, .ireturn, 1, [], 0), (81, .aload_n 0, 1, [], 0), (82, .getfield 57, 3, [7, 35, 824], 0), (85, .iload_n 1, 1, [], 0), (86, .iaload, 1, [], 0), (87, .ireturn, 1, [], 0), (88, .aload_n 0, 1, [], 0), (89, .iload_n 1, 1, [], 0), (90, .iconst 4, 1, [], 4)]
def rt_144_2 : List rI := [(91, .invokevirtual 185, 3, [103, 2, 0, 1014], 0), (94, .ireturn, 1, [], 0), (95, .aload_n 0, 1, [], 0), (96, .iload_n 1, 1, [], 0), (97, .bipush 16, 2, [], 16), (99, .invokevirtual 164, 3, [102, 2, 0, 1002], 0), (102, .ireturn, 1, [], 0), (103, .aload_n 0, 1, [], 0), (104, .iload_n 1, 1, [], 0), (105, .bipush 6, 2, [], 6), (107, .bipush 10, 2, [], 10), (109, .aload_n 0, 1, [], 0), (110, .iload_n 1, 1, [], 0), (111, .iconst 2, 1, [], 2), (112, .invokevirtual 164, 3, [102, 2, 0, 1002], 0), (115, .imul, 1, [], 0)]
def rt_144_3 : List rI := [(116, .iadd, 1, [], 0), (117, .invokevirtual 164, 3, [102, 2, 0, 1002], 0), (120, .ireturn, 1, [], 0), (121, .aload_n 0, 1, [], 0), (122, .iload_n 1, 1, [], 0), (123, .bipush 8, 2, [], 8), (125, .invokevirtual 185, 3, [103, 2, 0, 1014], 0), (128, .ireturn, 1, [], 0), (129, .iconst 0, 1, [], 0), (130, .ireturn, 1, [], 0)]
def rt_144 : List (List rI) := [rt_144_0, rt_144_1, rt_144_2, rt_144_3]
def rt_145_0 : List rI := [(0, .aload_n 0, 1, [], 0), (1, .getfield 125, 3, [7, 15, 804], 0), (4, .ifCond .eq 6, 3, [5], 0), (7, .bipush (-2), 2, [], (-2)), (9, .ireturn, 1, [], 0), (10, .iload_n 1, 1, [], 0), (11, .invokestatic 279, 3, [127, 1, 1, 956], 0), (14, .ifCond .eq 20, 3, [17], 0), (17, .iload_n 2, 1, [], 0), (18, .ifCond .lt 16, 3, [17], 0), (21, .iload_n 2, 1, [], 0), (22, .iconst 3, 1, [], 3), (23, .if_icmp .gt 11, 3, [17], 0), (26, .aload_n 0, 1, [], 0), (27, .iload_n 1, 1, [], 0), (28, .invokevirtual 188, 3, [107, 1, 0, 1043], 0)]
def rt_145_1 : List rI := [(31, .ifCond .ne 5, 3, [19], 0), (34, .iconst (-1), 1, [], (-1)), (35, .ireturn, 1, [], 0), (36, .iload_n 2, 1, [], 0), (37, .ifCond .ne 10, 3, [24], 0), (40, .aload_n 0, 1, [], 0), (41, .getfield 167, 3, [7, 46, 835], 0), (44, .goto 39, 3, [42], 0), (47, .iload_n 2, 1, [], 0), (48, .iconst 1, 1, [], 1), (49, .if_icmp .ne 10, 3, [30], 0), (52, .aload_n 0, 1, [], 0), (53, .getfield 173, 3, [7, 47, 836], 0), (56, .goto 27, 3, [42], 0), (59, .iload_n 2, 1, [], 0), (60, .iconst 2, 1, [], 2)]
def rt_145_2 : List rI := [(61, .if_icmp .ne 10, 3, [36], 0), (64, .aload_n 0, 1, [], 0), (65, .getfield 176, 3, [7, 48, 837], 0), (68, .goto 15, 3, [42], 0), (71, .aload_n 0, 1, [], 0), (72, .getfield 170, 3, [7, 49, 838], 0), (75, .ifCond .eq 7, 3, [41], 0), (78, .iconst 1, 1, [], 1), (79, .goto 4, 3, [42], 0), (82, .iconst 0, 1, [], 0), (83, .ireturn, 1, [], 0)]
def rt_145 : List (List rI) := [rt_145_0, rt_145_1, rt_145_2]
def rt_146_0 : List rI := [(0, .iload_n 1, 1, [], 0), (1, .ifCond .lt 42, 3, [25], 0), (4, .iload_n 1, 1, [], 0), (5, .iconst 3, 1, [], 3), (6, .if_icmp .ge 37, 3, [25], 0), (9, .iload_n 2, 1, [], 0), (10, .ifCond .lt 33, 3, [25], 0), (13, .iload_n 2, 1, [], 0), (14, .aload_n 0, 1, [], 0), (15, .getfield 13, 3, [7, 2, 791], 0), (18, .iload_n 1, 1, [], 0), (19, .iaload, 1, [], 0), (20, .if_icmp .ge 23, 3, [25], 0), (23, .aload_n 0, 1, [], 0), (24, .getfield 16, 3, [7, 3, 792], 0), (27, .aload_n 0, 1, [], 0)]
def rt_146_1 : List rI := [(28, .getfield 7, 3, [7, 1, 790], 0), (31, .iload_n 1, 1, [], 0), (32, .iaload, 1, [], 0), (33, .iload_n 2, 1, [], 0), (34, .iadd, 1, [], 0), (35, .baload, 1, [], 0), (36, .sipush 255, 3, [], 255), (39, .iand, 1, [], 0), (40, .goto 4, 3, [26], 0), (43, .iconst (-1), 1, [], (-1)), (44, .ireturn, 1, [], 0)]
def rt_146 : List (List rI) := [rt_146_0, rt_146_1]
def rt_147_0 : List rI := [(0, .aload_n 0, 1, [], 0), (1, .getfield 125, 3, [7, 15, 804], 0), (4, .ifCond .eq 8, 3, [5], 0), (7, .bipush (-2), 2, [], (-2)), (9, .goto 4, 3, [6], 0), (12, .iconst 1, 1, [], 1), (13, .ireturn, 1, [], 0)]
def rt_147 : List (List rI) := [rt_147_0]
def rt_148_0 : List rI := [(0, .iload_n 1, 1, [], 0), (1, .aload_n 0, 1, [], 0), (2, .arraylength, 1, [], 0), (3, .if_icmp .ge 9, 3, [8], 0), (6, .aload_n 0, 1, [], 0), (7, .iload_n 1, 1, [], 0), (8, .iaload, 1, [], 0), (9, .goto 4, 3, [9], 0), (12, .iconst 0, 1, [], 0), (13, .ireturn, 1, [], 0)]
def rt_148 : List (List rI) := [rt_148_0]
def rt_149_0 : List rI := [(0, .new 7, 3, [6, 68, 69, 58], 0), (3, .dup, 1, [], 0), (4, .aload_n 0, 1, [], 0), (5, .iconst 0, 1, [], 0), (6, .invokestatic 9, 3, [148, 2, 1, 731], 0), (9, .invokespecial 15, 3, [57, 1, 3, 70], 0), (12, .astore_n 1, 1, [], 0), (13, .new 18, 3, [7, 734, 735, 66], 0), (16, .dup, 1, [], 0), (17, .aload_n 0, 1, [], 0), (18, .iconst 0, 1, [], 0), (19, .invokestatic 9, 3, [148, 2, 1, 731], 0), (22, .invokespecial 20, 3, [88, 1, 3, 736], 0), (25, .astore_n 2, 1, [], 0), (26, .iconst 1, 1, [], 1), (27, .istore_n 3, 1, [], 0)]
def rt_149_1 : List rI := [(28, .iload_n 3, 1, [], 0), (29, .aload_n 0, 1, [], 0), (30, .arraylength, 1, [], 0), (31, .iconst 4, 1, [], 4), (32, .isub, 1, [], 0), (33, .if_icmp .gt 616, 3, [401], 0), (36, .aload_n 0, 1, [], 0), (37, .iload_n 3, 1, [], 0), (38, .iaload, 1, [], 0), (39, .bipush 31, 2, [], 31), (41, .iand, 1, [], 0), (42, .tableswitch 601 0 20 #[98, 161, 184, 207, 220, 233, 246, 269, 292, 315, 328, 341, 364, 397, 440, 453, 466, 489, 522, 555, 588], 98, [399, 28, 79, 96, 113, 120, 127, 134, 151, 168, 185, 192, 199, 216, 243, 280, 287, 294, 311, 338, 365, 392], 0), (140, .aload_n 1, 1, [], 0), (141, .aload_n 0, 1, [], 0), (142, .iload_n 3, 1, [], 0), (143, .iconst 1, 1, [], 1)]
def rt_149_2 : List rI := [(144, .iadd, 1, [], 0), (145, .iaload, 1, [], 0), (146, .i2l, 1, [], 0), (147, .bipush 32, 2, [], 32), (149, .lshl, 1, [], 0), (150, .aload_n 0, 1, [], 0), (151, .iload_n 3, 1, [], 0), (152, .iconst 2, 1, [], 2), (153, .iadd, 1, [], 0), (154, .iaload, 1, [], 0), (155, .i2l, 1, [], 0), (156, .ldc2_w 21, 3, [4294967295, 1131], 0), (159, .land, 1, [], 0), (160, .lor, 1, [], 0), (161, .aload_n 0, 1, [], 0), (162, .iload_n 3, 1, [], 0)]
def rt_149_3 : List rI := [(163, .iconst 3, 1, [], 3), (164, .iadd, 1, [], 0), (165, .iaload, 1, [], 0), (166, .invokevirtual 23, 3, [58, 2, 0, 458], 0), (169, .aload_n 2, 1, [], 0), (170, .aload_n 0, 1, [], 0), (171, .iload_n 3, 1, [], 0), (172, .iconst 1, 1, [], 1), (173, .iadd, 1, [], 0), (174, .iaload, 1, [], 0), (175, .i2l, 1, [], 0), (176, .bipush 32, 2, [], 32), (178, .lshl, 1, [], 0), (179, .aload_n 0, 1, [], 0), (180, .iload_n 3, 1, [], 0), (181, .iconst 2, 1, [], 2)]
def rt_149_4 : List rI := [(182, .iadd, 1, [], 0), (183, .iaload, 1, [], 0), (184, .i2l, 1, [], 0), (185, .ldc2_w 21, 3, [4294967295, 1131], 0), (188, .land, 1, [], 0), (189, .lor, 1, [], 0), (190, .aload_n 0, 1, [], 0), (191, .iload_n 3, 1, [], 0), (192, .iconst 3, 1, [], 3), (193, .iadd, 1, [], 0), (194, .iaload, 1, [], 0), (195, .invokevirtual 27, 3, [128, 2, 0, 948], 0), (198, .if_icmp .eq 445, 3, [399], 0), (201, .iconst 0, 1, [], 0), (202, .ireturn, 1, [], 0), (203, .aload_n 1, 1, [], 0)]
def rt_149_5 : List rI := [(204, .aload_n 0, 1, [], 0), (205, .iload_n 3, 1, [], 0), (206, .iconst 1, 1, [], 1), (207, .iadd, 1, [], 0), (208, .iaload, 1, [], 0), (209, .invokevirtual 28, 3, [59, 1, 0, 462], 0), (212, .aload_n 2, 1, [], 0), (213, .aload_n 0, 1, [], 0), (214, .iload_n 3, 1, [], 0), (215, .iconst 1, 1, [], 1), (216, .iadd, 1, [], 0), (217, .iaload, 1, [], 0), (218, .invokevirtual 32, 3, [129, 1, 0, 952], 0), (221, .if_icmp .eq 422, 3, [399], 0), (224, .iconst 0, 1, [], 0), (225, .ireturn, 1, [], 0)]
def rt_149_6 : List rI := [(226, .aload_n 1, 1, [], 0), (227, .aload_n 0, 1, [], 0), (228, .iload_n 3, 1, [], 0), (229, .iconst 1, 1, [], 1), (230, .iadd, 1, [], 0), (231, .iaload, 1, [], 0), (232, .invokevirtual 33, 3, [60, 1, 0, 606], 0), (235, .aload_n 2, 1, [], 0), (236, .aload_n 0, 1, [], 0), (237, .iload_n 3, 1, [], 0), (238, .iconst 1, 1, [], 1), (239, .iadd, 1, [], 0), (240, .iaload, 1, [], 0), (241, .invokevirtual 36, 3, [130, 1, 0, 1055], 0), (244, .if_icmp .eq 399, 3, [399], 0), (247, .iconst 0, 1, [], 0)]
def rt_149_7 : List rI := [(248, .ireturn, 1, [], 0), (249, .aload_n 1, 1, [], 0), (250, .invokevirtual 37, 3, [61, 0, 0, 615], 0), (253, .aload_n 2, 1, [], 0), (254, .invokevirtual 41, 3, [131, 0, 0, 1063], 0), (257, .if_icmp .eq 386, 3, [399], 0), (260, .iconst 0, 1, [], 0), (261, .ireturn, 1, [], 0), (262, .aload_n 1, 1, [], 0), (263, .invokevirtual 42, 3, [62, 0, 0, 619], 0), (266, .aload_n 2, 1, [], 0), (267, .invokevirtual 45, 3, [132, 0, 0, 1067], 0), (270, .if_icmp .eq 373, 3, [399], 0), (273, .iconst 0, 1, [], 0), (274, .ireturn, 1, [], 0), (275, .aload_n 1, 1, [], 0)]
def rt_149_8 : List rI := [(276, .invokevirtual 46, 3, [63, 0, 0, 623], 0), (279, .aload_n 2, 1, [], 0), (280, .invokevirtual 49, 3, [133, 0, 0, 1071], 0), (283, .if_icmp .eq 360, 3, [399], 0), (286, .iconst 0, 1, [], 0), (287, .ireturn, 1, [], 0), (288, .aload_n 1, 1, [], 0), (289, .aload_n 0, 1, [], 0), (290, .iload_n 3, 1, [], 0), (291, .iconst 1, 1, [], 1), (292, .iadd, 1, [], 0), (293, .iaload, 1, [], 0), (294, .invokevirtual 50, 3, [64, 1, 0, 627], 0), (297, .aload_n 2, 1, [], 0), (298, .aload_n 0, 1, [], 0), (299, .iload_n 3, 1, [], 0)]
def rt_149_9 : List rI := [(300, .iconst 1, 1, [], 1), (301, .iadd, 1, [], 0), (302, .iaload, 1, [], 0), (303, .invokevirtual 53, 3, [134, 1, 0, 1075], 0), (306, .if_icmp .eq 337, 3, [399], 0), (309, .iconst 0, 1, [], 0), (310, .ireturn, 1, [], 0), (311, .aload_n 1, 1, [], 0), (312, .aload_n 0, 1, [], 0), (313, .iload_n 3, 1, [], 0), (314, .iconst 1, 1, [], 1), (315, .iadd, 1, [], 0), (316, .iaload, 1, [], 0), (317, .invokevirtual 54, 3, [65, 1, 0, 632], 0), (320, .aload_n 2, 1, [], 0), (321, .aload_n 0, 1, [], 0)]
def rt_149_10 : List rI := [(322, .iload_n 3, 1, [], 0), (323, .iconst 1, 1, [], 1), (324, .iadd, 1, [], 0), (325, .iaload, 1, [], 0), (326, .invokevirtual 57, 3, [135, 1, 0, 1079], 0), (329, .if_icmp .eq 314, 3, [399], 0), (332, .iconst 0, 1, [], 0), (333, .ireturn, 1, [], 0), (334, .aload_n 1, 1, [], 0), (335, .aload_n 0, 1, [], 0), (336, .iload_n 3, 1, [], 0), (337, .iconst 1, 1, [], 1), (338, .iadd, 1, [], 0), (339, .iaload, 1, [], 0), (340, .invokevirtual 58, 3, [66, 1, 0, 636], 0), (343, .aload_n 2, 1, [], 0)]
def rt_149_11 : List rI := [(344, .aload_n 0, 1, [], 0), (345, .iload_n 3, 1, [], 0), (346, .iconst 1, 1, [], 1), (347, .iadd, 1, [], 0), (348, .iaload, 1, [], 0), (349, .invokevirtual 61, 3, [136, 1, 0, 1083], 0), (352, .if_icmp .eq 291, 3, [399], 0), (355, .iconst 0, 1, [], 0), (356, .ireturn, 1, [], 0), (357, .aload_n 1, 1, [], 0), (358, .invokevirtual 62, 3, [67, 0, 0, 645], 0), (361, .aload_n 2, 1, [], 0), (362, .invokevirtual 65, 3, [137, 0, 0, 1087], 0), (365, .if_icmp .eq 278, 3, [399], 0), (368, .iconst 0, 1, [], 0), (369, .ireturn, 1, [], 0)]
def rt_149_12 : List rI := [(370, .aload_n 1, 1, [], 0), (371, .invokevirtual 66, 3, [68, 0, 0, 650], 0), (374, .aload_n 2, 1, [], 0), (375, .invokevirtual 69, 3, [138, 0, 0, 1091], 0), (378, .if_icmp .eq 265, 3, [399], 0), (381, .iconst 0, 1, [], 0), (382, .ireturn, 1, [], 0), (383, .aload_n 1, 1, [], 0), (384, .aload_n 0, 1, [], 0), (385, .iload_n 3, 1, [], 0), (386, .iconst 1, 1, [], 1), (387, .iadd, 1, [], 0), (388, .iaload, 1, [], 0), (389, .invokevirtual 70, 3, [69, 1, 0, 655], 0), (392, .aload_n 2, 1, [], 0), (393, .aload_n 0, 1, [], 0)]
def rt_149_13 : List rI := [(394, .iload_n 3, 1, [], 0), (395, .iconst 1, 1, [], 1), (396, .iadd, 1, [], 0), (397, .iaload, 1, [], 0), (398, .invokevirtual 73, 3, [139, 1, 0, 1095], 0), (401, .if_icmp .eq 242, 3, [399], 0), (404, .iconst 0, 1, [], 0), (405, .ireturn, 1, [], 0), (406, .aload_n 1, 1, [], 0), (407, .aload_n 0, 1, [], 0), (408, .iload_n 3, 1, [], 0), (409, .iconst 1, 1, [], 1), (410, .iadd, 1, [], 0), (411, .iaload, 1, [], 0), (412, .aload_n 0, 1, [], 0), (413, .iload_n 3, 1, [], 0)]
def rt_149_14 : List rI := [(414, .iconst 2, 1, [], 2), (415, .iadd, 1, [], 0), (416, .iaload, 1, [], 0), (417, .invokevirtual 74, 3, [70, 2, 0, 660], 0), (420, .aload_n 2, 1, [], 0), (421, .aload_n 0, 1, [], 0), (422, .iload_n 3, 1, [], 0), (423, .iconst 1, 1, [], 1), (424, .iadd, 1, [], 0), (425, .iaload, 1, [], 0), (426, .aload_n 0, 1, [], 0), (427, .iload_n 3, 1, [], 0), (428, .iconst 2, 1, [], 2), (429, .iadd, 1, [], 0), (430, .iaload, 1, [], 0), (431, .invokevirtual 78, 3, [140, 2, 0, 1099], 0)]
def rt_149_15 : List rI := [(434, .if_icmp .eq 209, 3, [399], 0), (437, .iconst 0, 1, [], 0), (438, .ireturn, 1, [], 0), (439, .aload_n 1, 1, [], 0), (440, .aload_n 0, 1, [], 0), (441, .iload_n 3, 1, [], 0), (442, .iconst 1, 1, [], 1), (443, .iadd, 1, [], 0), (444, .iaload, 1, [], 0), (445, .aload_n 0, 1, [], 0), (446, .iload_n 3, 1, [], 0), (447, .iconst 2, 1, [], 2), (448, .iadd, 1, [], 0), (449, .iaload, 1, [], 0), (450, .aload_n 0, 1, [], 0), (451, .iload_n 3, 1, [], 0)]
def rt_149_16 : List rI := [(452, .iconst 3, 1, [], 3), (453, .iadd, 1, [], 0), (454, .iaload, 1, [], 0), (455, .invokevirtual 79, 3, [71, 3, 0, 664], 0), (458, .aload_n 2, 1, [], 0), (459, .aload_n 0, 1, [], 0), (460, .iload_n 3, 1, [], 0), (461, .iconst 1, 1, [], 1), (462, .iadd, 1, [], 0), (463, .iaload, 1, [], 0), (464, .aload_n 0, 1, [], 0), (465, .iload_n 3, 1, [], 0), (466, .iconst 2, 1, [], 2), (467, .iadd, 1, [], 0), (468, .iaload, 1, [], 0), (469, .aload_n 0, 1, [], 0)]
def rt_149_17 : List rI := [(470, .iload_n 3, 1, [], 0), (471, .iconst 3, 1, [], 3), (472, .iadd, 1, [], 0), (473, .iaload, 1, [], 0), (474, .invokevirtual 83, 3, [141, 3, 0, 1103], 0), (477, .if_icmp .eq 166, 3, [399], 0), (480, .iconst 0, 1, [], 0), (481, .ireturn, 1, [], 0), (482, .aload_n 1, 1, [], 0), (483, .invokevirtual 84, 3, [72, 0, 0, 668], 0), (486, .aload_n 2, 1, [], 0), (487, .invokevirtual 87, 3, [142, 0, 0, 1107], 0), (490, .if_icmp .eq 153, 3, [399], 0), (493, .iconst 0, 1, [], 0), (494, .ireturn, 1, [], 0), (495, .aload_n 1, 1, [], 0)]
def rt_149_18 : List rI := [(496, .invokevirtual 88, 3, [73, 0, 0, 672], 0), (499, .aload_n 2, 1, [], 0), (500, .invokevirtual 91, 3, [126, 0, 0, 944], 0), (503, .if_icmp .eq 140, 3, [399], 0), (506, .iconst 0, 1, [], 0), (507, .ireturn, 1, [], 0), (508, .aload_n 1, 1, [], 0), (509, .aload_n 0, 1, [], 0), (510, .iload_n 3, 1, [], 0), (511, .iconst 1, 1, [], 1), (512, .iadd, 1, [], 0), (513, .iaload, 1, [], 0), (514, .invokevirtual 92, 3, [74, 1, 0, 677], 0), (517, .aload_n 2, 1, [], 0), (518, .aload_n 0, 1, [], 0), (519, .iload_n 3, 1, [], 0)]
def rt_149_19 : List rI := [(520, .iconst 1, 1, [], 1), (521, .iadd, 1, [], 0), (522, .iaload, 1, [], 0), (523, .invokevirtual 95, 3, [143, 1, 0, 1111], 0), (526, .if_icmp .eq 117, 3, [399], 0), (529, .iconst 0, 1, [], 0), (530, .ireturn, 1, [], 0), (531, .aload_n 1, 1, [], 0), (532, .aload_n 0, 1, [], 0), (533, .iload_n 3, 1, [], 0), (534, .iconst 1, 1, [], 1), (535, .iadd, 1, [], 0), (536, .iaload, 1, [], 0), (537, .aload_n 0, 1, [], 0), (538, .iload_n 3, 1, [], 0), (539, .iconst 2, 1, [], 2)]
def rt_149_20 : List rI := [(540, .iadd, 1, [], 0), (541, .iaload, 1, [], 0), (542, .invokevirtual 96, 3, [75, 2, 0, 690], 0), (545, .aload_n 2, 1, [], 0), (546, .aload_n 0, 1, [], 0), (547, .iload_n 3, 1, [], 0), (548, .iconst 1, 1, [], 1), (549, .iadd, 1, [], 0), (550, .iaload, 1, [], 0), (551, .aload_n 0, 1, [], 0), (552, .iload_n 3, 1, [], 0), (553, .iconst 2, 1, [], 2), (554, .iadd, 1, [], 0), (555, .iaload, 1, [], 0), (556, .invokevirtual 99, 3, [144, 2, 0, 1115], 0), (559, .if_icmp .eq 84, 3, [399], 0)]
def rt_149_21 : List rI := [(562, .iconst 0, 1, [], 0), (563, .ireturn, 1, [], 0), (564, .aload_n 1, 1, [], 0), (565, .aload_n 0, 1, [], 0), (566, .iload_n 3, 1, [], 0), (567, .iconst 1, 1, [], 1), (568, .iadd, 1, [], 0), (569, .iaload, 1, [], 0), (570, .aload_n 0, 1, [], 0), (571, .iload_n 3, 1, [], 0), (572, .iconst 2, 1, [], 2), (573, .iadd, 1, [], 0), (574, .iaload, 1, [], 0), (575, .invokevirtual 100, 3, [76, 2, 0, 697], 0), (578, .aload_n 2, 1, [], 0), (579, .aload_n 0, 1, [], 0)]
def rt_149_22 : List rI := [(580, .iload_n 3, 1, [], 0), (581, .iconst 1, 1, [], 1), (582, .iadd, 1, [], 0), (583, .iaload, 1, [], 0), (584, .aload_n 0, 1, [], 0), (585, .iload_n 3, 1, [], 0), (586, .iconst 2, 1, [], 2), (587, .iadd, 1, [], 0), (588, .iaload, 1, [], 0), (589, .invokevirtual 103, 3, [145, 2, 0, 1119], 0), (592, .if_icmp .eq 51, 3, [399], 0), (595, .iconst 0, 1, [], 0), (596, .ireturn, 1, [], 0), (597, .aload_n 1, 1, [], 0), (598, .aload_n 0, 1, [], 0), (599, .iload_n 3, 1, [], 0)]
def rt_149_23 : List rI := [(600, .iconst 1, 1, [], 1), (601, .iadd, 1, [], 0), (602, .iaload, 1, [], 0), (603, .aload_n 0, 1, [], 0), (604, .iload_n 3, 1, [], 0), (605, .iconst 2, 1, [], 2), (606, .iadd, 1, [], 0), (607, .iaload, 1, [], 0), (608, .invokevirtual 104, 3, [77, 2, 0, 701], 0), (611, .aload_n 2, 1, [], 0), (612, .aload_n 0, 1, [], 0), (613, .iload_n 3, 1, [], 0), (614, .iconst 1, 1, [], 1), (615, .iadd, 1, [], 0), (616, .iaload, 1, [], 0), (617, .aload_n 0, 1, [], 0)]
def rt_149_24 : List rI := [(618, .iload_n 3, 1, [], 0), (619, .iconst 2, 1, [], 2), (620, .iadd, 1, [], 0), (621, .iaload, 1, [], 0), (622, .invokevirtual 106, 3, [146, 2, 0, 1123], 0), (625, .if_icmp .eq 18, 3, [399], 0), (628, .iconst 0, 1, [], 0), (629, .ireturn, 1, [], 0), (630, .aload_n 1, 1, [], 0), (631, .invokevirtual 107, 3, [78, 0, 0, 711], 0), (634, .aload_n 2, 1, [], 0), (635, .invokevirtual 110, 3, [147, 0, 0, 1127], 0), (638, .if_icmp .eq 5, 3, [399], 0), (641, .iconst 0, 1, [], 0), (642, .ireturn, 1, [], 0), (643, .iinc 3 4, 3, [], 4)]
def rt_149_25 : List rI := [(646, .goto (-618), 3, [16], 0), (649, .iconst 1, 1, [], 1), (650, .ireturn, 1, [], 0)]
def rt_149 : List (List rI) := [rt_149_0, rt_149_1, rt_149_2, rt_149_3, rt_149_4, rt_149_5, rt_149_6, rt_149_7, rt_149_8, rt_149_9, rt_149_10, rt_149_11, rt_149_12, rt_149_13, rt_149_14, rt_149_15, rt_149_16, rt_149_17, rt_149_18, rt_149_19, rt_149_20, rt_149_21, rt_149_22, rt_149_23, rt_149_24, rt_149_25]
def rw_0 : List Cond := [.selects "TrailStore$View" ⟨"TrailStore$View", "loadRoot", "()V"⟩ ⟨"TrailStore$View", "loadRoot", "()V"⟩, .selects "TrailStore$View" ⟨"TrailStore$View", "loadRootAt", "(I)V"⟩ ⟨"TrailStore$View", "loadRootAt", "(I)V"⟩, .selects "TrailStore$View" ⟨"TrailStore$View", "takeRecordsBefore", "(I)V"⟩ ⟨"TrailStore$View", "takeRecordsBefore", "(I)V"⟩, .selects "TrailStore$Disk" ⟨"TrailStore$Disk", "isInside", "(II)Z"⟩ ⟨"TrailStore$Disk", "isInside", "(II)Z"⟩, .selects "TrailStore$Disk" ⟨"TrailStore$Disk", "cellBehind", "(I)I"⟩ ⟨"TrailStore$Disk", "cellBehind", "(I)I"⟩, .selects "TrailStore$Keeper" ⟨"TrailStore$Keeper", "writeTable", "(ILTrailStore$Entries;I)V"⟩ ⟨"TrailStore$Keeper", "writeTable", "(ILTrailStore$Entries;I)V"⟩, .selects "TrailStore$Keeper" ⟨"TrailStore$Keeper", "leastFreePlace", "()I"⟩ ⟨"TrailStore$Keeper", "leastFreePlace", "()I"⟩, .selects "TrailStore$Keeper" ⟨"TrailStore$Keeper", "writeRoot", "()V"⟩ ⟨"TrailStore$Keeper", "writeRoot", "()V"⟩, .selects "TrailStore$Keeper" ⟨"TrailStore$Keeper", "hasRoom", "(I)Z"⟩ ⟨"TrailStore$Keeper", "hasRoom", "(I)Z"⟩, .selects "TrailStore$View" ⟨"TrailStore$View", "findInTables", "(ILTrailStore$Found;)V"⟩ ⟨"TrailStore$View", "findInTables", "(ILTrailStore$Found;)V"⟩, .selects "TrailStore$View" ⟨"TrailStore$View", "entryCell", "(II)I"⟩ ⟨"TrailStore$View", "entryCell", "(II)I"⟩, .selects "TrailStore$Keeper" ⟨"TrailStore$Keeper", "append", "(II[BI)V"⟩ ⟨"TrailStore$Keeper", "append", "(II[BI)V"⟩, .selects "TrailStore$Keeper" ⟨"TrailStore$Keeper", "appendAll", "(LTrailStore$Batch;)V"⟩ ⟨"TrailStore$Keeper", "appendAll", "(LTrailStore$Batch;)V"⟩, .selects "TrailStore" ⟨"TrailStore", "batchOver", "(I)I"⟩ ⟨"TrailStore", "batchOver", "(I)I"⟩, .selects "TrailStore" ⟨"TrailStore", "ended", "(I)I"⟩ ⟨"TrailStore", "ended", "(I)I"⟩, .selects "TrailStore" ⟨"TrailStore", "losePower", "(II)V"⟩ ⟨"TrailStore", "losePower", "(II)V"⟩, .selects "TrailStore" ⟨"TrailStore", "isThere", "(I)Z"⟩ ⟨"TrailStore", "isThere", "(I)Z"⟩, .selects "TrailStore" ⟨"TrailStore", "keysThere", "()I"⟩ ⟨"TrailStore", "keysThere", "()I"⟩, .selects "TrailStore" ⟨"TrailStore", "bytesThere", "()I"⟩ ⟨"TrailStore", "bytesThere", "()I"⟩, .selects "TrailStore" ⟨"TrailStore", "hasItsRecord", "(I)Z"⟩ ⟨"TrailStore", "hasItsRecord", "(I)Z"⟩, .selects "TrailStore" ⟨"TrailStore", "isSameReopened", "(I)Z"⟩ ⟨"TrailStore", "isSameReopened", "(I)Z"⟩, .selects "TrailStoreModel" ⟨"TrailStoreModel", "openDisk", "()I"⟩ ⟨"TrailStoreModel", "openDisk", "()I"⟩, .selects "TrailStoreModel" ⟨"TrailStoreModel", "four", "(II)I"⟩ ⟨"TrailStoreModel", "four", "(II)I"⟩, .selects "TrailStoreModel" ⟨"TrailStoreModel", "byteAt", "(II)I"⟩ ⟨"TrailStoreModel", "byteAt", "(II)I"⟩, .selects "TrailStoreModel" ⟨"TrailStoreModel", "placeOf", "(II)I"⟩ ⟨"TrailStoreModel", "placeOf", "(II)I"⟩, .selects "TrailStoreModel" ⟨"TrailStoreModel", "isRecord", "(II)Z"⟩ ⟨"TrailStoreModel", "isRecord", "(II)Z"⟩, .selects "TrailStoreModel" ⟨"TrailStoreModel", "sizeAt", "(I)I"⟩ ⟨"TrailStoreModel", "sizeAt", "(I)I"⟩, .selects "TrailStoreModel" ⟨"TrailStoreModel", "remember", "(IIII)V"⟩ ⟨"TrailStoreModel", "remember", "(IIII)V"⟩, .selects "TrailStoreModel" ⟨"TrailStoreModel", "clearBuffer", "(I)V"⟩ ⟨"TrailStoreModel", "clearBuffer", "(I)V"⟩, .selects "TrailStoreModel" ⟨"TrailStoreModel", "write", "(III)V"⟩ ⟨"TrailStoreModel", "write", "(III)V"⟩, .selects "TrailStoreModel" ⟨"TrailStoreModel", "powerFails", "(II)V"⟩ ⟨"TrailStoreModel", "powerFails", "(II)V"⟩, .selects "TrailStoreModel" ⟨"TrailStoreModel", "lastWrite", "(II)V"⟩ ⟨"TrailStoreModel", "lastWrite", "(II)V"⟩]
def rw_1 : List Cond := [.selects "TrailStoreModel" ⟨"TrailStoreModel", "syncAll", "()I"⟩ ⟨"TrailStoreModel", "syncAll", "()I"⟩, .selects "TrailStoreModel" ⟨"TrailStoreModel", "lay", "(II)V"⟩ ⟨"TrailStoreModel", "lay", "(II)V"⟩, .selects "TrailStoreModel" ⟨"TrailStoreModel", "writeBatch", "()I"⟩ ⟨"TrailStoreModel", "writeBatch", "()I"⟩, .selects "TrailStoreModel" ⟨"TrailStoreModel", "wouldHave", "()I"⟩ ⟨"TrailStoreModel", "wouldHave", "()I"⟩, .selects "TrailStoreModel" ⟨"TrailStoreModel", "checkpointAll", "()V"⟩ ⟨"TrailStoreModel", "checkpointAll", "()V"⟩, .selects "TrailStoreModel" ⟨"TrailStoreModel", "makeTables", "()V"⟩ ⟨"TrailStoreModel", "makeTables", "()V"⟩, .selects "TrailStoreModel" ⟨"TrailStoreModel", "writeTable", "(I)I"⟩ ⟨"TrailStoreModel", "writeTable", "(I)I"⟩, .selects "TrailStoreModel" ⟨"TrailStoreModel", "put4", "(II)V"⟩ ⟨"TrailStoreModel", "put4", "(II)V"⟩, .selects "TrailStoreModel" ⟨"TrailStoreModel", "insert", "(II)V"⟩ ⟨"TrailStoreModel", "insert", "(II)V"⟩, .selects "TrailStoreModel" ⟨"TrailStoreModel", "countOf", "(I)I"⟩ ⟨"TrailStoreModel", "countOf", "(I)I"⟩, .selects "TrailStoreModel" ⟨"TrailStoreModel", "levelOf", "(I)I"⟩ ⟨"TrailStoreModel", "levelOf", "(I)I"⟩, .selects "TrailStoreModel" ⟨"TrailStoreModel", "tableByte", "(II)I"⟩ ⟨"TrailStoreModel", "tableByte", "(II)I"⟩, .selects "TrailStoreModel" ⟨"TrailStoreModel", "clearNew", "()V"⟩ ⟨"TrailStoreModel", "clearNew", "()V"⟩, .selects "TrailStoreModel" ⟨"TrailStoreModel", "gather", "(I)V"⟩ ⟨"TrailStoreModel", "gather", "(I)V"⟩, .selects "TrailStoreModel" ⟨"TrailStoreModel", "tableFour", "(II)I"⟩ ⟨"TrailStoreModel", "tableFour", "(II)I"⟩, .selects "TrailStoreModel" ⟨"TrailStoreModel", "newCount", "()I"⟩ ⟨"TrailStoreModel", "newCount", "()I"⟩, .selects "TrailStoreModel" ⟨"TrailStoreModel", "drop", "(II)V"⟩ ⟨"TrailStoreModel", "drop", "(II)V"⟩, .selects "TrailStoreModel" ⟨"TrailStoreModel", "writeRoot", "()V"⟩ ⟨"TrailStoreModel", "writeRoot", "()V"⟩, .selects "TrailStoreModel" ⟨"TrailStoreModel", "hasRoom", "(II)Z"⟩ ⟨"TrailStoreModel", "hasRoom", "(II)Z"⟩, .selects "TrailStoreModel" ⟨"TrailStoreModel", "passLog", "()V"⟩ ⟨"TrailStoreModel", "passLog", "()V"⟩, .selects "TrailStoreModel" ⟨"TrailStoreModel", "collecting", "(I)I"⟩ ⟨"TrailStoreModel", "collecting", "(I)I"⟩, .selects "TrailStoreModel" ⟨"TrailStoreModel", "find", "(I)Z"⟩ ⟨"TrailStoreModel", "find", "(I)Z"⟩, .selects "TrailStoreModel" ⟨"TrailStoreModel", "placeIn", "(II)I"⟩ ⟨"TrailStoreModel", "placeIn", "(II)I"⟩, .selects "TrailStoreModel" ⟨"TrailStoreModel", "append", "(III)Z"⟩ ⟨"TrailStoreModel", "append", "(III)Z"⟩, .selects "TrailStoreModel" ⟨"TrailStoreModel", "isThere", "(I)Z"⟩ ⟨"TrailStoreModel", "isThere", "(I)Z"⟩, Jvm.Cond.initialized "TrailStoreLaw", Jvm.Cond.initialized "TrailStore", Jvm.Cond.initialized "TrailStore$Disk", Jvm.Cond.initialized "java/lang/Math", Jvm.Cond.initialized "TrailStore$View", Jvm.Cond.initialized "TrailStore$Entries", Jvm.Cond.initialized "TrailStore$Keeper"]
def rw_2 : List Cond := [Jvm.Cond.initialized "TrailStore$Found", Jvm.Cond.initialized "TrailStore$Batch", Jvm.Cond.initialized "TrailStoreModel", Jvm.Cond.initialized "java/lang/System", Jvm.Cond.classLink "TrailStoreLaw" (7 : Nat) "TrailStore", Jvm.Cond.instantiable "TrailStore" (14 : Nat), Jvm.Cond.methodLink "TrailStoreLaw" (15 : Nat) ({ cls := "TrailStore", name := "<init>", desc := "(I)V" } : Jvm.MethodName), Jvm.Cond.instanceMethod ({ cls := "TrailStore", name := "<init>", desc := "(I)V" } : Jvm.MethodName), Jvm.Cond.code ({ cls := "TrailStore", name := "<init>", desc := "(I)V" } : Jvm.MethodName) prog_1_method_1_code (2 : Nat) (Option.none : Option Jvm.ClassFile.FieldType), Jvm.Cond.methodLink "TrailStore" (1 : Nat) ({ cls := "java/lang/Object", name := "<init>", desc := "()V" } : Jvm.MethodName), Jvm.Cond.instanceMethod ({ cls := "java/lang/Object", name := "<init>", desc := "()V" } : Jvm.MethodName), Jvm.Cond.code ({ cls := "java/lang/Object", name := "<init>", desc := "()V" } : Jvm.MethodName) object_method_1_code (1 : Nat) (Option.none : Option Jvm.ClassFile.FieldType), Jvm.Cond.classLink "TrailStore" (7 : Nat) "TrailStore$Disk", Jvm.Cond.instantiable "TrailStore$Disk" (11 : Nat), Jvm.Cond.methodLink "TrailStore" (11 : Nat) ({ cls := "java/lang/Math", name := "min", desc := "(II)I" } : Jvm.MethodName), Jvm.Cond.static ({ cls := "java/lang/Math", name := "min", desc := "(II)I" } : Jvm.MethodName), Jvm.Cond.code ({ cls := "java/lang/Math", name := "min", desc := "(II)I" } : Jvm.MethodName) prog_10_method_69_code (2 : Nat) (Option.some Jvm.ClassFile.FieldType.int), Jvm.Cond.methodLink "TrailStore" (17 : Nat) ({ cls := "java/lang/Math", name := "max", desc := "(II)I" } : Jvm.MethodName), Jvm.Cond.static ({ cls := "java/lang/Math", name := "max", desc := "(II)I" } : Jvm.MethodName), Jvm.Cond.code ({ cls := "java/lang/Math", name := "max", desc := "(II)I" } : Jvm.MethodName) prog_10_method_65_code (2 : Nat) (Option.some Jvm.ClassFile.FieldType.int), Jvm.Cond.methodLink "TrailStore" (20 : Nat) ({ cls := "TrailStore$Disk", name := "<init>", desc := "(I)V" } : Jvm.MethodName), Jvm.Cond.instanceMethod ({ cls := "TrailStore$Disk", name := "<init>", desc := "(I)V" } : Jvm.MethodName), Jvm.Cond.code ({ cls := "TrailStore$Disk", name := "<init>", desc := "(I)V" } : Jvm.MethodName) prog_3_method_1_code (2 : Nat) (Option.none : Option Jvm.ClassFile.FieldType), Jvm.Cond.methodLink "TrailStore$Disk" (3 : Nat) ({ cls := "java/lang/Object", name := "<init>", desc := "()V" } : Jvm.MethodName), Jvm.Cond.fieldLink "TrailStore$Disk" (9 : Nat) "TrailStore$Disk" "room" "I", Jvm.Cond.fieldLink "TrailStore$View" (45 : Nat) "TrailStore$Disk" "room" "I", Jvm.Cond.fieldLink "TrailStore$Keeper" (123 : Nat) "TrailStore$Disk" "room" "I", Jvm.Cond.fieldLink "TrailStore$Disk" (15 : Nat) "TrailStore$Disk" "cells" "[B", Jvm.Cond.fieldLink "TrailStore$Disk" (19 : Nat) "TrailStore$Disk" "starts" "[I", Jvm.Cond.fieldLink "TrailStore$Disk" (23 : Nat) "TrailStore$Disk" "lengths" "[I", Jvm.Cond.fieldLink "TrailStore$Disk" (26 : Nat) "TrailStore$Disk" "covered" "[B", Jvm.Cond.fieldLink "TrailStore$Disk" (65 : Nat) "TrailStore$Disk" "coveredBytes" "I"]
def rw_3 : List Cond := [Jvm.Cond.fieldLink "TrailStore" (143 : Nat) "TrailStore$Disk" "writes" "I", Jvm.Cond.fieldLink "TrailStore$Disk" (62 : Nat) "TrailStore$Disk" "writes" "I", Jvm.Cond.fieldLink "TrailStore$Disk" (74 : Nat) "TrailStore$Disk" "failsIn" "I", Jvm.Cond.fieldLink "TrailStore" (165 : Nat) "TrailStore$Disk" "failsIn" "I", Jvm.Cond.fieldLink "TrailStore" (168 : Nat) "TrailStore$Disk" "failKeep" "I", Jvm.Cond.fieldLink "TrailStore" (171 : Nat) "TrailStore$Disk" "failCut" "I", Jvm.Cond.fieldLink "TrailStore" (86 : Nat) "TrailStore$Disk" "down" "Z", Jvm.Cond.fieldLink "TrailStore$Keeper" (46 : Nat) "TrailStore$Disk" "down" "Z", Jvm.Cond.fieldLink "TrailStore$Disk" (54 : Nat) "TrailStore$Disk" "down" "Z", Jvm.Cond.laysFinal "TrailStore$Disk" "TrailStore$Disk" "room" "I", Jvm.Cond.soleField "TrailStore$Disk" "room", Jvm.Cond.laysFinal "TrailStore$Disk" "TrailStore$Disk" "cells" "[B", Jvm.Cond.soleField "TrailStore$Disk" "cells", Jvm.Cond.laysFinal "TrailStore$Disk" "TrailStore$Disk" "starts" "[I", Jvm.Cond.soleField "TrailStore$Disk" "starts", Jvm.Cond.laysFinal "TrailStore$Disk" "TrailStore$Disk" "lengths" "[I", Jvm.Cond.soleField "TrailStore$Disk" "lengths", Jvm.Cond.laysFinal "TrailStore$Disk" "TrailStore$Disk" "covered" "[B", Jvm.Cond.soleField "TrailStore$Disk" "covered", Jvm.Cond.lays "TrailStore$Disk" "TrailStore$Disk" "coveredBytes" "I", Jvm.Cond.soleField "TrailStore$Disk" "coveredBytes", Jvm.Cond.lays "TrailStore$Disk" "TrailStore$Disk" "writes" "I", Jvm.Cond.soleField "TrailStore$Disk" "writes", Jvm.Cond.lays "TrailStore$Disk" "TrailStore$Disk" "failsIn" "I", Jvm.Cond.soleField "TrailStore$Disk" "failsIn", Jvm.Cond.lays "TrailStore$Disk" "TrailStore$Disk" "failKeep" "I", Jvm.Cond.soleField "TrailStore$Disk" "failKeep", Jvm.Cond.lays "TrailStore$Disk" "TrailStore$Disk" "failCut" "I", Jvm.Cond.soleField "TrailStore$Disk" "failCut", Jvm.Cond.lays "TrailStore$Disk" "TrailStore$Disk" "down" "Z", Jvm.Cond.soleField "TrailStore$Disk" "down", Jvm.Cond.superclass "TrailStore$Disk" "java/lang/Object"]
def rw_4 : List Cond := [Jvm.Cond.arrayClass Jvm.ClassFile.FieldType.byte, Jvm.Cond.arrayClass Jvm.ClassFile.FieldType.int, Jvm.Cond.classLink "TrailStore" (27 : Nat) "TrailStore$View", Jvm.Cond.instantiable "TrailStore$View" (11 : Nat), Jvm.Cond.methodLink "TrailStore" (29 : Nat) ({ cls := "TrailStore$View", name := "<init>", desc := "(LTrailStore$Disk;)V" } : Jvm.MethodName), Jvm.Cond.instanceMethod ({ cls := "TrailStore$View", name := "<init>", desc := "(LTrailStore$Disk;)V" } : Jvm.MethodName), Jvm.Cond.code ({ cls := "TrailStore$View", name := "<init>", desc := "(LTrailStore$Disk;)V" } : Jvm.MethodName) prog_7_method_1_code (2 : Nat) (Option.none : Option Jvm.ClassFile.FieldType), Jvm.Cond.methodLink "TrailStore$View" (3 : Nat) ({ cls := "java/lang/Object", name := "<init>", desc := "()V" } : Jvm.MethodName), Jvm.Cond.classLink "TrailStore$View" (9 : Nat) "TrailStore$Entries", Jvm.Cond.instantiable "TrailStore$Entries" (4 : Nat), Jvm.Cond.methodLink "TrailStore$View" (11 : Nat) ({ cls := "TrailStore$Entries", name := "<init>", desc := "()V" } : Jvm.MethodName), Jvm.Cond.instanceMethod ({ cls := "TrailStore$Entries", name := "<init>", desc := "()V" } : Jvm.MethodName), Jvm.Cond.code ({ cls := "TrailStore$Entries", name := "<init>", desc := "()V" } : Jvm.MethodName) prog_4_method_1_code (1 : Nat) (Option.none : Option Jvm.ClassFile.FieldType), Jvm.Cond.methodLink "TrailStore$Entries" (3 : Nat) ({ cls := "java/lang/Object", name := "<init>", desc := "()V" } : Jvm.MethodName), Jvm.Cond.fieldLink "TrailStore$Entries" (9 : Nat) "TrailStore$Entries" "kind" "[I", Jvm.Cond.fieldLink "TrailStore$Keeper" (174 : Nat) "TrailStore$Entries" "kind" "[I", Jvm.Cond.fieldLink "TrailStore$View" (118 : Nat) "TrailStore$Entries" "kind" "[I", Jvm.Cond.fieldLink "TrailStore" (140 : Nat) "TrailStore$Entries" "kind" "[I", Jvm.Cond.fieldLink "TrailStore$Entries" (15 : Nat) "TrailStore$Entries" "number" "[I", Jvm.Cond.fieldLink "TrailStore$Keeper" (178 : Nat) "TrailStore$Entries" "number" "[I", Jvm.Cond.fieldLink "TrailStore$View" (123 : Nat) "TrailStore$Entries" "number" "[I", Jvm.Cond.fieldLink "TrailStore" (246 : Nat) "TrailStore$Entries" "number" "[I", Jvm.Cond.fieldLink "TrailStore$Entries" (18 : Nat) "TrailStore$Entries" "where" "[I", Jvm.Cond.fieldLink "TrailStore$Keeper" (175 : Nat) "TrailStore$Entries" "where" "[I", Jvm.Cond.fieldLink "TrailStore$View" (128 : Nat) "TrailStore$Entries" "where" "[I", Jvm.Cond.fieldLink "TrailStore" (241 : Nat) "TrailStore$Entries" "where" "[I", Jvm.Cond.fieldLink "TrailStore$Entries" (21 : Nat) "TrailStore$Entries" "count" "I", Jvm.Cond.fieldLink "TrailStore$Keeper" (137 : Nat) "TrailStore$Entries" "count" "I", Jvm.Cond.fieldLink "TrailStore" (201 : Nat) "TrailStore$Entries" "count" "I", Jvm.Cond.laysFinal "TrailStore$Entries" "TrailStore$Entries" "kind" "[I", Jvm.Cond.soleField "TrailStore$Entries" "kind", Jvm.Cond.laysFinal "TrailStore$Entries" "TrailStore$Entries" "number" "[I"]
def rw_5 : List Cond := [Jvm.Cond.soleField "TrailStore$Entries" "number", Jvm.Cond.laysFinal "TrailStore$Entries" "TrailStore$Entries" "where" "[I", Jvm.Cond.soleField "TrailStore$Entries" "where", Jvm.Cond.lays "TrailStore$Entries" "TrailStore$Entries" "count" "I", Jvm.Cond.soleField "TrailStore$Entries" "count", Jvm.Cond.superclass "TrailStore$Entries" "java/lang/Object", Jvm.Cond.fieldLink "TrailStore$View" (22 : Nat) "TrailStore$View" "disk" "LTrailStore$Disk;", Jvm.Cond.fieldLink "TrailStore$View" (12 : Nat) "TrailStore$View" "memory" "LTrailStore$Entries;", Jvm.Cond.fieldLink "TrailStore$Keeper" (78 : Nat) "TrailStore$View" "memory" "LTrailStore$Entries;", Jvm.Cond.fieldLink "TrailStore" (198 : Nat) "TrailStore$View" "memory" "LTrailStore$Entries;", Jvm.Cond.fieldLink "TrailStore$View" (18 : Nat) "TrailStore$View" "places" "[I", Jvm.Cond.fieldLink "TrailStore$Keeper" (199 : Nat) "TrailStore$View" "places" "[I", Jvm.Cond.fieldLink "TrailStore" (217 : Nat) "TrailStore$View" "places" "[I", Jvm.Cond.fieldLink "TrailStore$View" (74 : Nat) "TrailStore$View" "tables" "I", Jvm.Cond.fieldLink "TrailStore$Keeper" (196 : Nat) "TrailStore$View" "tables" "I", Jvm.Cond.fieldLink "TrailStore" (152 : Nat) "TrailStore$View" "tables" "I", Jvm.Cond.fieldLink "TrailStore$View" (68 : Nat) "TrailStore$View" "version" "I", Jvm.Cond.fieldLink "TrailStore$Keeper" (193 : Nat) "TrailStore$View" "version" "I", Jvm.Cond.fieldLink "TrailStore" (195 : Nat) "TrailStore$View" "version" "I", Jvm.Cond.fieldLink "TrailStore$View" (32 : Nat) "TrailStore$View" "checkpoint" "I", Jvm.Cond.fieldLink "TrailStore$Keeper" (161 : Nat) "TrailStore$View" "checkpoint" "I", Jvm.Cond.fieldLink "TrailStore" (189 : Nat) "TrailStore$View" "checkpoint" "I", Jvm.Cond.fieldLink "TrailStore$View" (39 : Nat) "TrailStore$View" "checkpointNumber" "I", Jvm.Cond.fieldLink "TrailStore$Keeper" (164 : Nat) "TrailStore$View" "checkpointNumber" "I", Jvm.Cond.fieldLink "TrailStore$View" (58 : Nat) "TrailStore$View" "tail" "I", Jvm.Cond.fieldLink "TrailStore$Keeper" (92 : Nat) "TrailStore$View" "tail" "I", Jvm.Cond.fieldLink "TrailStore" (186 : Nat) "TrailStore$View" "tail" "I", Jvm.Cond.fieldLink "TrailStore$View" (36 : Nat) "TrailStore$View" "head" "I", Jvm.Cond.fieldLink "TrailStore$Keeper" (58 : Nat) "TrailStore$View" "head" "I", Jvm.Cond.fieldLink "TrailStore" (183 : Nat) "TrailStore$View" "head" "I", Jvm.Cond.fieldLink "TrailStore$View" (42 : Nat) "TrailStore$View" "nextNumber" "I", Jvm.Cond.fieldLink "TrailStore$Keeper" (126 : Nat) "TrailStore$View" "nextNumber" "I"]
def rw_6 : List Cond := [Jvm.Cond.fieldLink "TrailStore" (192 : Nat) "TrailStore$View" "nextNumber" "I", Jvm.Cond.fieldLink "TrailStore$View" (71 : Nat) "TrailStore$View" "nextTable" "I", Jvm.Cond.fieldLink "TrailStore$Keeper" (184 : Nat) "TrailStore$View" "nextTable" "I", Jvm.Cond.fieldLink "TrailStore" (208 : Nat) "TrailStore$View" "nextTable" "I", Jvm.Cond.laysFinal "TrailStore$View" "TrailStore$View" "disk" "LTrailStore$Disk;", Jvm.Cond.soleField "TrailStore$View" "disk", Jvm.Cond.laysFinal "TrailStore$View" "TrailStore$View" "memory" "LTrailStore$Entries;", Jvm.Cond.soleField "TrailStore$View" "memory", Jvm.Cond.laysFinal "TrailStore$View" "TrailStore$View" "places" "[I", Jvm.Cond.soleField "TrailStore$View" "places", Jvm.Cond.lays "TrailStore$View" "TrailStore$View" "tables" "I", Jvm.Cond.soleField "TrailStore$View" "tables", Jvm.Cond.lays "TrailStore$View" "TrailStore$View" "version" "I", Jvm.Cond.soleField "TrailStore$View" "version", Jvm.Cond.lays "TrailStore$View" "TrailStore$View" "checkpoint" "I", Jvm.Cond.soleField "TrailStore$View" "checkpoint", Jvm.Cond.lays "TrailStore$View" "TrailStore$View" "checkpointNumber" "I", Jvm.Cond.soleField "TrailStore$View" "checkpointNumber", Jvm.Cond.lays "TrailStore$View" "TrailStore$View" "tail" "I", Jvm.Cond.soleField "TrailStore$View" "tail", Jvm.Cond.lays "TrailStore$View" "TrailStore$View" "head" "I", Jvm.Cond.soleField "TrailStore$View" "head", Jvm.Cond.lays "TrailStore$View" "TrailStore$View" "nextNumber" "I", Jvm.Cond.soleField "TrailStore$View" "nextNumber", Jvm.Cond.lays "TrailStore$View" "TrailStore$View" "nextTable" "I", Jvm.Cond.soleField "TrailStore$View" "nextTable", Jvm.Cond.superclass "TrailStore$View" "java/lang/Object", Jvm.Cond.classLink "TrailStore" (36 : Nat) "TrailStore$Keeper", Jvm.Cond.instantiable "TrailStore$Keeper" (9 : Nat), Jvm.Cond.methodLink "TrailStore" (38 : Nat) ({ cls := "TrailStore$Keeper", name := "<init>", desc := "(LTrailStore$Disk;LTrailStore$View;)V" } : Jvm.MethodName), Jvm.Cond.instanceMethod ({ cls := "TrailStore$Keeper", name := "<init>", desc := "(LTrailStore$Disk;LTrailStore$View;)V" } : Jvm.MethodName), Jvm.Cond.code ({ cls := "TrailStore$Keeper", name := "<init>", desc := "(LTrailStore$Disk;LTrailStore$View;)V" } : Jvm.MethodName) prog_6_method_1_code (3 : Nat) (Option.none : Option Jvm.ClassFile.FieldType)]
def rw_7 : List Cond := [Jvm.Cond.methodLink "TrailStore$Keeper" (3 : Nat) ({ cls := "java/lang/Object", name := "<init>", desc := "()V" } : Jvm.MethodName), Jvm.Cond.classLink "TrailStore$Keeper" (9 : Nat) "TrailStore$Found", Jvm.Cond.instantiable "TrailStore$Found" (6 : Nat), Jvm.Cond.methodLink "TrailStore$Keeper" (11 : Nat) ({ cls := "TrailStore$Found", name := "<init>", desc := "()V" } : Jvm.MethodName), Jvm.Cond.instanceMethod ({ cls := "TrailStore$Found", name := "<init>", desc := "()V" } : Jvm.MethodName), Jvm.Cond.code ({ cls := "TrailStore$Found", name := "<init>", desc := "()V" } : Jvm.MethodName) prog_5_method_1_code (1 : Nat) (Option.none : Option Jvm.ClassFile.FieldType), Jvm.Cond.methodLink "TrailStore$Found" (3 : Nat) ({ cls := "java/lang/Object", name := "<init>", desc := "()V" } : Jvm.MethodName), Jvm.Cond.fieldLink "TrailStore$Found" (9 : Nat) "TrailStore$Found" "kind" "I", Jvm.Cond.fieldLink "TrailStore" (126 : Nat) "TrailStore$Found" "kind" "I", Jvm.Cond.fieldLink "TrailStore$View" (121 : Nat) "TrailStore$Found" "kind" "I", Jvm.Cond.fieldLink "TrailStore$Keeper" (215 : Nat) "TrailStore$Found" "kind" "I", Jvm.Cond.fieldLink "TrailStore$Found" (15 : Nat) "TrailStore$Found" "number" "I", Jvm.Cond.fieldLink "TrailStore$View" (126 : Nat) "TrailStore$Found" "number" "I", Jvm.Cond.fieldLink "TrailStore" (223 : Nat) "TrailStore$Found" "number" "I", Jvm.Cond.fieldLink "TrailStore$Found" (18 : Nat) "TrailStore$Found" "where" "I", Jvm.Cond.fieldLink "TrailStore" (129 : Nat) "TrailStore$Found" "where" "I", Jvm.Cond.fieldLink "TrailStore$View" (131 : Nat) "TrailStore$Found" "where" "I", Jvm.Cond.fieldLink "TrailStore$Keeper" (217 : Nat) "TrailStore$Found" "where" "I", Jvm.Cond.fieldLink "TrailStore$Found" (21 : Nat) "TrailStore$Found" "inMemory" "Z", Jvm.Cond.fieldLink "TrailStore$View" (133 : Nat) "TrailStore$Found" "inMemory" "Z", Jvm.Cond.fieldLink "TrailStore" (226 : Nat) "TrailStore$Found" "inMemory" "Z", Jvm.Cond.fieldLink "TrailStore$Found" (25 : Nat) "TrailStore$Found" "lookedInto" "I", Jvm.Cond.fieldLink "TrailStore$View" (147 : Nat) "TrailStore$Found" "lookedInto" "I", Jvm.Cond.fieldLink "TrailStore" (177 : Nat) "TrailStore$Found" "lookedInto" "I", Jvm.Cond.fieldLink "TrailStore$Found" (28 : Nat) "TrailStore$Found" "passedBy" "I", Jvm.Cond.fieldLink "TrailStore$View" (144 : Nat) "TrailStore$Found" "passedBy" "I", Jvm.Cond.fieldLink "TrailStore" (180 : Nat) "TrailStore$Found" "passedBy" "I", Jvm.Cond.lays "TrailStore$Found" "TrailStore$Found" "kind" "I", Jvm.Cond.soleField "TrailStore$Found" "kind", Jvm.Cond.lays "TrailStore$Found" "TrailStore$Found" "number" "I", Jvm.Cond.soleField "TrailStore$Found" "number", Jvm.Cond.lays "TrailStore$Found" "TrailStore$Found" "where" "I"]
def rw_8 : List Cond := [Jvm.Cond.soleField "TrailStore$Found" "where", Jvm.Cond.lays "TrailStore$Found" "TrailStore$Found" "inMemory" "Z", Jvm.Cond.soleField "TrailStore$Found" "inMemory", Jvm.Cond.lays "TrailStore$Found" "TrailStore$Found" "lookedInto" "I", Jvm.Cond.soleField "TrailStore$Found" "lookedInto", Jvm.Cond.lays "TrailStore$Found" "TrailStore$Found" "passedBy" "I", Jvm.Cond.soleField "TrailStore$Found" "passedBy", Jvm.Cond.superclass "TrailStore$Found" "java/lang/Object", Jvm.Cond.classLink "TrailStore$Keeper" (18 : Nat) "TrailStore$Entries", Jvm.Cond.methodLink "TrailStore$Keeper" (20 : Nat) ({ cls := "TrailStore$Entries", name := "<init>", desc := "()V" } : Jvm.MethodName), Jvm.Cond.fieldLink "TrailStore$Keeper" (38 : Nat) "TrailStore$Keeper" "disk" "LTrailStore$Disk;", Jvm.Cond.fieldLink "TrailStore$Keeper" (42 : Nat) "TrailStore$Keeper" "view" "LTrailStore$View;", Jvm.Cond.fieldLink "TrailStore$Keeper" (12 : Nat) "TrailStore$Keeper" "found" "LTrailStore$Found;", Jvm.Cond.fieldLink "TrailStore$Keeper" (21 : Nat) "TrailStore$Keeper" "merged" "LTrailStore$Entries;", Jvm.Cond.fieldLink "TrailStore$Keeper" (25 : Nat) "TrailStore$Keeper" "zeros" "[B", Jvm.Cond.fieldLink "TrailStore$Keeper" (29 : Nat) "TrailStore$Keeper" "header" "[B", Jvm.Cond.fieldLink "TrailStore$Keeper" (32 : Nat) "TrailStore$Keeper" "page" "[B", Jvm.Cond.fieldLink "TrailStore$Keeper" (35 : Nat) "TrailStore$Keeper" "moved" "[B", Jvm.Cond.fieldLink "TrailStore$Keeper" (141 : Nat) "TrailStore$Keeper" "taken" "I", Jvm.Cond.laysFinal "TrailStore$Keeper" "TrailStore$Keeper" "disk" "LTrailStore$Disk;", Jvm.Cond.soleField "TrailStore$Keeper" "disk", Jvm.Cond.laysFinal "TrailStore$Keeper" "TrailStore$Keeper" "view" "LTrailStore$View;", Jvm.Cond.soleField "TrailStore$Keeper" "view", Jvm.Cond.laysFinal "TrailStore$Keeper" "TrailStore$Keeper" "found" "LTrailStore$Found;", Jvm.Cond.soleField "TrailStore$Keeper" "found", Jvm.Cond.laysFinal "TrailStore$Keeper" "TrailStore$Keeper" "merged" "LTrailStore$Entries;", Jvm.Cond.soleField "TrailStore$Keeper" "merged", Jvm.Cond.laysFinal "TrailStore$Keeper" "TrailStore$Keeper" "zeros" "[B", Jvm.Cond.soleField "TrailStore$Keeper" "zeros", Jvm.Cond.laysFinal "TrailStore$Keeper" "TrailStore$Keeper" "header" "[B", Jvm.Cond.soleField "TrailStore$Keeper" "header", Jvm.Cond.laysFinal "TrailStore$Keeper" "TrailStore$Keeper" "page" "[B"]
def rw_9 : List Cond := [Jvm.Cond.soleField "TrailStore$Keeper" "page", Jvm.Cond.laysFinal "TrailStore$Keeper" "TrailStore$Keeper" "moved" "[B", Jvm.Cond.soleField "TrailStore$Keeper" "moved", Jvm.Cond.lays "TrailStore$Keeper" "TrailStore$Keeper" "taken" "I", Jvm.Cond.soleField "TrailStore$Keeper" "taken", Jvm.Cond.superclass "TrailStore$Keeper" "java/lang/Object", Jvm.Cond.classLink "TrailStore" (48 : Nat) "TrailStore$Entries", Jvm.Cond.methodLink "TrailStore" (50 : Nat) ({ cls := "TrailStore$Entries", name := "<init>", desc := "()V" } : Jvm.MethodName), Jvm.Cond.classLink "TrailStore" (58 : Nat) "TrailStore$Batch", Jvm.Cond.instantiable "TrailStore$Batch" (5 : Nat), Jvm.Cond.methodLink "TrailStore" (60 : Nat) ({ cls := "TrailStore$Batch", name := "<init>", desc := "()V" } : Jvm.MethodName), Jvm.Cond.instanceMethod ({ cls := "TrailStore$Batch", name := "<init>", desc := "()V" } : Jvm.MethodName), Jvm.Cond.code ({ cls := "TrailStore$Batch", name := "<init>", desc := "()V" } : Jvm.MethodName) prog_2_method_1_code (1 : Nat) (Option.none : Option Jvm.ClassFile.FieldType), Jvm.Cond.methodLink "TrailStore$Batch" (3 : Nat) ({ cls := "java/lang/Object", name := "<init>", desc := "()V" } : Jvm.MethodName), Jvm.Cond.classLink "TrailStore$Batch" (21 : Nat) "[[B", Jvm.Cond.arrayOver (Jvm.ClassFile.FieldType.array Jvm.ClassFile.FieldType.byte), Jvm.Cond.fieldLink "TrailStore$Batch" (9 : Nat) "TrailStore$Batch" "kind" "[I", Jvm.Cond.fieldLink "TrailStore$Keeper" (105 : Nat) "TrailStore$Batch" "kind" "[I", Jvm.Cond.fieldLink "TrailStore$Batch" (15 : Nat) "TrailStore$Batch" "key" "[I", Jvm.Cond.fieldLink "TrailStore$Keeper" (109 : Nat) "TrailStore$Batch" "key" "[I", Jvm.Cond.fieldLink "TrailStore$Entries" (32 : Nat) "TrailStore$Batch" "key" "[I", Jvm.Cond.fieldLink "TrailStore$Batch" (18 : Nat) "TrailStore$Batch" "length" "[I", Jvm.Cond.fieldLink "TrailStore$Keeper" (116 : Nat) "TrailStore$Batch" "length" "[I", Jvm.Cond.fieldLink "TrailStore$Batch" (23 : Nat) "TrailStore$Batch" "value" "[[B", Jvm.Cond.fieldLink "TrailStore$Keeper" (112 : Nat) "TrailStore$Batch" "value" "[[B", Jvm.Cond.fieldLink "TrailStore$Batch" (26 : Nat) "TrailStore$Batch" "count" "I", Jvm.Cond.fieldLink "TrailStore" (98 : Nat) "TrailStore$Batch" "count" "I", Jvm.Cond.fieldLink "TrailStore$Keeper" (102 : Nat) "TrailStore$Batch" "count" "I", Jvm.Cond.fieldLink "TrailStore$Entries" (29 : Nat) "TrailStore$Batch" "count" "I", Jvm.Cond.laysFinal "TrailStore$Batch" "TrailStore$Batch" "kind" "[I", Jvm.Cond.soleField "TrailStore$Batch" "kind", Jvm.Cond.laysFinal "TrailStore$Batch" "TrailStore$Batch" "key" "[I"]
def rw_10 : List Cond := [Jvm.Cond.soleField "TrailStore$Batch" "key", Jvm.Cond.laysFinal "TrailStore$Batch" "TrailStore$Batch" "length" "[I", Jvm.Cond.soleField "TrailStore$Batch" "length", Jvm.Cond.laysFinal "TrailStore$Batch" "TrailStore$Batch" "value" "[[B", Jvm.Cond.soleField "TrailStore$Batch" "value", Jvm.Cond.lays "TrailStore$Batch" "TrailStore$Batch" "count" "I", Jvm.Cond.soleField "TrailStore$Batch" "count", Jvm.Cond.superclass "TrailStore$Batch" "java/lang/Object", Jvm.Cond.classLink "TrailStore" (72 : Nat) "TrailStore$Found", Jvm.Cond.methodLink "TrailStore" (74 : Nat) ({ cls := "TrailStore$Found", name := "<init>", desc := "()V" } : Jvm.MethodName), Jvm.Cond.methodLink "TrailStore" (82 : Nat) ({ cls := "TrailStore$Keeper", name := "startUp", desc := "()I" } : Jvm.MethodName), Jvm.Cond.instanceMethod ({ cls := "TrailStore$Keeper", name := "startUp", desc := "()I" } : Jvm.MethodName), Jvm.Cond.selects "TrailStore$Keeper" ({ cls := "TrailStore$Keeper", name := "startUp", desc := "()I" } : Jvm.MethodName) ({ cls := "TrailStore$Keeper", name := "startUp", desc := "()I" } : Jvm.MethodName), Jvm.Cond.code ({ cls := "TrailStore$Keeper", name := "startUp", desc := "()I" } : Jvm.MethodName) prog_6_method_2_code (2 : Nat) (Option.some Jvm.ClassFile.FieldType.int), Jvm.Cond.methodLink "TrailStore$Keeper" (52 : Nat) ({ cls := "TrailStore$View", name := "load", desc := "()I" } : Jvm.MethodName), Jvm.Cond.instanceMethod ({ cls := "TrailStore$View", name := "load", desc := "()I" } : Jvm.MethodName), Jvm.Cond.selects "TrailStore$View" ({ cls := "TrailStore$View", name := "load", desc := "()I" } : Jvm.MethodName) ({ cls := "TrailStore$View", name := "load", desc := "()I" } : Jvm.MethodName), Jvm.Cond.code ({ cls := "TrailStore$View", name := "load", desc := "()I" } : Jvm.MethodName) prog_7_method_2_code (7 : Nat) (Option.some Jvm.ClassFile.FieldType.int), Jvm.Cond.methodLink "TrailStore$View" (26 : Nat) ({ cls := "TrailStore$View", name := "loadRoot", desc := "()V" } : Jvm.MethodName), Jvm.Cond.privateMethod ({ cls := "TrailStore$View", name := "loadRoot", desc := "()V" } : Jvm.MethodName), Jvm.Cond.instanceMethod ({ cls := "TrailStore$View", name := "loadRoot", desc := "()V" } : Jvm.MethodName), Jvm.Cond.code ({ cls := "TrailStore$View", name := "loadRoot", desc := "()V" } : Jvm.MethodName) prog_7_method_3_code (4 : Nat) (Option.none : Option Jvm.ClassFile.FieldType), Jvm.Cond.methodLink "TrailStore$View" (77 : Nat) ({ cls := "TrailStore$Disk", name := "rootCell", desc := "(I)I" } : Jvm.MethodName), Jvm.Cond.instanceMethod ({ cls := "TrailStore$Disk", name := "rootCell", desc := "(I)I" } : Jvm.MethodName), Jvm.Cond.selects "TrailStore$Disk" ({ cls := "TrailStore$Disk", name := "rootCell", desc := "(I)I" } : Jvm.MethodName) ({ cls := "TrailStore$Disk", name := "rootCell", desc := "(I)I" } : Jvm.MethodName), Jvm.Cond.code ({ cls := "TrailStore$Disk", name := "rootCell", desc := "(I)I" } : Jvm.MethodName) prog_3_method_5_code (2 : Nat) (Option.some Jvm.ClassFile.FieldType.int), Jvm.Cond.methodLink "TrailStore$View" (80 : Nat) ({ cls := "TrailStore$Disk", name := "numberAt", desc := "(I)I" } : Jvm.MethodName), Jvm.Cond.instanceMethod ({ cls := "TrailStore$Disk", name := "numberAt", desc := "(I)I" } : Jvm.MethodName), Jvm.Cond.selects "TrailStore$Disk" ({ cls := "TrailStore$Disk", name := "numberAt", desc := "(I)I" } : Jvm.MethodName) ({ cls := "TrailStore$Disk", name := "numberAt", desc := "(I)I" } : Jvm.MethodName), Jvm.Cond.code ({ cls := "TrailStore$Disk", name := "numberAt", desc := "(I)I" } : Jvm.MethodName) prog_3_method_7_code (2 : Nat) (Option.some Jvm.ClassFile.FieldType.int), Jvm.Cond.methodLink "TrailStore$Disk" (36 : Nat) ({ cls := "TrailStore$Disk", name := "byteAt", desc := "(I)I" } : Jvm.MethodName), Jvm.Cond.instanceMethod ({ cls := "TrailStore$Disk", name := "byteAt", desc := "(I)I" } : Jvm.MethodName)]
def rw_11 : List Cond := [Jvm.Cond.selects "TrailStore$Disk" ({ cls := "TrailStore$Disk", name := "byteAt", desc := "(I)I" } : Jvm.MethodName) ({ cls := "TrailStore$Disk", name := "byteAt", desc := "(I)I" } : Jvm.MethodName), Jvm.Cond.code ({ cls := "TrailStore$Disk", name := "byteAt", desc := "(I)I" } : Jvm.MethodName) prog_3_method_6_code (2 : Nat) (Option.some Jvm.ClassFile.FieldType.int), Jvm.Cond.methodLink "TrailStore$View" (83 : Nat) ({ cls := "TrailStore$View", name := "loadRootAt", desc := "(I)V" } : Jvm.MethodName), Jvm.Cond.privateMethod ({ cls := "TrailStore$View", name := "loadRootAt", desc := "(I)V" } : Jvm.MethodName), Jvm.Cond.instanceMethod ({ cls := "TrailStore$View", name := "loadRootAt", desc := "(I)V" } : Jvm.MethodName), Jvm.Cond.code ({ cls := "TrailStore$View", name := "loadRootAt", desc := "(I)V" } : Jvm.MethodName) prog_7_method_4_code (3 : Nat) (Option.none : Option Jvm.ClassFile.FieldType), Jvm.Cond.methodLink "TrailStore$View" (86 : Nat) ({ cls := "TrailStore$Disk", name := "byteAt", desc := "(I)I" } : Jvm.MethodName), Jvm.Cond.methodLink "TrailStore$View" (89 : Nat) ({ cls := "java/lang/Math", name := "min", desc := "(II)I" } : Jvm.MethodName), Jvm.Cond.methodLink "TrailStore$View" (29 : Nat) ({ cls := "TrailStore$Entries", name := "clear", desc := "()V" } : Jvm.MethodName), Jvm.Cond.instanceMethod ({ cls := "TrailStore$Entries", name := "clear", desc := "()V" } : Jvm.MethodName), Jvm.Cond.selects "TrailStore$Entries" ({ cls := "TrailStore$Entries", name := "clear", desc := "()V" } : Jvm.MethodName) ({ cls := "TrailStore$Entries", name := "clear", desc := "()V" } : Jvm.MethodName), Jvm.Cond.code ({ cls := "TrailStore$Entries", name := "clear", desc := "()V" } : Jvm.MethodName) prog_4_method_2_code (2 : Nat) (Option.none : Option Jvm.ClassFile.FieldType), Jvm.Cond.methodLink "TrailStore$View" (50 : Nat) ({ cls := "TrailStore$View", name := "isRecord", desc := "(II)Z" } : Jvm.MethodName), Jvm.Cond.instanceMethod ({ cls := "TrailStore$View", name := "isRecord", desc := "(II)Z" } : Jvm.MethodName), Jvm.Cond.selects "TrailStore$View" ({ cls := "TrailStore$View", name := "isRecord", desc := "(II)Z" } : Jvm.MethodName) ({ cls := "TrailStore$View", name := "isRecord", desc := "(II)Z" } : Jvm.MethodName), Jvm.Cond.code ({ cls := "TrailStore$View", name := "isRecord", desc := "(II)Z" } : Jvm.MethodName) prog_7_method_5_code (6 : Nat) (Option.some Jvm.ClassFile.FieldType.boolean), Jvm.Cond.methodLink "TrailStore$View" (61 : Nat) ({ cls := "TrailStore$Disk", name := "logByte", desc := "(I)I" } : Jvm.MethodName), Jvm.Cond.instanceMethod ({ cls := "TrailStore$Disk", name := "logByte", desc := "(I)I" } : Jvm.MethodName), Jvm.Cond.selects "TrailStore$Disk" ({ cls := "TrailStore$Disk", name := "logByte", desc := "(I)I" } : Jvm.MethodName) ({ cls := "TrailStore$Disk", name := "logByte", desc := "(I)I" } : Jvm.MethodName), Jvm.Cond.code ({ cls := "TrailStore$Disk", name := "logByte", desc := "(I)I" } : Jvm.MethodName) prog_3_method_8_code (2 : Nat) (Option.some Jvm.ClassFile.FieldType.int), Jvm.Cond.methodLink "TrailStore$Disk" (39 : Nat) ({ cls := "TrailStore$Disk", name := "logCell", desc := "(I)I" } : Jvm.MethodName), Jvm.Cond.instanceMethod ({ cls := "TrailStore$Disk", name := "logCell", desc := "(I)I" } : Jvm.MethodName), Jvm.Cond.selects "TrailStore$Disk" ({ cls := "TrailStore$Disk", name := "logCell", desc := "(I)I" } : Jvm.MethodName) ({ cls := "TrailStore$Disk", name := "logCell", desc := "(I)I" } : Jvm.MethodName), Jvm.Cond.code ({ cls := "TrailStore$Disk", name := "logCell", desc := "(I)I" } : Jvm.MethodName) prog_3_method_3_code (3 : Nat) (Option.some Jvm.ClassFile.FieldType.int), Jvm.Cond.methodLinkNest "TrailStore$View" (95 : Nat) ({ cls := "TrailStore", name := "isKey", desc := "(I)Z" } : Jvm.MethodName) "TrailStore", Jvm.Cond.static ({ cls := "TrailStore", name := "isKey", desc := "(I)Z" } : Jvm.MethodName), Jvm.Cond.code ({ cls := "TrailStore", name := "isKey", desc := "(I)Z" } : Jvm.MethodName) prog_1_method_23_code (1 : Nat) (Option.some Jvm.ClassFile.FieldType.boolean), Jvm.Cond.methodLink "TrailStore$View" (99 : Nat) ({ cls := "TrailStore$Disk", name := "logNumber", desc := "(I)I" } : Jvm.MethodName), Jvm.Cond.instanceMethod ({ cls := "TrailStore$Disk", name := "logNumber", desc := "(I)I" } : Jvm.MethodName), Jvm.Cond.selects "TrailStore$Disk" ({ cls := "TrailStore$Disk", name := "logNumber", desc := "(I)I" } : Jvm.MethodName) ({ cls := "TrailStore$Disk", name := "logNumber", desc := "(I)I" } : Jvm.MethodName), Jvm.Cond.code ({ cls := "TrailStore$Disk", name := "logNumber", desc := "(I)I" } : Jvm.MethodName) prog_3_method_9_code (2 : Nat) (Option.some Jvm.ClassFile.FieldType.int), Jvm.Cond.methodLink "TrailStore$Disk" (42 : Nat) ({ cls := "TrailStore$Disk", name := "logByte", desc := "(I)I" } : Jvm.MethodName)]
def rw_12 : List Cond := [Jvm.Cond.methodLink "TrailStore$View" (54 : Nat) ({ cls := "TrailStore$Disk", name := "recordSize", desc := "(I)I" } : Jvm.MethodName), Jvm.Cond.instanceMethod ({ cls := "TrailStore$Disk", name := "recordSize", desc := "(I)I" } : Jvm.MethodName), Jvm.Cond.selects "TrailStore$Disk" ({ cls := "TrailStore$Disk", name := "recordSize", desc := "(I)I" } : Jvm.MethodName) ({ cls := "TrailStore$Disk", name := "recordSize", desc := "(I)I" } : Jvm.MethodName), Jvm.Cond.code ({ cls := "TrailStore$Disk", name := "recordSize", desc := "(I)I" } : Jvm.MethodName) prog_3_method_10_code (2 : Nat) (Option.some Jvm.ClassFile.FieldType.int), Jvm.Cond.methodLink "TrailStore$View" (64 : Nat) ({ cls := "TrailStore$View", name := "takeRecordsBefore", desc := "(I)V" } : Jvm.MethodName), Jvm.Cond.privateMethod ({ cls := "TrailStore$View", name := "takeRecordsBefore", desc := "(I)V" } : Jvm.MethodName), Jvm.Cond.instanceMethod ({ cls := "TrailStore$View", name := "takeRecordsBefore", desc := "(I)V" } : Jvm.MethodName), Jvm.Cond.code ({ cls := "TrailStore$View", name := "takeRecordsBefore", desc := "(I)V" } : Jvm.MethodName) prog_7_method_6_code (4 : Nat) (Option.none : Option Jvm.ClassFile.FieldType), Jvm.Cond.methodLink "TrailStore$View" (102 : Nat) ({ cls := "TrailStore$Entries", name := "set", desc := "(IIII)V" } : Jvm.MethodName), Jvm.Cond.instanceMethod ({ cls := "TrailStore$Entries", name := "set", desc := "(IIII)V" } : Jvm.MethodName), Jvm.Cond.selects "TrailStore$Entries" ({ cls := "TrailStore$Entries", name := "set", desc := "(IIII)V" } : Jvm.MethodName) ({ cls := "TrailStore$Entries", name := "set", desc := "(IIII)V" } : Jvm.MethodName), Jvm.Cond.code ({ cls := "TrailStore$Entries", name := "set", desc := "(IIII)V" } : Jvm.MethodName) prog_4_method_4_code (5 : Nat) (Option.none : Option Jvm.ClassFile.FieldType), Jvm.Cond.methodLinkNest "TrailStore$Entries" (25 : Nat) ({ cls := "TrailStore", name := "isKey", desc := "(I)Z" } : Jvm.MethodName) "TrailStore", Jvm.Cond.methodLink "TrailStore$Keeper" (62 : Nat) ({ cls := "TrailStore$Disk", name := "logCell", desc := "(I)I" } : Jvm.MethodName), Jvm.Cond.methodLink "TrailStore$Keeper" (66 : Nat) ({ cls := "TrailStore$Disk", name := "write", desc := "(I[BII)V" } : Jvm.MethodName), Jvm.Cond.instanceMethod ({ cls := "TrailStore$Disk", name := "write", desc := "(I[BII)V" } : Jvm.MethodName), Jvm.Cond.selects "TrailStore$Disk" ({ cls := "TrailStore$Disk", name := "write", desc := "(I[BII)V" } : Jvm.MethodName) ({ cls := "TrailStore$Disk", name := "write", desc := "(I[BII)V" } : Jvm.MethodName), Jvm.Cond.code ({ cls := "TrailStore$Disk", name := "write", desc := "(I[BII)V" } : Jvm.MethodName) prog_3_method_13_code (7 : Nat) (Option.none : Option Jvm.ClassFile.FieldType), Jvm.Cond.methodLink "TrailStore$Disk" (58 : Nat) ({ cls := "TrailStore$Disk", name := "isInside", desc := "(II)Z" } : Jvm.MethodName), Jvm.Cond.privateMethod ({ cls := "TrailStore$Disk", name := "isInside", desc := "(II)Z" } : Jvm.MethodName), Jvm.Cond.instanceMethod ({ cls := "TrailStore$Disk", name := "isInside", desc := "(II)Z" } : Jvm.MethodName), Jvm.Cond.code ({ cls := "TrailStore$Disk", name := "isInside", desc := "(II)Z" } : Jvm.MethodName) prog_3_method_16_code (4 : Nat) (Option.some Jvm.ClassFile.FieldType.boolean), Jvm.Cond.methodLink "TrailStore$Disk" (68 : Nat) ({ cls := "TrailStore$Disk", name := "makeLasting", desc := "()V" } : Jvm.MethodName), Jvm.Cond.instanceMethod ({ cls := "TrailStore$Disk", name := "makeLasting", desc := "()V" } : Jvm.MethodName), Jvm.Cond.selects "TrailStore$Disk" ({ cls := "TrailStore$Disk", name := "makeLasting", desc := "()V" } : Jvm.MethodName) ({ cls := "TrailStore$Disk", name := "makeLasting", desc := "()V" } : Jvm.MethodName), Jvm.Cond.code ({ cls := "TrailStore$Disk", name := "makeLasting", desc := "()V" } : Jvm.MethodName) prog_3_method_14_code (1 : Nat) (Option.none : Option Jvm.ClassFile.FieldType), Jvm.Cond.methodLink "TrailStore$Disk" (71 : Nat) ({ cls := "TrailStore$Disk", name := "cellBehind", desc := "(I)I" } : Jvm.MethodName), Jvm.Cond.privateMethod ({ cls := "TrailStore$Disk", name := "cellBehind", desc := "(I)I" } : Jvm.MethodName), Jvm.Cond.instanceMethod ({ cls := "TrailStore$Disk", name := "cellBehind", desc := "(I)I" } : Jvm.MethodName), Jvm.Cond.code ({ cls := "TrailStore$Disk", name := "cellBehind", desc := "(I)I" } : Jvm.MethodName) prog_3_method_17_code (2 : Nat) (Option.some Jvm.ClassFile.FieldType.int), Jvm.Cond.methodLink "TrailStore$Keeper" (70 : Nat) ({ cls := "TrailStore$Disk", name := "makeLasting", desc := "()V" } : Jvm.MethodName), Jvm.Cond.fieldLink "TrailStore" (23 : Nat) "TrailStore" "disk" "LTrailStore$Disk;"]
def rw_13 : List Cond := [Jvm.Cond.fieldLink "TrailStore" (32 : Nat) "TrailStore" "view" "LTrailStore$View;", Jvm.Cond.fieldLink "TrailStore" (41 : Nat) "TrailStore" "keeper" "LTrailStore$Keeper;", Jvm.Cond.fieldLink "TrailStore" (45 : Nat) "TrailStore" "reopened" "LTrailStore$View;", Jvm.Cond.fieldLink "TrailStore" (51 : Nat) "TrailStore" "all" "LTrailStore$Entries;", Jvm.Cond.fieldLink "TrailStore" (55 : Nat) "TrailStore" "reopenedAll" "LTrailStore$Entries;", Jvm.Cond.fieldLink "TrailStore" (61 : Nat) "TrailStore" "batch" "LTrailStore$Batch;", Jvm.Cond.fieldLink "TrailStore" (105 : Nat) "TrailStore" "begun" "Z", Jvm.Cond.fieldLink "TrailStore" (65 : Nat) "TrailStore" "tape" "[B", Jvm.Cond.fieldLink "TrailStore" (90 : Nat) "TrailStore" "taped" "I", Jvm.Cond.fieldLink "TrailStore" (69 : Nat) "TrailStore" "value" "[B", Jvm.Cond.fieldLink "TrailStore" (119 : Nat) "TrailStore" "valueLength" "I", Jvm.Cond.fieldLink "TrailStore" (75 : Nat) "TrailStore" "got" "LTrailStore$Found;", Jvm.Cond.fieldLink "TrailStore" (79 : Nat) "TrailStore" "found" "LTrailStore$Found;", Jvm.Cond.laysFinal "TrailStore" "TrailStore" "disk" "LTrailStore$Disk;", Jvm.Cond.soleField "TrailStore" "disk", Jvm.Cond.laysFinal "TrailStore" "TrailStore" "view" "LTrailStore$View;", Jvm.Cond.soleField "TrailStore" "view", Jvm.Cond.laysFinal "TrailStore" "TrailStore" "keeper" "LTrailStore$Keeper;", Jvm.Cond.soleField "TrailStore" "keeper", Jvm.Cond.laysFinal "TrailStore" "TrailStore" "reopened" "LTrailStore$View;", Jvm.Cond.soleField "TrailStore" "reopened", Jvm.Cond.laysFinal "TrailStore" "TrailStore" "all" "LTrailStore$Entries;", Jvm.Cond.soleField "TrailStore" "all", Jvm.Cond.laysFinal "TrailStore" "TrailStore" "reopenedAll" "LTrailStore$Entries;", Jvm.Cond.soleField "TrailStore" "reopenedAll", Jvm.Cond.laysFinal "TrailStore" "TrailStore" "batch" "LTrailStore$Batch;", Jvm.Cond.soleField "TrailStore" "batch", Jvm.Cond.lays "TrailStore" "TrailStore" "begun" "Z", Jvm.Cond.soleField "TrailStore" "begun", Jvm.Cond.laysFinal "TrailStore" "TrailStore" "tape" "[B", Jvm.Cond.soleField "TrailStore" "tape", Jvm.Cond.lays "TrailStore" "TrailStore" "taped" "I"]
def rw_14 : List Cond := [Jvm.Cond.soleField "TrailStore" "taped", Jvm.Cond.laysFinal "TrailStore" "TrailStore" "value" "[B", Jvm.Cond.soleField "TrailStore" "value", Jvm.Cond.lays "TrailStore" "TrailStore" "valueLength" "I", Jvm.Cond.soleField "TrailStore" "valueLength", Jvm.Cond.laysFinal "TrailStore" "TrailStore" "got" "LTrailStore$Found;", Jvm.Cond.soleField "TrailStore" "got", Jvm.Cond.laysFinal "TrailStore" "TrailStore" "found" "LTrailStore$Found;", Jvm.Cond.soleField "TrailStore" "found", Jvm.Cond.superclass "TrailStore" "java/lang/Object", Jvm.Cond.methodLink "TrailStoreLaw" (23 : Nat) ({ cls := "TrailStore", name := "type", desc := "(JI)I" } : Jvm.MethodName), Jvm.Cond.instanceMethod ({ cls := "TrailStore", name := "type", desc := "(JI)I" } : Jvm.MethodName), Jvm.Cond.selects "TrailStore" ({ cls := "TrailStore", name := "type", desc := "(JI)I" } : Jvm.MethodName) ({ cls := "TrailStore", name := "type", desc := "(JI)I" } : Jvm.MethodName), Jvm.Cond.code ({ cls := "TrailStore", name := "type", desc := "(JI)I" } : Jvm.MethodName) prog_1_method_2_code (5 : Nat) (Option.some Jvm.ClassFile.FieldType.int), Jvm.Cond.methodLink "TrailStoreLaw" (28 : Nat) ({ cls := "TrailStore", name := "put", desc := "(I)I" } : Jvm.MethodName), Jvm.Cond.instanceMethod ({ cls := "TrailStore", name := "put", desc := "(I)I" } : Jvm.MethodName), Jvm.Cond.selects "TrailStore" ({ cls := "TrailStore", name := "put", desc := "(I)I" } : Jvm.MethodName) ({ cls := "TrailStore", name := "put", desc := "(I)I" } : Jvm.MethodName), Jvm.Cond.code ({ cls := "TrailStore", name := "put", desc := "(I)I" } : Jvm.MethodName) prog_1_method_3_code (2 : Nat) (Option.some Jvm.ClassFile.FieldType.int), Jvm.Cond.methodLink "TrailStore" (94 : Nat) ({ cls := "TrailStore", name := "isKey", desc := "(I)Z" } : Jvm.MethodName), Jvm.Cond.methodLink "TrailStore" (101 : Nat) ({ cls := "TrailStore$Batch", name := "add", desc := "(II[BI)V" } : Jvm.MethodName), Jvm.Cond.instanceMethod ({ cls := "TrailStore$Batch", name := "add", desc := "(II[BI)V" } : Jvm.MethodName), Jvm.Cond.selects "TrailStore$Batch" ({ cls := "TrailStore$Batch", name := "add", desc := "(II[BI)V" } : Jvm.MethodName) ({ cls := "TrailStore$Batch", name := "add", desc := "(II[BI)V" } : Jvm.MethodName), Jvm.Cond.code ({ cls := "TrailStore$Batch", name := "add", desc := "(II[BI)V" } : Jvm.MethodName) prog_2_method_2_code (6 : Nat) (Option.none : Option Jvm.ClassFile.FieldType), Jvm.Cond.methodLink "TrailStore" (108 : Nat) ({ cls := "TrailStore$Keeper", name := "store", desc := "(LTrailStore$Batch;)I" } : Jvm.MethodName), Jvm.Cond.instanceMethod ({ cls := "TrailStore$Keeper", name := "store", desc := "(LTrailStore$Batch;)I" } : Jvm.MethodName), Jvm.Cond.selects "TrailStore$Keeper" ({ cls := "TrailStore$Keeper", name := "store", desc := "(LTrailStore$Batch;)I" } : Jvm.MethodName) ({ cls := "TrailStore$Keeper", name := "store", desc := "(LTrailStore$Batch;)I" } : Jvm.MethodName), Jvm.Cond.code ({ cls := "TrailStore$Keeper", name := "store", desc := "(LTrailStore$Batch;)I" } : Jvm.MethodName) prog_6_method_3_code (6 : Nat) (Option.some Jvm.ClassFile.FieldType.int), Jvm.Cond.methodLink "TrailStore$Keeper" (73 : Nat) ({ cls := "TrailStore$Batch", name := "size", desc := "()I" } : Jvm.MethodName), Jvm.Cond.instanceMethod ({ cls := "TrailStore$Batch", name := "size", desc := "()I" } : Jvm.MethodName), Jvm.Cond.selects "TrailStore$Batch" ({ cls := "TrailStore$Batch", name := "size", desc := "()I" } : Jvm.MethodName) ({ cls := "TrailStore$Batch", name := "size", desc := "()I" } : Jvm.MethodName), Jvm.Cond.code ({ cls := "TrailStore$Batch", name := "size", desc := "()I" } : Jvm.MethodName) prog_2_method_4_code (3 : Nat) (Option.some Jvm.ClassFile.FieldType.int), Jvm.Cond.methodLink "TrailStore$Keeper" (81 : Nat) ({ cls := "TrailStore$Entries", name := "countWith", desc := "(LTrailStore$Batch;)I" } : Jvm.MethodName)]
def rw_15 : List Cond := [Jvm.Cond.instanceMethod ({ cls := "TrailStore$Entries", name := "countWith", desc := "(LTrailStore$Batch;)I" } : Jvm.MethodName), Jvm.Cond.selects "TrailStore$Entries" ({ cls := "TrailStore$Entries", name := "countWith", desc := "(LTrailStore$Batch;)I" } : Jvm.MethodName) ({ cls := "TrailStore$Entries", name := "countWith", desc := "(LTrailStore$Batch;)I" } : Jvm.MethodName), Jvm.Cond.code ({ cls := "TrailStore$Entries", name := "countWith", desc := "(LTrailStore$Batch;)I" } : Jvm.MethodName) prog_4_method_6_code (4 : Nat) (Option.some Jvm.ClassFile.FieldType.int), Jvm.Cond.methodLink "TrailStore$Entries" (35 : Nat) ({ cls := "TrailStore$Entries", name := "has", desc := "(I)Z" } : Jvm.MethodName), Jvm.Cond.instanceMethod ({ cls := "TrailStore$Entries", name := "has", desc := "(I)Z" } : Jvm.MethodName), Jvm.Cond.selects "TrailStore$Entries" ({ cls := "TrailStore$Entries", name := "has", desc := "(I)Z" } : Jvm.MethodName) ({ cls := "TrailStore$Entries", name := "has", desc := "(I)Z" } : Jvm.MethodName), Jvm.Cond.code ({ cls := "TrailStore$Entries", name := "has", desc := "(I)Z" } : Jvm.MethodName) prog_4_method_3_code (2 : Nat) (Option.some Jvm.ClassFile.FieldType.boolean), Jvm.Cond.methodLink "TrailStore$Entries" (38 : Nat) ({ cls := "TrailStore$Batch", name := "isFirstOfKey", desc := "(I)Z" } : Jvm.MethodName), Jvm.Cond.instanceMethod ({ cls := "TrailStore$Batch", name := "isFirstOfKey", desc := "(I)Z" } : Jvm.MethodName), Jvm.Cond.selects "TrailStore$Batch" ({ cls := "TrailStore$Batch", name := "isFirstOfKey", desc := "(I)Z" } : Jvm.MethodName) ({ cls := "TrailStore$Batch", name := "isFirstOfKey", desc := "(I)Z" } : Jvm.MethodName), Jvm.Cond.code ({ cls := "TrailStore$Batch", name := "isFirstOfKey", desc := "(I)Z" } : Jvm.MethodName) prog_2_method_3_code (3 : Nat) (Option.some Jvm.ClassFile.FieldType.boolean), Jvm.Cond.methodLink "TrailStore$Keeper" (85 : Nat) ({ cls := "TrailStore$Keeper", name := "makeCheckpoint", desc := "()V" } : Jvm.MethodName), Jvm.Cond.instanceMethod ({ cls := "TrailStore$Keeper", name := "makeCheckpoint", desc := "()V" } : Jvm.MethodName), Jvm.Cond.selects "TrailStore$Keeper" ({ cls := "TrailStore$Keeper", name := "makeCheckpoint", desc := "()V" } : Jvm.MethodName) ({ cls := "TrailStore$Keeper", name := "makeCheckpoint", desc := "()V" } : Jvm.MethodName), Jvm.Cond.code ({ cls := "TrailStore$Keeper", name := "makeCheckpoint", desc := "()V" } : Jvm.MethodName) prog_6_method_7_code (4 : Nat) (Option.none : Option Jvm.ClassFile.FieldType), Jvm.Cond.methodLink "TrailStore$Keeper" (138 : Nat) ({ cls := "TrailStore$View", name := "placesInUse", desc := "()I" } : Jvm.MethodName), Jvm.Cond.instanceMethod ({ cls := "TrailStore$View", name := "placesInUse", desc := "()I" } : Jvm.MethodName), Jvm.Cond.selects "TrailStore$View" ({ cls := "TrailStore$View", name := "placesInUse", desc := "()I" } : Jvm.MethodName) ({ cls := "TrailStore$View", name := "placesInUse", desc := "()I" } : Jvm.MethodName), Jvm.Cond.code ({ cls := "TrailStore$View", name := "placesInUse", desc := "()I" } : Jvm.MethodName) prog_7_method_8_code (3 : Nat) (Option.some Jvm.ClassFile.FieldType.int), Jvm.Cond.methodLink "TrailStore$Keeper" (144 : Nat) ({ cls := "TrailStore$Keeper", name := "writeTable", desc := "(ILTrailStore$Entries;I)V" } : Jvm.MethodName), Jvm.Cond.privateMethod ({ cls := "TrailStore$Keeper", name := "writeTable", desc := "(ILTrailStore$Entries;I)V" } : Jvm.MethodName), Jvm.Cond.instanceMethod ({ cls := "TrailStore$Keeper", name := "writeTable", desc := "(ILTrailStore$Entries;I)V" } : Jvm.MethodName), Jvm.Cond.code ({ cls := "TrailStore$Keeper", name := "writeTable", desc := "(ILTrailStore$Entries;I)V" } : Jvm.MethodName) prog_6_method_8_code (7 : Nat) (Option.none : Option Jvm.ClassFile.FieldType), Jvm.Cond.methodLink "TrailStore$Keeper" (170 : Nat) ({ cls := "TrailStore$View", name := "replaceNewest", desc := "(IZI)V" } : Jvm.MethodName), Jvm.Cond.instanceMethod ({ cls := "TrailStore$View", name := "replaceNewest", desc := "(IZI)V" } : Jvm.MethodName), Jvm.Cond.selects "TrailStore$View" ({ cls := "TrailStore$View", name := "replaceNewest", desc := "(IZI)V" } : Jvm.MethodName) ({ cls := "TrailStore$View", name := "replaceNewest", desc := "(IZI)V" } : Jvm.MethodName), Jvm.Cond.code ({ cls := "TrailStore$View", name := "replaceNewest", desc := "(IZI)V" } : Jvm.MethodName) prog_7_method_16_code (6 : Nat) (Option.none : Option Jvm.ClassFile.FieldType), Jvm.Cond.methodLink "TrailStore$View" (157 : Nat) ({ cls := "java/lang/System", name := "arraycopy", desc := "(Ljava/lang/Object;ILjava/lang/Object;II)V" } : Jvm.MethodName), Jvm.Cond.static ({ cls := "java/lang/System", name := "arraycopy", desc := "(Ljava/lang/Object;ILjava/lang/Object;II)V" } : Jvm.MethodName), Jvm.Cond.native ({ cls := "java/lang/System", name := "arraycopy", desc := "(Ljava/lang/Object;ILjava/lang/Object;II)V" } : Jvm.MethodName), Jvm.Cond.methodLink "TrailStore$Keeper" (129 : Nat) ({ cls := "TrailStore$Keeper", name := "setNumber", desc := "([BII)V" } : Jvm.MethodName), Jvm.Cond.static ({ cls := "TrailStore$Keeper", name := "setNumber", desc := "([BII)V" } : Jvm.MethodName)]
def rw_16 : List Cond := [Jvm.Cond.code ({ cls := "TrailStore$Keeper", name := "setNumber", desc := "([BII)V" } : Jvm.MethodName) prog_6_method_12_code (3 : Nat) (Option.none : Option Jvm.ClassFile.FieldType), Jvm.Cond.methodLink "TrailStore$Keeper" (181 : Nat) ({ cls := "TrailStore$View", name := "filterBits", desc := "(I)I" } : Jvm.MethodName), Jvm.Cond.static ({ cls := "TrailStore$View", name := "filterBits", desc := "(I)I" } : Jvm.MethodName), Jvm.Cond.code ({ cls := "TrailStore$View", name := "filterBits", desc := "(I)I" } : Jvm.MethodName) prog_7_method_13_code (1 : Nat) (Option.some Jvm.ClassFile.FieldType.int), Jvm.Cond.methodLink "TrailStore$Keeper" (187 : Nat) ({ cls := "TrailStore$Keeper", name := "leastFreePlace", desc := "()I" } : Jvm.MethodName), Jvm.Cond.privateMethod ({ cls := "TrailStore$Keeper", name := "leastFreePlace", desc := "()I" } : Jvm.MethodName), Jvm.Cond.instanceMethod ({ cls := "TrailStore$Keeper", name := "leastFreePlace", desc := "()I" } : Jvm.MethodName), Jvm.Cond.code ({ cls := "TrailStore$Keeper", name := "leastFreePlace", desc := "()I" } : Jvm.MethodName) prog_6_method_9_code (2 : Nat) (Option.some Jvm.ClassFile.FieldType.int), Jvm.Cond.methodLink "TrailStore$Keeper" (190 : Nat) ({ cls := "TrailStore$Disk", name := "tableCell", desc := "(I)I" } : Jvm.MethodName), Jvm.Cond.instanceMethod ({ cls := "TrailStore$Disk", name := "tableCell", desc := "(I)I" } : Jvm.MethodName), Jvm.Cond.selects "TrailStore$Disk" ({ cls := "TrailStore$Disk", name := "tableCell", desc := "(I)I" } : Jvm.MethodName) ({ cls := "TrailStore$Disk", name := "tableCell", desc := "(I)I" } : Jvm.MethodName), Jvm.Cond.code ({ cls := "TrailStore$Disk", name := "tableCell", desc := "(I)I" } : Jvm.MethodName) prog_3_method_4_code (2 : Nat) (Option.some Jvm.ClassFile.FieldType.int), Jvm.Cond.methodLink "TrailStore$Keeper" (148 : Nat) ({ cls := "TrailStore$View", name := "tablesUpTo", desc := "(I)I" } : Jvm.MethodName), Jvm.Cond.instanceMethod ({ cls := "TrailStore$View", name := "tablesUpTo", desc := "(I)I" } : Jvm.MethodName), Jvm.Cond.selects "TrailStore$View" ({ cls := "TrailStore$View", name := "tablesUpTo", desc := "(I)I" } : Jvm.MethodName) ({ cls := "TrailStore$View", name := "tablesUpTo", desc := "(I)I" } : Jvm.MethodName), Jvm.Cond.code ({ cls := "TrailStore$View", name := "tablesUpTo", desc := "(I)I" } : Jvm.MethodName) prog_7_method_9_code (3 : Nat) (Option.some Jvm.ClassFile.FieldType.int), Jvm.Cond.methodLink "TrailStore$View" (109 : Nat) ({ cls := "TrailStore$View", name := "tableStart", desc := "(I)I" } : Jvm.MethodName), Jvm.Cond.instanceMethod ({ cls := "TrailStore$View", name := "tableStart", desc := "(I)I" } : Jvm.MethodName), Jvm.Cond.selects "TrailStore$View" ({ cls := "TrailStore$View", name := "tableStart", desc := "(I)I" } : Jvm.MethodName) ({ cls := "TrailStore$View", name := "tableStart", desc := "(I)I" } : Jvm.MethodName), Jvm.Cond.code ({ cls := "TrailStore$View", name := "tableStart", desc := "(I)I" } : Jvm.MethodName) prog_7_method_7_code (2 : Nat) (Option.some Jvm.ClassFile.FieldType.int), Jvm.Cond.methodLink "TrailStore$View" (106 : Nat) ({ cls := "TrailStore$Disk", name := "tableCell", desc := "(I)I" } : Jvm.MethodName), Jvm.Cond.methodLink "TrailStore$Keeper" (151 : Nat) ({ cls := "TrailStore$View", name := "gatherTables", desc := "(ILTrailStore$Entries;)V" } : Jvm.MethodName), Jvm.Cond.instanceMethod ({ cls := "TrailStore$View", name := "gatherTables", desc := "(ILTrailStore$Entries;)V" } : Jvm.MethodName), Jvm.Cond.selects "TrailStore$View" ({ cls := "TrailStore$View", name := "gatherTables", desc := "(ILTrailStore$Entries;)V" } : Jvm.MethodName) ({ cls := "TrailStore$View", name := "gatherTables", desc := "(ILTrailStore$Entries;)V" } : Jvm.MethodName), Jvm.Cond.code ({ cls := "TrailStore$View", name := "gatherTables", desc := "(ILTrailStore$Entries;)V" } : Jvm.MethodName) prog_7_method_15_code (8 : Nat) (Option.none : Option Jvm.ClassFile.FieldType), Jvm.Cond.methodLink "TrailStore$Keeper" (155 : Nat) ({ cls := "TrailStore$Entries", name := "dropRemovals", desc := "()V" } : Jvm.MethodName), Jvm.Cond.instanceMethod ({ cls := "TrailStore$Entries", name := "dropRemovals", desc := "()V" } : Jvm.MethodName), Jvm.Cond.selects "TrailStore$Entries" ({ cls := "TrailStore$Entries", name := "dropRemovals", desc := "()V" } : Jvm.MethodName) ({ cls := "TrailStore$Entries", name := "dropRemovals", desc := "()V" } : Jvm.MethodName), Jvm.Cond.code ({ cls := "TrailStore$Entries", name := "dropRemovals", desc := "()V" } : Jvm.MethodName) prog_4_method_5_code (2 : Nat) (Option.none : Option Jvm.ClassFile.FieldType), Jvm.Cond.methodLink "TrailStore$Keeper" (158 : Nat) ({ cls := "TrailStore$Entries", name := "clear", desc := "()V" } : Jvm.MethodName), Jvm.Cond.methodLink "TrailStore$Keeper" (167 : Nat) ({ cls := "TrailStore$Keeper", name := "writeRoot", desc := "()V" } : Jvm.MethodName), Jvm.Cond.privateMethod ({ cls := "TrailStore$Keeper", name := "writeRoot", desc := "()V" } : Jvm.MethodName)]
def rw_17 : List Cond := [Jvm.Cond.instanceMethod ({ cls := "TrailStore$Keeper", name := "writeRoot", desc := "()V" } : Jvm.MethodName), Jvm.Cond.code ({ cls := "TrailStore$Keeper", name := "writeRoot", desc := "()V" } : Jvm.MethodName) prog_6_method_10_code (2 : Nat) (Option.none : Option Jvm.ClassFile.FieldType), Jvm.Cond.methodLink "TrailStore$Keeper" (202 : Nat) ({ cls := "TrailStore$Disk", name := "rootCell", desc := "(I)I" } : Jvm.MethodName), Jvm.Cond.methodLink "TrailStore$Keeper" (88 : Nat) ({ cls := "TrailStore$Keeper", name := "hasRoom", desc := "(I)Z" } : Jvm.MethodName), Jvm.Cond.privateMethod ({ cls := "TrailStore$Keeper", name := "hasRoom", desc := "(I)Z" } : Jvm.MethodName), Jvm.Cond.instanceMethod ({ cls := "TrailStore$Keeper", name := "hasRoom", desc := "(I)Z" } : Jvm.MethodName), Jvm.Cond.code ({ cls := "TrailStore$Keeper", name := "hasRoom", desc := "(I)Z" } : Jvm.MethodName) prog_6_method_5_code (2 : Nat) (Option.some Jvm.ClassFile.FieldType.boolean), Jvm.Cond.methodLink "TrailStore$Keeper" (95 : Nat) ({ cls := "TrailStore$Keeper", name := "collectTail", desc := "(I)I" } : Jvm.MethodName), Jvm.Cond.instanceMethod ({ cls := "TrailStore$Keeper", name := "collectTail", desc := "(I)I" } : Jvm.MethodName), Jvm.Cond.selects "TrailStore$Keeper" ({ cls := "TrailStore$Keeper", name := "collectTail", desc := "(I)I" } : Jvm.MethodName) ({ cls := "TrailStore$Keeper", name := "collectTail", desc := "(I)I" } : Jvm.MethodName), Jvm.Cond.code ({ cls := "TrailStore$Keeper", name := "collectTail", desc := "(I)I" } : Jvm.MethodName) prog_6_method_11_code (8 : Nat) (Option.some Jvm.ClassFile.FieldType.int), Jvm.Cond.methodLink "TrailStore$Keeper" (205 : Nat) ({ cls := "TrailStore$Disk", name := "logByte", desc := "(I)I" } : Jvm.MethodName), Jvm.Cond.methodLink "TrailStore$Keeper" (208 : Nat) ({ cls := "TrailStore$Disk", name := "recordSize", desc := "(I)I" } : Jvm.MethodName), Jvm.Cond.methodLink "TrailStore$Keeper" (211 : Nat) ({ cls := "TrailStore$View", name := "find", desc := "(ILTrailStore$Found;)V" } : Jvm.MethodName), Jvm.Cond.instanceMethod ({ cls := "TrailStore$View", name := "find", desc := "(ILTrailStore$Found;)V" } : Jvm.MethodName), Jvm.Cond.selects "TrailStore$View" ({ cls := "TrailStore$View", name := "find", desc := "(ILTrailStore$Found;)V" } : Jvm.MethodName) ({ cls := "TrailStore$View", name := "find", desc := "(ILTrailStore$Found;)V" } : Jvm.MethodName), Jvm.Cond.code ({ cls := "TrailStore$View", name := "find", desc := "(ILTrailStore$Found;)V" } : Jvm.MethodName) prog_7_method_10_code (3 : Nat) (Option.none : Option Jvm.ClassFile.FieldType), Jvm.Cond.methodLink "TrailStore$View" (112 : Nat) ({ cls := "TrailStore$Found", name := "clear", desc := "()V" } : Jvm.MethodName), Jvm.Cond.instanceMethod ({ cls := "TrailStore$Found", name := "clear", desc := "()V" } : Jvm.MethodName), Jvm.Cond.selects "TrailStore$Found" ({ cls := "TrailStore$Found", name := "clear", desc := "()V" } : Jvm.MethodName) ({ cls := "TrailStore$Found", name := "clear", desc := "()V" } : Jvm.MethodName), Jvm.Cond.code ({ cls := "TrailStore$Found", name := "clear", desc := "()V" } : Jvm.MethodName) prog_5_method_2_code (1 : Nat) (Option.none : Option Jvm.ClassFile.FieldType), Jvm.Cond.methodLink "TrailStore$View" (115 : Nat) ({ cls := "TrailStore$Entries", name := "has", desc := "(I)Z" } : Jvm.MethodName), Jvm.Cond.methodLink "TrailStore$View" (137 : Nat) ({ cls := "TrailStore$View", name := "findInTables", desc := "(ILTrailStore$Found;)V" } : Jvm.MethodName), Jvm.Cond.privateMethod ({ cls := "TrailStore$View", name := "findInTables", desc := "(ILTrailStore$Found;)V" } : Jvm.MethodName), Jvm.Cond.instanceMethod ({ cls := "TrailStore$View", name := "findInTables", desc := "(ILTrailStore$Found;)V" } : Jvm.MethodName), Jvm.Cond.code ({ cls := "TrailStore$View", name := "findInTables", desc := "(ILTrailStore$Found;)V" } : Jvm.MethodName) prog_7_method_11_code (7 : Nat) (Option.none : Option Jvm.ClassFile.FieldType), Jvm.Cond.methodLink "TrailStore$View" (141 : Nat) ({ cls := "TrailStore$View", name := "filterBits", desc := "(I)I" } : Jvm.MethodName), Jvm.Cond.methodLink "TrailStore$View" (150 : Nat) ({ cls := "TrailStore$View", name := "entryCell", desc := "(II)I" } : Jvm.MethodName), Jvm.Cond.privateMethod ({ cls := "TrailStore$View", name := "entryCell", desc := "(II)I" } : Jvm.MethodName), Jvm.Cond.instanceMethod ({ cls := "TrailStore$View", name := "entryCell", desc := "(II)I" } : Jvm.MethodName), Jvm.Cond.code ({ cls := "TrailStore$View", name := "entryCell", desc := "(II)I" } : Jvm.MethodName) prog_7_method_12_code (9 : Nat) (Option.some Jvm.ClassFile.FieldType.int), Jvm.Cond.methodLink "TrailStore$Keeper" (219 : Nat) ({ cls := "TrailStore$Entries", name := "has", desc := "(I)Z" } : Jvm.MethodName)]
def rw_18 : List Cond := [Jvm.Cond.methodLink "TrailStore$Keeper" (222 : Nat) ({ cls := "TrailStore$Disk", name := "copyValue", desc := "(I[B)I" } : Jvm.MethodName), Jvm.Cond.instanceMethod ({ cls := "TrailStore$Disk", name := "copyValue", desc := "(I[B)I" } : Jvm.MethodName), Jvm.Cond.selects "TrailStore$Disk" ({ cls := "TrailStore$Disk", name := "copyValue", desc := "(I[B)I" } : Jvm.MethodName) ({ cls := "TrailStore$Disk", name := "copyValue", desc := "(I[B)I" } : Jvm.MethodName), Jvm.Cond.code ({ cls := "TrailStore$Disk", name := "copyValue", desc := "(I[B)I" } : Jvm.MethodName) prog_3_method_11_code (5 : Nat) (Option.some Jvm.ClassFile.FieldType.int), Jvm.Cond.methodLink "TrailStore$Disk" (45 : Nat) ({ cls := "java/lang/Math", name := "min", desc := "(II)I" } : Jvm.MethodName), Jvm.Cond.methodLink "TrailStore$Keeper" (119 : Nat) ({ cls := "TrailStore$Keeper", name := "append", desc := "(II[BI)V" } : Jvm.MethodName), Jvm.Cond.privateMethod ({ cls := "TrailStore$Keeper", name := "append", desc := "(II[BI)V" } : Jvm.MethodName), Jvm.Cond.instanceMethod ({ cls := "TrailStore$Keeper", name := "append", desc := "(II[BI)V" } : Jvm.MethodName), Jvm.Cond.code ({ cls := "TrailStore$Keeper", name := "append", desc := "(II[BI)V" } : Jvm.MethodName) prog_6_method_6_code (5 : Nat) (Option.none : Option Jvm.ClassFile.FieldType), Jvm.Cond.methodLink "TrailStore$Keeper" (133 : Nat) ({ cls := "TrailStore$Entries", name := "set", desc := "(IIII)V" } : Jvm.MethodName), Jvm.Cond.methodLink "TrailStore$Keeper" (98 : Nat) ({ cls := "TrailStore$Keeper", name := "appendAll", desc := "(LTrailStore$Batch;)V" } : Jvm.MethodName), Jvm.Cond.privateMethod ({ cls := "TrailStore$Keeper", name := "appendAll", desc := "(LTrailStore$Batch;)V" } : Jvm.MethodName), Jvm.Cond.instanceMethod ({ cls := "TrailStore$Keeper", name := "appendAll", desc := "(LTrailStore$Batch;)V" } : Jvm.MethodName), Jvm.Cond.code ({ cls := "TrailStore$Keeper", name := "appendAll", desc := "(LTrailStore$Batch;)V" } : Jvm.MethodName) prog_6_method_4_code (4 : Nat) (Option.none : Option Jvm.ClassFile.FieldType), Jvm.Cond.methodLink "TrailStore" (112 : Nat) ({ cls := "TrailStore", name := "batchOver", desc := "(I)I" } : Jvm.MethodName), Jvm.Cond.privateMethod ({ cls := "TrailStore", name := "batchOver", desc := "(I)I" } : Jvm.MethodName), Jvm.Cond.instanceMethod ({ cls := "TrailStore", name := "batchOver", desc := "(I)I" } : Jvm.MethodName), Jvm.Cond.code ({ cls := "TrailStore", name := "batchOver", desc := "(I)I" } : Jvm.MethodName) prog_1_method_29_code (2 : Nat) (Option.some Jvm.ClassFile.FieldType.int), Jvm.Cond.methodLink "TrailStore" (155 : Nat) ({ cls := "TrailStore", name := "ended", desc := "(I)I" } : Jvm.MethodName), Jvm.Cond.privateMethod ({ cls := "TrailStore", name := "ended", desc := "(I)I" } : Jvm.MethodName), Jvm.Cond.instanceMethod ({ cls := "TrailStore", name := "ended", desc := "(I)I" } : Jvm.MethodName), Jvm.Cond.code ({ cls := "TrailStore", name := "ended", desc := "(I)I" } : Jvm.MethodName) prog_1_method_30_code (2 : Nat) (Option.some Jvm.ClassFile.FieldType.int), Jvm.Cond.methodLink "TrailStore" (161 : Nat) ({ cls := "TrailStore", name := "losePower", desc := "(II)V" } : Jvm.MethodName), Jvm.Cond.privateMethod ({ cls := "TrailStore", name := "losePower", desc := "(II)V" } : Jvm.MethodName), Jvm.Cond.instanceMethod ({ cls := "TrailStore", name := "losePower", desc := "(II)V" } : Jvm.MethodName), Jvm.Cond.code ({ cls := "TrailStore", name := "losePower", desc := "(II)V" } : Jvm.MethodName) prog_1_method_31_code (3 : Nat) (Option.none : Option Jvm.ClassFile.FieldType), Jvm.Cond.methodLink "TrailStore" (258 : Nat) ({ cls := "TrailStore$Disk", name := "takeBack", desc := "(II)V" } : Jvm.MethodName), Jvm.Cond.instanceMethod ({ cls := "TrailStore$Disk", name := "takeBack", desc := "(II)V" } : Jvm.MethodName), Jvm.Cond.selects "TrailStore$Disk" ({ cls := "TrailStore$Disk", name := "takeBack", desc := "(II)V" } : Jvm.MethodName) ({ cls := "TrailStore$Disk", name := "takeBack", desc := "(II)V" } : Jvm.MethodName), Jvm.Cond.code ({ cls := "TrailStore$Disk", name := "takeBack", desc := "(II)V" } : Jvm.MethodName) prog_3_method_15_code (6 : Nat) (Option.none : Option Jvm.ClassFile.FieldType), Jvm.Cond.methodLink "TrailStoreLaw" (33 : Nat) ({ cls := "TrailStore", name := "remove", desc := "(I)I" } : Jvm.MethodName), Jvm.Cond.instanceMethod ({ cls := "TrailStore", name := "remove", desc := "(I)I" } : Jvm.MethodName)]
def rw_19 : List Cond := [Jvm.Cond.selects "TrailStore" ({ cls := "TrailStore", name := "remove", desc := "(I)I" } : Jvm.MethodName) ({ cls := "TrailStore", name := "remove", desc := "(I)I" } : Jvm.MethodName), Jvm.Cond.code ({ cls := "TrailStore", name := "remove", desc := "(I)I" } : Jvm.MethodName) prog_1_method_4_code (2 : Nat) (Option.some Jvm.ClassFile.FieldType.int), Jvm.Cond.methodLink "TrailStore" (116 : Nat) ({ cls := "TrailStore", name := "isThere", desc := "(I)Z" } : Jvm.MethodName), Jvm.Cond.privateMethod ({ cls := "TrailStore", name := "isThere", desc := "(I)Z" } : Jvm.MethodName), Jvm.Cond.instanceMethod ({ cls := "TrailStore", name := "isThere", desc := "(I)Z" } : Jvm.MethodName), Jvm.Cond.code ({ cls := "TrailStore", name := "isThere", desc := "(I)Z" } : Jvm.MethodName) prog_1_method_24_code (2 : Nat) (Option.some Jvm.ClassFile.FieldType.boolean), Jvm.Cond.methodLink "TrailStore" (122 : Nat) ({ cls := "TrailStore$View", name := "find", desc := "(ILTrailStore$Found;)V" } : Jvm.MethodName), Jvm.Cond.methodLink "TrailStoreLaw" (37 : Nat) ({ cls := "TrailStore", name := "begin", desc := "()I" } : Jvm.MethodName), Jvm.Cond.instanceMethod ({ cls := "TrailStore", name := "begin", desc := "()I" } : Jvm.MethodName), Jvm.Cond.selects "TrailStore" ({ cls := "TrailStore", name := "begin", desc := "()I" } : Jvm.MethodName) ({ cls := "TrailStore", name := "begin", desc := "()I" } : Jvm.MethodName), Jvm.Cond.code ({ cls := "TrailStore", name := "begin", desc := "()I" } : Jvm.MethodName) prog_1_method_5_code (1 : Nat) (Option.some Jvm.ClassFile.FieldType.int), Jvm.Cond.methodLink "TrailStoreLaw" (42 : Nat) ({ cls := "TrailStore", name := "commit", desc := "()I" } : Jvm.MethodName), Jvm.Cond.instanceMethod ({ cls := "TrailStore", name := "commit", desc := "()I" } : Jvm.MethodName), Jvm.Cond.selects "TrailStore" ({ cls := "TrailStore", name := "commit", desc := "()I" } : Jvm.MethodName) ({ cls := "TrailStore", name := "commit", desc := "()I" } : Jvm.MethodName), Jvm.Cond.code ({ cls := "TrailStore", name := "commit", desc := "()I" } : Jvm.MethodName) prog_1_method_6_code (1 : Nat) (Option.some Jvm.ClassFile.FieldType.int), Jvm.Cond.methodLink "TrailStoreLaw" (46 : Nat) ({ cls := "TrailStore", name := "cancel", desc := "()I" } : Jvm.MethodName), Jvm.Cond.instanceMethod ({ cls := "TrailStore", name := "cancel", desc := "()I" } : Jvm.MethodName), Jvm.Cond.selects "TrailStore" ({ cls := "TrailStore", name := "cancel", desc := "()I" } : Jvm.MethodName) ({ cls := "TrailStore", name := "cancel", desc := "()I" } : Jvm.MethodName), Jvm.Cond.code ({ cls := "TrailStore", name := "cancel", desc := "()I" } : Jvm.MethodName) prog_1_method_7_code (1 : Nat) (Option.some Jvm.ClassFile.FieldType.int), Jvm.Cond.methodLink "TrailStoreLaw" (50 : Nat) ({ cls := "TrailStore", name := "get", desc := "(I)I" } : Jvm.MethodName), Jvm.Cond.instanceMethod ({ cls := "TrailStore", name := "get", desc := "(I)I" } : Jvm.MethodName), Jvm.Cond.selects "TrailStore" ({ cls := "TrailStore", name := "get", desc := "(I)I" } : Jvm.MethodName) ({ cls := "TrailStore", name := "get", desc := "(I)I" } : Jvm.MethodName), Jvm.Cond.code ({ cls := "TrailStore", name := "get", desc := "(I)I" } : Jvm.MethodName) prog_1_method_8_code (2 : Nat) (Option.some Jvm.ClassFile.FieldType.int), Jvm.Cond.methodLink "TrailStore" (132 : Nat) ({ cls := "TrailStore$Disk", name := "copyValue", desc := "(I[B)I" } : Jvm.MethodName), Jvm.Cond.methodLink "TrailStoreLaw" (54 : Nat) ({ cls := "TrailStore", name := "read", desc := "(I)I" } : Jvm.MethodName), Jvm.Cond.instanceMethod ({ cls := "TrailStore", name := "read", desc := "(I)I" } : Jvm.MethodName), Jvm.Cond.selects "TrailStore" ({ cls := "TrailStore", name := "read", desc := "(I)I" } : Jvm.MethodName) ({ cls := "TrailStore", name := "read", desc := "(I)I" } : Jvm.MethodName), Jvm.Cond.code ({ cls := "TrailStore", name := "read", desc := "(I)I" } : Jvm.MethodName) prog_1_method_9_code (2 : Nat) (Option.some Jvm.ClassFile.FieldType.int), Jvm.Cond.methodLink "TrailStoreLaw" (58 : Nat) ({ cls := "TrailStore", name := "next", desc := "(I)I" } : Jvm.MethodName), Jvm.Cond.instanceMethod ({ cls := "TrailStore", name := "next", desc := "(I)I" } : Jvm.MethodName), Jvm.Cond.selects "TrailStore" ({ cls := "TrailStore", name := "next", desc := "(I)I" } : Jvm.MethodName) ({ cls := "TrailStore", name := "next", desc := "(I)I" } : Jvm.MethodName), Jvm.Cond.code ({ cls := "TrailStore", name := "next", desc := "(I)I" } : Jvm.MethodName) prog_1_method_10_code (3 : Nat) (Option.some Jvm.ClassFile.FieldType.int)]
def rw_20 : List Cond := [Jvm.Cond.methodLink "TrailStore" (136 : Nat) ({ cls := "TrailStore$View", name := "gatherAll", desc := "(LTrailStore$Entries;)V" } : Jvm.MethodName), Jvm.Cond.instanceMethod ({ cls := "TrailStore$View", name := "gatherAll", desc := "(LTrailStore$Entries;)V" } : Jvm.MethodName), Jvm.Cond.selects "TrailStore$View" ({ cls := "TrailStore$View", name := "gatherAll", desc := "(LTrailStore$Entries;)V" } : Jvm.MethodName) ({ cls := "TrailStore$View", name := "gatherAll", desc := "(LTrailStore$Entries;)V" } : Jvm.MethodName), Jvm.Cond.code ({ cls := "TrailStore$View", name := "gatherAll", desc := "(LTrailStore$Entries;)V" } : Jvm.MethodName) prog_7_method_14_code (3 : Nat) (Option.none : Option Jvm.ClassFile.FieldType), Jvm.Cond.methodLink "TrailStore$View" (153 : Nat) ({ cls := "TrailStore$View", name := "gatherTables", desc := "(ILTrailStore$Entries;)V" } : Jvm.MethodName), Jvm.Cond.methodLink "TrailStoreLaw" (62 : Nat) ({ cls := "TrailStore", name := "sync", desc := "()I" } : Jvm.MethodName), Jvm.Cond.instanceMethod ({ cls := "TrailStore", name := "sync", desc := "()I" } : Jvm.MethodName), Jvm.Cond.selects "TrailStore" ({ cls := "TrailStore", name := "sync", desc := "()I" } : Jvm.MethodName) ({ cls := "TrailStore", name := "sync", desc := "()I" } : Jvm.MethodName), Jvm.Cond.code ({ cls := "TrailStore", name := "sync", desc := "()I" } : Jvm.MethodName) prog_1_method_11_code (2 : Nat) (Option.some Jvm.ClassFile.FieldType.int), Jvm.Cond.methodLink "TrailStore" (146 : Nat) ({ cls := "TrailStore$Disk", name := "makeLasting", desc := "()V" } : Jvm.MethodName), Jvm.Cond.methodLink "TrailStoreLaw" (66 : Nat) ({ cls := "TrailStore", name := "checkpoint", desc := "()I" } : Jvm.MethodName), Jvm.Cond.instanceMethod ({ cls := "TrailStore", name := "checkpoint", desc := "()I" } : Jvm.MethodName), Jvm.Cond.selects "TrailStore" ({ cls := "TrailStore", name := "checkpoint", desc := "()I" } : Jvm.MethodName) ({ cls := "TrailStore", name := "checkpoint", desc := "()I" } : Jvm.MethodName), Jvm.Cond.code ({ cls := "TrailStore", name := "checkpoint", desc := "()I" } : Jvm.MethodName) prog_1_method_12_code (1 : Nat) (Option.some Jvm.ClassFile.FieldType.int), Jvm.Cond.methodLink "TrailStore" (149 : Nat) ({ cls := "TrailStore$Keeper", name := "makeCheckpoint", desc := "()V" } : Jvm.MethodName), Jvm.Cond.methodLink "TrailStoreLaw" (70 : Nat) ({ cls := "TrailStore", name := "collect", desc := "(I)I" } : Jvm.MethodName), Jvm.Cond.instanceMethod ({ cls := "TrailStore", name := "collect", desc := "(I)I" } : Jvm.MethodName), Jvm.Cond.selects "TrailStore" ({ cls := "TrailStore", name := "collect", desc := "(I)I" } : Jvm.MethodName) ({ cls := "TrailStore", name := "collect", desc := "(I)I" } : Jvm.MethodName), Jvm.Cond.code ({ cls := "TrailStore", name := "collect", desc := "(I)I" } : Jvm.MethodName) prog_1_method_13_code (2 : Nat) (Option.some Jvm.ClassFile.FieldType.int), Jvm.Cond.methodLink "TrailStore" (158 : Nat) ({ cls := "TrailStore$Keeper", name := "collectTail", desc := "(I)I" } : Jvm.MethodName), Jvm.Cond.methodLink "TrailStoreLaw" (74 : Nat) ({ cls := "TrailStore", name := "crash", desc := "(II)I" } : Jvm.MethodName), Jvm.Cond.instanceMethod ({ cls := "TrailStore", name := "crash", desc := "(II)I" } : Jvm.MethodName), Jvm.Cond.selects "TrailStore" ({ cls := "TrailStore", name := "crash", desc := "(II)I" } : Jvm.MethodName) ({ cls := "TrailStore", name := "crash", desc := "(II)I" } : Jvm.MethodName), Jvm.Cond.code ({ cls := "TrailStore", name := "crash", desc := "(II)I" } : Jvm.MethodName) prog_1_method_14_code (4 : Nat) (Option.some Jvm.ClassFile.FieldType.int), Jvm.Cond.methodLink "TrailStoreLaw" (79 : Nat) ({ cls := "TrailStore", name := "fail", desc := "(III)I" } : Jvm.MethodName), Jvm.Cond.instanceMethod ({ cls := "TrailStore", name := "fail", desc := "(III)I" } : Jvm.MethodName), Jvm.Cond.selects "TrailStore" ({ cls := "TrailStore", name := "fail", desc := "(III)I" } : Jvm.MethodName) ({ cls := "TrailStore", name := "fail", desc := "(III)I" } : Jvm.MethodName), Jvm.Cond.code ({ cls := "TrailStore", name := "fail", desc := "(III)I" } : Jvm.MethodName) prog_1_method_15_code (4 : Nat) (Option.some Jvm.ClassFile.FieldType.int), Jvm.Cond.methodLink "TrailStoreLaw" (84 : Nat) ({ cls := "TrailStore", name := "spare", desc := "()I" } : Jvm.MethodName), Jvm.Cond.instanceMethod ({ cls := "TrailStore", name := "spare", desc := "()I" } : Jvm.MethodName), Jvm.Cond.selects "TrailStore" ({ cls := "TrailStore", name := "spare", desc := "()I" } : Jvm.MethodName) ({ cls := "TrailStore", name := "spare", desc := "()I" } : Jvm.MethodName), Jvm.Cond.code ({ cls := "TrailStore", name := "spare", desc := "()I" } : Jvm.MethodName) prog_1_method_16_code (2 : Nat) (Option.some Jvm.ClassFile.FieldType.int)]
def rw_21 : List Cond := [Jvm.Cond.methodLink "TrailStoreLaw" (88 : Nat) ({ cls := "TrailStore", name := "open", desc := "()I" } : Jvm.MethodName), Jvm.Cond.instanceMethod ({ cls := "TrailStore", name := "open", desc := "()I" } : Jvm.MethodName), Jvm.Cond.selects "TrailStore" ({ cls := "TrailStore", name := "open", desc := "()I" } : Jvm.MethodName) ({ cls := "TrailStore", name := "open", desc := "()I" } : Jvm.MethodName), Jvm.Cond.code ({ cls := "TrailStore", name := "open", desc := "()I" } : Jvm.MethodName) prog_1_method_17_code (1 : Nat) (Option.some Jvm.ClassFile.FieldType.int), Jvm.Cond.methodLink "TrailStore" (174 : Nat) ({ cls := "TrailStore$Found", name := "clear", desc := "()V" } : Jvm.MethodName), Jvm.Cond.methodLink "TrailStoreLaw" (92 : Nat) ({ cls := "TrailStore", name := "told", desc := "(I)I" } : Jvm.MethodName), Jvm.Cond.instanceMethod ({ cls := "TrailStore", name := "told", desc := "(I)I" } : Jvm.MethodName), Jvm.Cond.selects "TrailStore" ({ cls := "TrailStore", name := "told", desc := "(I)I" } : Jvm.MethodName) ({ cls := "TrailStore", name := "told", desc := "(I)I" } : Jvm.MethodName), Jvm.Cond.code ({ cls := "TrailStore", name := "told", desc := "(I)I" } : Jvm.MethodName) prog_1_method_18_code (2 : Nat) (Option.some Jvm.ClassFile.FieldType.int), Jvm.Cond.methodLink "TrailStore" (202 : Nat) ({ cls := "TrailStore", name := "keysThere", desc := "()I" } : Jvm.MethodName), Jvm.Cond.privateMethod ({ cls := "TrailStore", name := "keysThere", desc := "()I" } : Jvm.MethodName), Jvm.Cond.instanceMethod ({ cls := "TrailStore", name := "keysThere", desc := "()I" } : Jvm.MethodName), Jvm.Cond.code ({ cls := "TrailStore", name := "keysThere", desc := "()I" } : Jvm.MethodName) prog_1_method_25_code (3 : Nat) (Option.some Jvm.ClassFile.FieldType.int), Jvm.Cond.methodLink "TrailStore" (205 : Nat) ({ cls := "TrailStore", name := "bytesThere", desc := "()I" } : Jvm.MethodName), Jvm.Cond.privateMethod ({ cls := "TrailStore", name := "bytesThere", desc := "()I" } : Jvm.MethodName), Jvm.Cond.instanceMethod ({ cls := "TrailStore", name := "bytesThere", desc := "()I" } : Jvm.MethodName), Jvm.Cond.code ({ cls := "TrailStore", name := "bytesThere", desc := "()I" } : Jvm.MethodName) prog_1_method_26_code (3 : Nat) (Option.some Jvm.ClassFile.FieldType.int), Jvm.Cond.methodLink "TrailStore" (243 : Nat) ({ cls := "TrailStore$Disk", name := "recordSize", desc := "(I)I" } : Jvm.MethodName), Jvm.Cond.methodLink "TrailStoreLaw" (96 : Nat) ({ cls := "TrailStore", name := "table", desc := "(II)I" } : Jvm.MethodName), Jvm.Cond.instanceMethod ({ cls := "TrailStore", name := "table", desc := "(II)I" } : Jvm.MethodName), Jvm.Cond.selects "TrailStore" ({ cls := "TrailStore", name := "table", desc := "(II)I" } : Jvm.MethodName) ({ cls := "TrailStore", name := "table", desc := "(II)I" } : Jvm.MethodName), Jvm.Cond.code ({ cls := "TrailStore", name := "table", desc := "(II)I" } : Jvm.MethodName) prog_1_method_19_code (5 : Nat) (Option.some Jvm.ClassFile.FieldType.int), Jvm.Cond.methodLink "TrailStore" (211 : Nat) ({ cls := "TrailStore$View", name := "tableStart", desc := "(I)I" } : Jvm.MethodName), Jvm.Cond.methodLink "TrailStore" (214 : Nat) ({ cls := "TrailStore$Disk", name := "byteAt", desc := "(I)I" } : Jvm.MethodName), Jvm.Cond.methodLink "TrailStore" (220 : Nat) ({ cls := "TrailStore$Disk", name := "numberAt", desc := "(I)I" } : Jvm.MethodName), Jvm.Cond.methodLink "TrailStoreLaw" (100 : Nat) ({ cls := "TrailStore", name := "entry", desc := "(II)I" } : Jvm.MethodName), Jvm.Cond.instanceMethod ({ cls := "TrailStore", name := "entry", desc := "(II)I" } : Jvm.MethodName), Jvm.Cond.selects "TrailStore" ({ cls := "TrailStore", name := "entry", desc := "(II)I" } : Jvm.MethodName) ({ cls := "TrailStore", name := "entry", desc := "(II)I" } : Jvm.MethodName), Jvm.Cond.code ({ cls := "TrailStore", name := "entry", desc := "(II)I" } : Jvm.MethodName) prog_1_method_20_code (3 : Nat) (Option.some Jvm.ClassFile.FieldType.int), Jvm.Cond.methodLink "TrailStoreLaw" (104 : Nat) ({ cls := "TrailStore", name := "cell", desc := "(II)I" } : Jvm.MethodName), Jvm.Cond.instanceMethod ({ cls := "TrailStore", name := "cell", desc := "(II)I" } : Jvm.MethodName), Jvm.Cond.selects "TrailStore" ({ cls := "TrailStore", name := "cell", desc := "(II)I" } : Jvm.MethodName) ({ cls := "TrailStore", name := "cell", desc := "(II)I" } : Jvm.MethodName)]
def rw_22 : List Cond := [Jvm.Cond.code ({ cls := "TrailStore", name := "cell", desc := "(II)I" } : Jvm.MethodName) prog_1_method_21_code (4 : Nat) (Option.some Jvm.ClassFile.FieldType.int), Jvm.Cond.methodLink "TrailStore" (229 : Nat) ({ cls := "TrailStore$Disk", name := "cellOf", desc := "(II)I" } : Jvm.MethodName), Jvm.Cond.instanceMethod ({ cls := "TrailStore$Disk", name := "cellOf", desc := "(II)I" } : Jvm.MethodName), Jvm.Cond.selects "TrailStore$Disk" ({ cls := "TrailStore$Disk", name := "cellOf", desc := "(II)I" } : Jvm.MethodName) ({ cls := "TrailStore$Disk", name := "cellOf", desc := "(II)I" } : Jvm.MethodName), Jvm.Cond.code ({ cls := "TrailStore$Disk", name := "cellOf", desc := "(II)I" } : Jvm.MethodName) prog_3_method_2_code (3 : Nat) (Option.some Jvm.ClassFile.FieldType.int), Jvm.Cond.methodLink "TrailStore$Disk" (29 : Nat) ({ cls := "TrailStore$Disk", name := "tableCell", desc := "(I)I" } : Jvm.MethodName), Jvm.Cond.methodLink "TrailStore$Disk" (33 : Nat) ({ cls := "TrailStore$Disk", name := "rootCell", desc := "(I)I" } : Jvm.MethodName), Jvm.Cond.methodLink "TrailStoreLaw" (107 : Nat) ({ cls := "TrailStore", name := "check", desc := "()I" } : Jvm.MethodName), Jvm.Cond.instanceMethod ({ cls := "TrailStore", name := "check", desc := "()I" } : Jvm.MethodName), Jvm.Cond.selects "TrailStore" ({ cls := "TrailStore", name := "check", desc := "()I" } : Jvm.MethodName) ({ cls := "TrailStore", name := "check", desc := "()I" } : Jvm.MethodName), Jvm.Cond.code ({ cls := "TrailStore", name := "check", desc := "()I" } : Jvm.MethodName) prog_1_method_22_code (3 : Nat) (Option.some Jvm.ClassFile.FieldType.int), Jvm.Cond.methodLink "TrailStore" (232 : Nat) ({ cls := "TrailStore$View", name := "load", desc := "()I" } : Jvm.MethodName), Jvm.Cond.methodLink "TrailStore" (235 : Nat) ({ cls := "TrailStore", name := "hasItsRecord", desc := "(I)Z" } : Jvm.MethodName), Jvm.Cond.privateMethod ({ cls := "TrailStore", name := "hasItsRecord", desc := "(I)Z" } : Jvm.MethodName), Jvm.Cond.instanceMethod ({ cls := "TrailStore", name := "hasItsRecord", desc := "(I)Z" } : Jvm.MethodName), Jvm.Cond.code ({ cls := "TrailStore", name := "hasItsRecord", desc := "(I)Z" } : Jvm.MethodName) prog_1_method_27_code (3 : Nat) (Option.some Jvm.ClassFile.FieldType.boolean), Jvm.Cond.methodLink "TrailStore" (248 : Nat) ({ cls := "TrailStore$View", name := "isRecord", desc := "(II)Z" } : Jvm.MethodName), Jvm.Cond.methodLink "TrailStore" (252 : Nat) ({ cls := "TrailStore$Disk", name := "logByte", desc := "(I)I" } : Jvm.MethodName), Jvm.Cond.methodLink "TrailStore" (238 : Nat) ({ cls := "TrailStore", name := "isSameReopened", desc := "(I)Z" } : Jvm.MethodName), Jvm.Cond.privateMethod ({ cls := "TrailStore", name := "isSameReopened", desc := "(I)Z" } : Jvm.MethodName), Jvm.Cond.instanceMethod ({ cls := "TrailStore", name := "isSameReopened", desc := "(I)Z" } : Jvm.MethodName), Jvm.Cond.code ({ cls := "TrailStore", name := "isSameReopened", desc := "(I)Z" } : Jvm.MethodName) prog_1_method_28_code (3 : Nat) (Option.some Jvm.ClassFile.FieldType.boolean), Jvm.Cond.methodLink "TrailStore" (255 : Nat) ({ cls := "TrailStore$Disk", name := "sameValue", desc := "(II)Z" } : Jvm.MethodName), Jvm.Cond.instanceMethod ({ cls := "TrailStore$Disk", name := "sameValue", desc := "(II)Z" } : Jvm.MethodName), Jvm.Cond.selects "TrailStore$Disk" ({ cls := "TrailStore$Disk", name := "sameValue", desc := "(II)Z" } : Jvm.MethodName) ({ cls := "TrailStore$Disk", name := "sameValue", desc := "(II)Z" } : Jvm.MethodName), Jvm.Cond.code ({ cls := "TrailStore$Disk", name := "sameValue", desc := "(II)Z" } : Jvm.MethodName) prog_3_method_12_code (6 : Nat) (Option.some Jvm.ClassFile.FieldType.boolean), Jvm.Cond.methodLink "TrailStore$Disk" (51 : Nat) ({ cls := "TrailStore$Disk", name := "recordSize", desc := "(I)I" } : Jvm.MethodName), Jvm.Cond.methodLink "TrailStoreLaw" (9 : Nat) ({ cls := "TrailStoreLaw", name := "cell", desc := "([II)I" } : Jvm.MethodName), Jvm.Cond.static ({ cls := "TrailStoreLaw", name := "cell", desc := "([II)I" } : Jvm.MethodName), Jvm.Cond.code ({ cls := "TrailStoreLaw", name := "cell", desc := "([II)I" } : Jvm.MethodName) method_2_code (2 : Nat) (Option.some Jvm.ClassFile.FieldType.int), Jvm.Cond.classLink "TrailStoreLaw" (18 : Nat) "TrailStoreModel", Jvm.Cond.instantiable "TrailStoreModel" (51 : Nat)]
def rw_23 : List Cond := [Jvm.Cond.methodLink "TrailStoreLaw" (20 : Nat) ({ cls := "TrailStoreModel", name := "<init>", desc := "(I)V" } : Jvm.MethodName), Jvm.Cond.instanceMethod ({ cls := "TrailStoreModel", name := "<init>", desc := "(I)V" } : Jvm.MethodName), Jvm.Cond.code ({ cls := "TrailStoreModel", name := "<init>", desc := "(I)V" } : Jvm.MethodName) prog_9_method_1_code (3 : Nat) (Option.none : Option Jvm.ClassFile.FieldType), Jvm.Cond.methodLink "TrailStoreModel" (1 : Nat) ({ cls := "java/lang/Object", name := "<init>", desc := "()V" } : Jvm.MethodName), Jvm.Cond.constant "TrailStoreModel" (35 : Nat) (90000 : Int32), Jvm.Cond.methodLink "TrailStoreModel" (92 : Nat) ({ cls := "TrailStoreModel", name := "openDisk", desc := "()I" } : Jvm.MethodName), Jvm.Cond.privateMethod ({ cls := "TrailStoreModel", name := "openDisk", desc := "()I" } : Jvm.MethodName), Jvm.Cond.instanceMethod ({ cls := "TrailStoreModel", name := "openDisk", desc := "()I" } : Jvm.MethodName), Jvm.Cond.code ({ cls := "TrailStoreModel", name := "openDisk", desc := "()I" } : Jvm.MethodName) prog_9_method_38_code (7 : Nat) (Option.some Jvm.ClassFile.FieldType.int), Jvm.Cond.methodLink "TrailStoreModel" (141 : Nat) ({ cls := "TrailStoreModel", name := "four", desc := "(II)I" } : Jvm.MethodName), Jvm.Cond.privateMethod ({ cls := "TrailStoreModel", name := "four", desc := "(II)I" } : Jvm.MethodName), Jvm.Cond.instanceMethod ({ cls := "TrailStoreModel", name := "four", desc := "(II)I" } : Jvm.MethodName), Jvm.Cond.code ({ cls := "TrailStoreModel", name := "four", desc := "(II)I" } : Jvm.MethodName) prog_9_method_4_code (3 : Nat) (Option.some Jvm.ClassFile.FieldType.int), Jvm.Cond.methodLink "TrailStoreModel" (100 : Nat) ({ cls := "TrailStoreModel", name := "byteAt", desc := "(II)I" } : Jvm.MethodName), Jvm.Cond.privateMethod ({ cls := "TrailStoreModel", name := "byteAt", desc := "(II)I" } : Jvm.MethodName), Jvm.Cond.instanceMethod ({ cls := "TrailStoreModel", name := "byteAt", desc := "(II)I" } : Jvm.MethodName), Jvm.Cond.code ({ cls := "TrailStoreModel", name := "byteAt", desc := "(II)I" } : Jvm.MethodName) prog_9_method_3_code (3 : Nat) (Option.some Jvm.ClassFile.FieldType.int), Jvm.Cond.methodLink "TrailStoreModel" (96 : Nat) ({ cls := "TrailStoreModel", name := "placeOf", desc := "(II)I" } : Jvm.MethodName), Jvm.Cond.privateMethod ({ cls := "TrailStoreModel", name := "placeOf", desc := "(II)I" } : Jvm.MethodName), Jvm.Cond.instanceMethod ({ cls := "TrailStoreModel", name := "placeOf", desc := "(II)I" } : Jvm.MethodName), Jvm.Cond.code ({ cls := "TrailStoreModel", name := "placeOf", desc := "(II)I" } : Jvm.MethodName) prog_9_method_2_code (3 : Nat) (Option.some Jvm.ClassFile.FieldType.int), Jvm.Cond.methodLink "TrailStoreModel" (270 : Nat) ({ cls := "TrailStoreModel", name := "isRecord", desc := "(II)Z" } : Jvm.MethodName), Jvm.Cond.privateMethod ({ cls := "TrailStoreModel", name := "isRecord", desc := "(II)Z" } : Jvm.MethodName), Jvm.Cond.instanceMethod ({ cls := "TrailStoreModel", name := "isRecord", desc := "(II)Z" } : Jvm.MethodName), Jvm.Cond.code ({ cls := "TrailStoreModel", name := "isRecord", desc := "(II)Z" } : Jvm.MethodName) prog_9_method_11_code (6 : Nat) (Option.some Jvm.ClassFile.FieldType.boolean), Jvm.Cond.methodLink "TrailStoreModel" (246 : Nat) ({ cls := "TrailStoreModel", name := "sizeAt", desc := "(I)I" } : Jvm.MethodName), Jvm.Cond.privateMethod ({ cls := "TrailStoreModel", name := "sizeAt", desc := "(I)I" } : Jvm.MethodName), Jvm.Cond.instanceMethod ({ cls := "TrailStoreModel", name := "sizeAt", desc := "(I)I" } : Jvm.MethodName), Jvm.Cond.code ({ cls := "TrailStoreModel", name := "sizeAt", desc := "(I)I" } : Jvm.MethodName) prog_9_method_12_code (2 : Nat) (Option.some Jvm.ClassFile.FieldType.int), Jvm.Cond.methodLink "TrailStoreModel" (257 : Nat) ({ cls := "TrailStoreModel", name := "remember", desc := "(IIII)V" } : Jvm.MethodName), Jvm.Cond.privateMethod ({ cls := "TrailStoreModel", name := "remember", desc := "(IIII)V" } : Jvm.MethodName), Jvm.Cond.instanceMethod ({ cls := "TrailStoreModel", name := "remember", desc := "(IIII)V" } : Jvm.MethodName)]
def rw_24 : List Cond := [Jvm.Cond.code ({ cls := "TrailStoreModel", name := "remember", desc := "(IIII)V" } : Jvm.MethodName) prog_9_method_14_code (5 : Nat) (Option.none : Option Jvm.ClassFile.FieldType), Jvm.Cond.methodLink "TrailStoreModel" (147 : Nat) ({ cls := "TrailStoreModel", name := "clearBuffer", desc := "(I)V" } : Jvm.MethodName), Jvm.Cond.privateMethod ({ cls := "TrailStoreModel", name := "clearBuffer", desc := "(I)V" } : Jvm.MethodName), Jvm.Cond.instanceMethod ({ cls := "TrailStoreModel", name := "clearBuffer", desc := "(I)V" } : Jvm.MethodName), Jvm.Cond.code ({ cls := "TrailStoreModel", name := "clearBuffer", desc := "(I)V" } : Jvm.MethodName) prog_9_method_6_code (3 : Nat) (Option.none : Option Jvm.ClassFile.FieldType), Jvm.Cond.methodLink "TrailStoreModel" (154 : Nat) ({ cls := "TrailStoreModel", name := "write", desc := "(III)V" } : Jvm.MethodName), Jvm.Cond.privateMethod ({ cls := "TrailStoreModel", name := "write", desc := "(III)V" } : Jvm.MethodName), Jvm.Cond.instanceMethod ({ cls := "TrailStoreModel", name := "write", desc := "(III)V" } : Jvm.MethodName), Jvm.Cond.code ({ cls := "TrailStoreModel", name := "write", desc := "(III)V" } : Jvm.MethodName) prog_9_method_7_code (5 : Nat) (Option.none : Option Jvm.ClassFile.FieldType), Jvm.Cond.methodLink "TrailStoreModel" (118 : Nat) ({ cls := "TrailStoreModel", name := "powerFails", desc := "(II)V" } : Jvm.MethodName), Jvm.Cond.privateMethod ({ cls := "TrailStoreModel", name := "powerFails", desc := "(II)V" } : Jvm.MethodName), Jvm.Cond.instanceMethod ({ cls := "TrailStoreModel", name := "powerFails", desc := "(II)V" } : Jvm.MethodName), Jvm.Cond.code ({ cls := "TrailStoreModel", name := "powerFails", desc := "(II)V" } : Jvm.MethodName) prog_9_method_10_code (4 : Nat) (Option.none : Option Jvm.ClassFile.FieldType), Jvm.Cond.methodLink "TrailStoreModel" (122 : Nat) ({ cls := "TrailStoreModel", name := "lastWrite", desc := "(II)V" } : Jvm.MethodName), Jvm.Cond.privateMethod ({ cls := "TrailStoreModel", name := "lastWrite", desc := "(II)V" } : Jvm.MethodName), Jvm.Cond.instanceMethod ({ cls := "TrailStoreModel", name := "lastWrite", desc := "(II)V" } : Jvm.MethodName), Jvm.Cond.code ({ cls := "TrailStoreModel", name := "lastWrite", desc := "(II)V" } : Jvm.MethodName) prog_9_method_8_code (4 : Nat) (Option.none : Option Jvm.ClassFile.FieldType), Jvm.Cond.methodLink "TrailStoreModel" (232 : Nat) ({ cls := "TrailStoreModel", name := "syncAll", desc := "()I" } : Jvm.MethodName), Jvm.Cond.privateMethod ({ cls := "TrailStoreModel", name := "syncAll", desc := "()I" } : Jvm.MethodName), Jvm.Cond.instanceMethod ({ cls := "TrailStoreModel", name := "syncAll", desc := "()I" } : Jvm.MethodName), Jvm.Cond.code ({ cls := "TrailStoreModel", name := "syncAll", desc := "()I" } : Jvm.MethodName) prog_9_method_9_code (3 : Nat) (Option.some Jvm.ClassFile.FieldType.int), Jvm.Cond.fieldLink "TrailStoreModel" (88 : Nat) "TrailStoreModel" "room" "I", Jvm.Cond.fieldLink "TrailStoreModel" (7 : Nat) "TrailStoreModel" "areaAt" "[I", Jvm.Cond.fieldLink "TrailStoreModel" (13 : Nat) "TrailStoreModel" "areaSizes" "[I", Jvm.Cond.fieldLink "TrailStoreModel" (16 : Nat) "TrailStoreModel" "disk" "[B", Jvm.Cond.fieldLink "TrailStoreModel" (20 : Nat) "TrailStoreModel" "lasting" "[B", Jvm.Cond.fieldLink "TrailStoreModel" (23 : Nat) "TrailStoreModel" "writeAreas" "[I", Jvm.Cond.fieldLink "TrailStoreModel" (26 : Nat) "TrailStoreModel" "writeAt" "[I", Jvm.Cond.fieldLink "TrailStoreModel" (29 : Nat) "TrailStoreModel" "writeSizes" "[I", Jvm.Cond.fieldLink "TrailStoreModel" (32 : Nat) "TrailStoreModel" "writeFrom" "[I", Jvm.Cond.fieldLink "TrailStoreModel" (36 : Nat) "TrailStoreModel" "written" "[B", Jvm.Cond.fieldLink "TrailStoreModel" (103 : Nat) "TrailStoreModel" "writes" "I"]
def rw_25 : List Cond := [Jvm.Cond.fieldLink "TrailStoreModel" (106 : Nat) "TrailStoreModel" "writtenSize" "I", Jvm.Cond.fieldLink "TrailStoreModel" (109 : Nat) "TrailStoreModel" "failing" "I", Jvm.Cond.fieldLink "TrailStoreModel" (112 : Nat) "TrailStoreModel" "failKeep" "I", Jvm.Cond.fieldLink "TrailStoreModel" (115 : Nat) "TrailStoreModel" "failCut" "I", Jvm.Cond.fieldLink "TrailStoreModel" (125 : Nat) "TrailStoreModel" "down" "Z", Jvm.Cond.fieldLink "TrailStoreModel" (39 : Nat) "TrailStoreModel" "tape" "[B", Jvm.Cond.fieldLink "TrailStoreModel" (129 : Nat) "TrailStoreModel" "tapeSize" "I", Jvm.Cond.fieldLink "TrailStoreModel" (42 : Nat) "TrailStoreModel" "got" "[B", Jvm.Cond.fieldLink "TrailStoreModel" (291 : Nat) "TrailStoreModel" "gotSize" "I", Jvm.Cond.fieldLink "TrailStoreModel" (273 : Nat) "TrailStoreModel" "looked" "I", Jvm.Cond.fieldLink "TrailStoreModel" (276 : Nat) "TrailStoreModel" "passed" "I", Jvm.Cond.fieldLink "TrailStoreModel" (132 : Nat) "TrailStoreModel" "inBatch" "Z", Jvm.Cond.fieldLink "TrailStoreModel" (135 : Nat) "TrailStoreModel" "batch" "I", Jvm.Cond.fieldLink "TrailStoreModel" (45 : Nat) "TrailStoreModel" "batchKinds" "[I", Jvm.Cond.fieldLink "TrailStoreModel" (48 : Nat) "TrailStoreModel" "batchKeys" "[I", Jvm.Cond.fieldLink "TrailStoreModel" (51 : Nat) "TrailStoreModel" "batchSizes" "[I", Jvm.Cond.fieldLink "TrailStoreModel" (54 : Nat) "TrailStoreModel" "batchValues" "[B", Jvm.Cond.fieldLink "TrailStoreModel" (151 : Nat) "TrailStoreModel" "head" "I", Jvm.Cond.fieldLink "TrailStoreModel" (144 : Nat) "TrailStoreModel" "tail" "I", Jvm.Cond.fieldLink "TrailStoreModel" (205 : Nat) "TrailStoreModel" "mark" "I", Jvm.Cond.fieldLink "TrailStoreModel" (208 : Nat) "TrailStoreModel" "markNumber" "I", Jvm.Cond.fieldLink "TrailStoreModel" (158 : Nat) "TrailStoreModel" "number" "I", Jvm.Cond.fieldLink "TrailStoreModel" (196 : Nat) "TrailStoreModel" "tableNumber" "I", Jvm.Cond.fieldLink "TrailStoreModel" (202 : Nat) "TrailStoreModel" "version" "I", Jvm.Cond.fieldLink "TrailStoreModel" (57 : Nat) "TrailStoreModel" "inUse" "[I", Jvm.Cond.fieldLink "TrailStoreModel" (179 : Nat) "TrailStoreModel" "tables" "I", Jvm.Cond.fieldLink "TrailStoreModel" (60 : Nat) "TrailStoreModel" "putAway" "[Z", Jvm.Cond.fieldLink "TrailStoreModel" (64 : Nat) "TrailStoreModel" "kinds" "[I", Jvm.Cond.fieldLink "TrailStoreModel" (67 : Nat) "TrailStoreModel" "numbers" "[I", Jvm.Cond.fieldLink "TrailStoreModel" (70 : Nat) "TrailStoreModel" "wheres" "[I", Jvm.Cond.fieldLink "TrailStoreModel" (138 : Nat) "TrailStoreModel" "entries" "I", Jvm.Cond.fieldLink "TrailStoreModel" (73 : Nat) "TrailStoreModel" "newKinds" "[I"]
def rw_26 : List Cond := [Jvm.Cond.fieldLink "TrailStoreModel" (76 : Nat) "TrailStoreModel" "newNumbers" "[I", Jvm.Cond.fieldLink "TrailStoreModel" (79 : Nat) "TrailStoreModel" "newWheres" "[I", Jvm.Cond.fieldLink "TrailStoreModel" (82 : Nat) "TrailStoreModel" "buffer" "[B", Jvm.Cond.fieldLink "TrailStoreModel" (167 : Nat) "TrailStoreModel" "entryKind" "I", Jvm.Cond.fieldLink "TrailStoreModel" (173 : Nat) "TrailStoreModel" "entryNumber" "I", Jvm.Cond.fieldLink "TrailStoreModel" (176 : Nat) "TrailStoreModel" "entryWhere" "I", Jvm.Cond.fieldLink "TrailStoreModel" (170 : Nat) "TrailStoreModel" "entryHere" "Z", Jvm.Cond.fieldLink "TrailStoreModel" (85 : Nat) "TrailStoreModel" "value" "[B", Jvm.Cond.laysFinal "TrailStoreModel" "TrailStoreModel" "room" "I", Jvm.Cond.soleField "TrailStoreModel" "room", Jvm.Cond.laysFinal "TrailStoreModel" "TrailStoreModel" "areaAt" "[I", Jvm.Cond.soleField "TrailStoreModel" "areaAt", Jvm.Cond.laysFinal "TrailStoreModel" "TrailStoreModel" "areaSizes" "[I", Jvm.Cond.soleField "TrailStoreModel" "areaSizes", Jvm.Cond.laysFinal "TrailStoreModel" "TrailStoreModel" "disk" "[B", Jvm.Cond.soleField "TrailStoreModel" "disk", Jvm.Cond.laysFinal "TrailStoreModel" "TrailStoreModel" "lasting" "[B", Jvm.Cond.soleField "TrailStoreModel" "lasting", Jvm.Cond.laysFinal "TrailStoreModel" "TrailStoreModel" "writeAreas" "[I", Jvm.Cond.soleField "TrailStoreModel" "writeAreas", Jvm.Cond.laysFinal "TrailStoreModel" "TrailStoreModel" "writeAt" "[I", Jvm.Cond.soleField "TrailStoreModel" "writeAt", Jvm.Cond.laysFinal "TrailStoreModel" "TrailStoreModel" "writeSizes" "[I", Jvm.Cond.soleField "TrailStoreModel" "writeSizes", Jvm.Cond.laysFinal "TrailStoreModel" "TrailStoreModel" "writeFrom" "[I", Jvm.Cond.soleField "TrailStoreModel" "writeFrom", Jvm.Cond.laysFinal "TrailStoreModel" "TrailStoreModel" "written" "[B", Jvm.Cond.soleField "TrailStoreModel" "written", Jvm.Cond.lays "TrailStoreModel" "TrailStoreModel" "writes" "I", Jvm.Cond.soleField "TrailStoreModel" "writes", Jvm.Cond.lays "TrailStoreModel" "TrailStoreModel" "writtenSize" "I", Jvm.Cond.soleField "TrailStoreModel" "writtenSize"]
def rw_27 : List Cond := [Jvm.Cond.lays "TrailStoreModel" "TrailStoreModel" "failing" "I", Jvm.Cond.soleField "TrailStoreModel" "failing", Jvm.Cond.lays "TrailStoreModel" "TrailStoreModel" "failKeep" "I", Jvm.Cond.soleField "TrailStoreModel" "failKeep", Jvm.Cond.lays "TrailStoreModel" "TrailStoreModel" "failCut" "I", Jvm.Cond.soleField "TrailStoreModel" "failCut", Jvm.Cond.lays "TrailStoreModel" "TrailStoreModel" "down" "Z", Jvm.Cond.soleField "TrailStoreModel" "down", Jvm.Cond.laysFinal "TrailStoreModel" "TrailStoreModel" "tape" "[B", Jvm.Cond.soleField "TrailStoreModel" "tape", Jvm.Cond.lays "TrailStoreModel" "TrailStoreModel" "tapeSize" "I", Jvm.Cond.soleField "TrailStoreModel" "tapeSize", Jvm.Cond.laysFinal "TrailStoreModel" "TrailStoreModel" "got" "[B", Jvm.Cond.soleField "TrailStoreModel" "got", Jvm.Cond.lays "TrailStoreModel" "TrailStoreModel" "gotSize" "I", Jvm.Cond.soleField "TrailStoreModel" "gotSize", Jvm.Cond.lays "TrailStoreModel" "TrailStoreModel" "looked" "I", Jvm.Cond.soleField "TrailStoreModel" "looked", Jvm.Cond.lays "TrailStoreModel" "TrailStoreModel" "passed" "I", Jvm.Cond.soleField "TrailStoreModel" "passed", Jvm.Cond.lays "TrailStoreModel" "TrailStoreModel" "inBatch" "Z", Jvm.Cond.soleField "TrailStoreModel" "inBatch", Jvm.Cond.lays "TrailStoreModel" "TrailStoreModel" "batch" "I", Jvm.Cond.soleField "TrailStoreModel" "batch", Jvm.Cond.laysFinal "TrailStoreModel" "TrailStoreModel" "batchKinds" "[I", Jvm.Cond.soleField "TrailStoreModel" "batchKinds", Jvm.Cond.laysFinal "TrailStoreModel" "TrailStoreModel" "batchKeys" "[I", Jvm.Cond.soleField "TrailStoreModel" "batchKeys", Jvm.Cond.laysFinal "TrailStoreModel" "TrailStoreModel" "batchSizes" "[I", Jvm.Cond.soleField "TrailStoreModel" "batchSizes", Jvm.Cond.laysFinal "TrailStoreModel" "TrailStoreModel" "batchValues" "[B", Jvm.Cond.soleField "TrailStoreModel" "batchValues"]
def rw_28 : List Cond := [Jvm.Cond.lays "TrailStoreModel" "TrailStoreModel" "head" "I", Jvm.Cond.soleField "TrailStoreModel" "head", Jvm.Cond.lays "TrailStoreModel" "TrailStoreModel" "tail" "I", Jvm.Cond.soleField "TrailStoreModel" "tail", Jvm.Cond.lays "TrailStoreModel" "TrailStoreModel" "mark" "I", Jvm.Cond.soleField "TrailStoreModel" "mark", Jvm.Cond.lays "TrailStoreModel" "TrailStoreModel" "markNumber" "I", Jvm.Cond.soleField "TrailStoreModel" "markNumber", Jvm.Cond.lays "TrailStoreModel" "TrailStoreModel" "number" "I", Jvm.Cond.soleField "TrailStoreModel" "number", Jvm.Cond.lays "TrailStoreModel" "TrailStoreModel" "tableNumber" "I", Jvm.Cond.soleField "TrailStoreModel" "tableNumber", Jvm.Cond.lays "TrailStoreModel" "TrailStoreModel" "version" "I", Jvm.Cond.soleField "TrailStoreModel" "version", Jvm.Cond.laysFinal "TrailStoreModel" "TrailStoreModel" "inUse" "[I", Jvm.Cond.soleField "TrailStoreModel" "inUse", Jvm.Cond.lays "TrailStoreModel" "TrailStoreModel" "tables" "I", Jvm.Cond.soleField "TrailStoreModel" "tables", Jvm.Cond.laysFinal "TrailStoreModel" "TrailStoreModel" "putAway" "[Z", Jvm.Cond.soleField "TrailStoreModel" "putAway", Jvm.Cond.laysFinal "TrailStoreModel" "TrailStoreModel" "kinds" "[I", Jvm.Cond.soleField "TrailStoreModel" "kinds", Jvm.Cond.laysFinal "TrailStoreModel" "TrailStoreModel" "numbers" "[I", Jvm.Cond.soleField "TrailStoreModel" "numbers", Jvm.Cond.laysFinal "TrailStoreModel" "TrailStoreModel" "wheres" "[I", Jvm.Cond.soleField "TrailStoreModel" "wheres", Jvm.Cond.lays "TrailStoreModel" "TrailStoreModel" "entries" "I", Jvm.Cond.soleField "TrailStoreModel" "entries", Jvm.Cond.laysFinal "TrailStoreModel" "TrailStoreModel" "newKinds" "[I", Jvm.Cond.soleField "TrailStoreModel" "newKinds", Jvm.Cond.laysFinal "TrailStoreModel" "TrailStoreModel" "newNumbers" "[I", Jvm.Cond.soleField "TrailStoreModel" "newNumbers"]
def rw_29 : List Cond := [Jvm.Cond.laysFinal "TrailStoreModel" "TrailStoreModel" "newWheres" "[I", Jvm.Cond.soleField "TrailStoreModel" "newWheres", Jvm.Cond.laysFinal "TrailStoreModel" "TrailStoreModel" "buffer" "[B", Jvm.Cond.soleField "TrailStoreModel" "buffer", Jvm.Cond.lays "TrailStoreModel" "TrailStoreModel" "entryKind" "I", Jvm.Cond.soleField "TrailStoreModel" "entryKind", Jvm.Cond.lays "TrailStoreModel" "TrailStoreModel" "entryNumber" "I", Jvm.Cond.soleField "TrailStoreModel" "entryNumber", Jvm.Cond.lays "TrailStoreModel" "TrailStoreModel" "entryWhere" "I", Jvm.Cond.soleField "TrailStoreModel" "entryWhere", Jvm.Cond.lays "TrailStoreModel" "TrailStoreModel" "entryHere" "Z", Jvm.Cond.soleField "TrailStoreModel" "entryHere", Jvm.Cond.laysFinal "TrailStoreModel" "TrailStoreModel" "value" "[B", Jvm.Cond.soleField "TrailStoreModel" "value", Jvm.Cond.superclass "TrailStoreModel" "java/lang/Object", Jvm.Cond.arrayClass Jvm.ClassFile.FieldType.boolean, Jvm.Cond.methodLink "TrailStoreLaw" (91 : Nat) ({ cls := "TrailStoreModel", name := "open", desc := "()I" } : Jvm.MethodName), Jvm.Cond.instanceMethod ({ cls := "TrailStoreModel", name := "open", desc := "()I" } : Jvm.MethodName), Jvm.Cond.selects "TrailStoreModel" ({ cls := "TrailStoreModel", name := "open", desc := "()I" } : Jvm.MethodName) ({ cls := "TrailStoreModel", name := "open", desc := "()I" } : Jvm.MethodName), Jvm.Cond.code ({ cls := "TrailStoreModel", name := "open", desc := "()I" } : Jvm.MethodName) prog_9_method_39_code (1 : Nat) (Option.some Jvm.ClassFile.FieldType.int), Jvm.Cond.methodLink "TrailStoreLaw" (27 : Nat) ({ cls := "TrailStoreModel", name := "type", desc := "(JI)I" } : Jvm.MethodName), Jvm.Cond.instanceMethod ({ cls := "TrailStoreModel", name := "type", desc := "(JI)I" } : Jvm.MethodName), Jvm.Cond.selects "TrailStoreModel" ({ cls := "TrailStoreModel", name := "type", desc := "(JI)I" } : Jvm.MethodName) ({ cls := "TrailStoreModel", name := "type", desc := "(JI)I" } : Jvm.MethodName), Jvm.Cond.code ({ cls := "TrailStoreModel", name := "type", desc := "(JI)I" } : Jvm.MethodName) prog_9_method_41_code (5 : Nat) (Option.some Jvm.ClassFile.FieldType.int), Jvm.Cond.methodLink "TrailStoreLaw" (32 : Nat) ({ cls := "TrailStoreModel", name := "put", desc := "(I)I" } : Jvm.MethodName), Jvm.Cond.instanceMethod ({ cls := "TrailStoreModel", name := "put", desc := "(I)I" } : Jvm.MethodName), Jvm.Cond.selects "TrailStoreModel" ({ cls := "TrailStoreModel", name := "put", desc := "(I)I" } : Jvm.MethodName) ({ cls := "TrailStoreModel", name := "put", desc := "(I)I" } : Jvm.MethodName), Jvm.Cond.code ({ cls := "TrailStoreModel", name := "put", desc := "(I)I" } : Jvm.MethodName) prog_9_method_42_code (2 : Nat) (Option.some Jvm.ClassFile.FieldType.int), Jvm.Cond.methodLink "TrailStoreModel" (279 : Nat) ({ cls := "TrailStoreModel", name := "isKey", desc := "(I)Z" } : Jvm.MethodName), Jvm.Cond.static ({ cls := "TrailStoreModel", name := "isKey", desc := "(I)Z" } : Jvm.MethodName), Jvm.Cond.code ({ cls := "TrailStoreModel", name := "isKey", desc := "(I)Z" } : Jvm.MethodName) prog_9_method_40_code (1 : Nat) (Option.some Jvm.ClassFile.FieldType.boolean), Jvm.Cond.methodLink "TrailStoreModel" (282 : Nat) ({ cls := "TrailStoreModel", name := "lay", desc := "(II)V" } : Jvm.MethodName)]
def rw_30 : List Cond := [Jvm.Cond.privateMethod ({ cls := "TrailStoreModel", name := "lay", desc := "(II)V" } : Jvm.MethodName), Jvm.Cond.instanceMethod ({ cls := "TrailStoreModel", name := "lay", desc := "(II)V" } : Jvm.MethodName), Jvm.Cond.code ({ cls := "TrailStoreModel", name := "lay", desc := "(II)V" } : Jvm.MethodName) prog_9_method_37_code (4 : Nat) (Option.none : Option Jvm.ClassFile.FieldType), Jvm.Cond.methodLink "TrailStoreModel" (285 : Nat) ({ cls := "TrailStoreModel", name := "writeBatch", desc := "()I" } : Jvm.MethodName), Jvm.Cond.privateMethod ({ cls := "TrailStoreModel", name := "writeBatch", desc := "()I" } : Jvm.MethodName), Jvm.Cond.instanceMethod ({ cls := "TrailStoreModel", name := "writeBatch", desc := "()I" } : Jvm.MethodName), Jvm.Cond.code ({ cls := "TrailStoreModel", name := "writeBatch", desc := "()I" } : Jvm.MethodName) prog_9_method_36_code (7 : Nat) (Option.some Jvm.ClassFile.FieldType.int), Jvm.Cond.methodLink "TrailStoreModel" (264 : Nat) ({ cls := "TrailStoreModel", name := "wouldHave", desc := "()I" } : Jvm.MethodName), Jvm.Cond.privateMethod ({ cls := "TrailStoreModel", name := "wouldHave", desc := "()I" } : Jvm.MethodName), Jvm.Cond.instanceMethod ({ cls := "TrailStoreModel", name := "wouldHave", desc := "()I" } : Jvm.MethodName), Jvm.Cond.code ({ cls := "TrailStoreModel", name := "wouldHave", desc := "()I" } : Jvm.MethodName) prog_9_method_35_code (5 : Nat) (Option.some Jvm.ClassFile.FieldType.int), Jvm.Cond.methodLink "TrailStoreModel" (243 : Nat) ({ cls := "TrailStoreModel", name := "checkpointAll", desc := "()V" } : Jvm.MethodName), Jvm.Cond.privateMethod ({ cls := "TrailStoreModel", name := "checkpointAll", desc := "()V" } : Jvm.MethodName), Jvm.Cond.instanceMethod ({ cls := "TrailStoreModel", name := "checkpointAll", desc := "()V" } : Jvm.MethodName), Jvm.Cond.code ({ cls := "TrailStoreModel", name := "checkpointAll", desc := "()V" } : Jvm.MethodName) prog_9_method_31_code (3 : Nat) (Option.none : Option Jvm.ClassFile.FieldType), Jvm.Cond.methodLink "TrailStoreModel" (235 : Nat) ({ cls := "TrailStoreModel", name := "makeTables", desc := "()V" } : Jvm.MethodName), Jvm.Cond.privateMethod ({ cls := "TrailStoreModel", name := "makeTables", desc := "()V" } : Jvm.MethodName), Jvm.Cond.instanceMethod ({ cls := "TrailStoreModel", name := "makeTables", desc := "()V" } : Jvm.MethodName), Jvm.Cond.code ({ cls := "TrailStoreModel", name := "makeTables", desc := "()V" } : Jvm.MethodName) prog_9_method_30_code (5 : Nat) (Option.none : Option Jvm.ClassFile.FieldType), Jvm.Cond.methodLink "TrailStoreModel" (211 : Nat) ({ cls := "TrailStoreModel", name := "writeTable", desc := "(I)I" } : Jvm.MethodName), Jvm.Cond.privateMethod ({ cls := "TrailStoreModel", name := "writeTable", desc := "(I)I" } : Jvm.MethodName), Jvm.Cond.instanceMethod ({ cls := "TrailStoreModel", name := "writeTable", desc := "(I)I" } : Jvm.MethodName), Jvm.Cond.code ({ cls := "TrailStoreModel", name := "writeTable", desc := "(I)I" } : Jvm.MethodName) prog_9_method_25_code (8 : Nat) (Option.some Jvm.ClassFile.FieldType.int), Jvm.Cond.methodLink "TrailStoreModel" (161 : Nat) ({ cls := "TrailStoreModel", name := "put4", desc := "(II)V" } : Jvm.MethodName), Jvm.Cond.privateMethod ({ cls := "TrailStoreModel", name := "put4", desc := "(II)V" } : Jvm.MethodName), Jvm.Cond.instanceMethod ({ cls := "TrailStoreModel", name := "put4", desc := "(II)V" } : Jvm.MethodName), Jvm.Cond.code ({ cls := "TrailStoreModel", name := "put4", desc := "(II)V" } : Jvm.MethodName) prog_9_method_5_code (4 : Nat) (Option.none : Option Jvm.ClassFile.FieldType), Jvm.Cond.methodLink "TrailStoreModel" (192 : Nat) ({ cls := "TrailStoreModel", name := "bitsOf", desc := "(I)I" } : Jvm.MethodName), Jvm.Cond.static ({ cls := "TrailStoreModel", name := "bitsOf", desc := "(I)I" } : Jvm.MethodName), Jvm.Cond.code ({ cls := "TrailStoreModel", name := "bitsOf", desc := "(I)I" } : Jvm.MethodName) prog_9_method_18_code (1 : Nat) (Option.some Jvm.ClassFile.FieldType.int), Jvm.Cond.methodLink "TrailStoreModel" (214 : Nat) ({ cls := "TrailStoreModel", name := "insert", desc := "(II)V" } : Jvm.MethodName), Jvm.Cond.privateMethod ({ cls := "TrailStoreModel", name := "insert", desc := "(II)V" } : Jvm.MethodName)]
def rw_31 : List Cond := [Jvm.Cond.instanceMethod ({ cls := "TrailStoreModel", name := "insert", desc := "(II)V" } : Jvm.MethodName), Jvm.Cond.code ({ cls := "TrailStoreModel", name := "insert", desc := "(II)V" } : Jvm.MethodName) prog_9_method_27_code (4 : Nat) (Option.none : Option Jvm.ClassFile.FieldType), Jvm.Cond.methodLink "TrailStoreModel" (217 : Nat) ({ cls := "TrailStoreModel", name := "countOf", desc := "(I)I" } : Jvm.MethodName), Jvm.Cond.privateMethod ({ cls := "TrailStoreModel", name := "countOf", desc := "(I)I" } : Jvm.MethodName), Jvm.Cond.instanceMethod ({ cls := "TrailStoreModel", name := "countOf", desc := "(I)I" } : Jvm.MethodName), Jvm.Cond.code ({ cls := "TrailStoreModel", name := "countOf", desc := "(I)I" } : Jvm.MethodName) prog_9_method_28_code (4 : Nat) (Option.some Jvm.ClassFile.FieldType.int), Jvm.Cond.methodLink "TrailStoreModel" (199 : Nat) ({ cls := "TrailStoreModel", name := "levelOf", desc := "(I)I" } : Jvm.MethodName), Jvm.Cond.privateMethod ({ cls := "TrailStoreModel", name := "levelOf", desc := "(I)I" } : Jvm.MethodName), Jvm.Cond.instanceMethod ({ cls := "TrailStoreModel", name := "levelOf", desc := "(I)I" } : Jvm.MethodName), Jvm.Cond.code ({ cls := "TrailStoreModel", name := "levelOf", desc := "(I)I" } : Jvm.MethodName) prog_9_method_17_code (2 : Nat) (Option.some Jvm.ClassFile.FieldType.int), Jvm.Cond.methodLink "TrailStoreModel" (164 : Nat) ({ cls := "TrailStoreModel", name := "tableByte", desc := "(II)I" } : Jvm.MethodName), Jvm.Cond.privateMethod ({ cls := "TrailStoreModel", name := "tableByte", desc := "(II)I" } : Jvm.MethodName), Jvm.Cond.instanceMethod ({ cls := "TrailStoreModel", name := "tableByte", desc := "(II)I" } : Jvm.MethodName), Jvm.Cond.code ({ cls := "TrailStoreModel", name := "tableByte", desc := "(II)I" } : Jvm.MethodName) prog_9_method_15_code (3 : Nat) (Option.some Jvm.ClassFile.FieldType.int), Jvm.Cond.methodLink "TrailStoreModel" (220 : Nat) ({ cls := "TrailStoreModel", name := "clearNew", desc := "()V" } : Jvm.MethodName), Jvm.Cond.privateMethod ({ cls := "TrailStoreModel", name := "clearNew", desc := "()V" } : Jvm.MethodName), Jvm.Cond.instanceMethod ({ cls := "TrailStoreModel", name := "clearNew", desc := "()V" } : Jvm.MethodName), Jvm.Cond.code ({ cls := "TrailStoreModel", name := "clearNew", desc := "()V" } : Jvm.MethodName) prog_9_method_22_code (2 : Nat) (Option.none : Option Jvm.ClassFile.FieldType), Jvm.Cond.methodLink "TrailStoreModel" (223 : Nat) ({ cls := "TrailStoreModel", name := "gather", desc := "(I)V" } : Jvm.MethodName), Jvm.Cond.privateMethod ({ cls := "TrailStoreModel", name := "gather", desc := "(I)V" } : Jvm.MethodName), Jvm.Cond.instanceMethod ({ cls := "TrailStoreModel", name := "gather", desc := "(I)V" } : Jvm.MethodName), Jvm.Cond.code ({ cls := "TrailStoreModel", name := "gather", desc := "(I)V" } : Jvm.MethodName) prog_9_method_23_code (5 : Nat) (Option.none : Option Jvm.ClassFile.FieldType), Jvm.Cond.methodLink "TrailStoreModel" (185 : Nat) ({ cls := "TrailStoreModel", name := "tableFour", desc := "(II)I" } : Jvm.MethodName), Jvm.Cond.privateMethod ({ cls := "TrailStoreModel", name := "tableFour", desc := "(II)I" } : Jvm.MethodName), Jvm.Cond.instanceMethod ({ cls := "TrailStoreModel", name := "tableFour", desc := "(II)I" } : Jvm.MethodName), Jvm.Cond.code ({ cls := "TrailStoreModel", name := "tableFour", desc := "(II)I" } : Jvm.MethodName) prog_9_method_16_code (3 : Nat) (Option.some Jvm.ClassFile.FieldType.int), Jvm.Cond.methodLink "TrailStoreModel" (226 : Nat) ({ cls := "TrailStoreModel", name := "newCount", desc := "()I" } : Jvm.MethodName), Jvm.Cond.privateMethod ({ cls := "TrailStoreModel", name := "newCount", desc := "()I" } : Jvm.MethodName), Jvm.Cond.instanceMethod ({ cls := "TrailStoreModel", name := "newCount", desc := "()I" } : Jvm.MethodName), Jvm.Cond.code ({ cls := "TrailStoreModel", name := "newCount", desc := "()I" } : Jvm.MethodName) prog_9_method_24_code (3 : Nat) (Option.some Jvm.ClassFile.FieldType.int), Jvm.Cond.methodLink "TrailStoreModel" (229 : Nat) ({ cls := "TrailStoreModel", name := "drop", desc := "(II)V" } : Jvm.MethodName), Jvm.Cond.privateMethod ({ cls := "TrailStoreModel", name := "drop", desc := "(II)V" } : Jvm.MethodName)]
def rw_32 : List Cond := [Jvm.Cond.instanceMethod ({ cls := "TrailStoreModel", name := "drop", desc := "(II)V" } : Jvm.MethodName), Jvm.Cond.code ({ cls := "TrailStoreModel", name := "drop", desc := "(II)V" } : Jvm.MethodName) prog_9_method_26_code (4 : Nat) (Option.none : Option Jvm.ClassFile.FieldType), Jvm.Cond.methodLink "TrailStoreModel" (238 : Nat) ({ cls := "TrailStoreModel", name := "writeRoot", desc := "()V" } : Jvm.MethodName), Jvm.Cond.privateMethod ({ cls := "TrailStoreModel", name := "writeRoot", desc := "()V" } : Jvm.MethodName), Jvm.Cond.instanceMethod ({ cls := "TrailStoreModel", name := "writeRoot", desc := "()V" } : Jvm.MethodName), Jvm.Cond.code ({ cls := "TrailStoreModel", name := "writeRoot", desc := "()V" } : Jvm.MethodName) prog_9_method_29_code (3 : Nat) (Option.none : Option Jvm.ClassFile.FieldType), Jvm.Cond.methodLink "TrailStoreModel" (249 : Nat) ({ cls := "TrailStoreModel", name := "hasRoom", desc := "(II)Z" } : Jvm.MethodName), Jvm.Cond.privateMethod ({ cls := "TrailStoreModel", name := "hasRoom", desc := "(II)Z" } : Jvm.MethodName), Jvm.Cond.instanceMethod ({ cls := "TrailStoreModel", name := "hasRoom", desc := "(II)Z" } : Jvm.MethodName), Jvm.Cond.code ({ cls := "TrailStoreModel", name := "hasRoom", desc := "(II)Z" } : Jvm.MethodName) prog_9_method_32_code (3 : Nat) (Option.some Jvm.ClassFile.FieldType.boolean), Jvm.Cond.constantLong "TrailStoreModel" (241 : Nat) (12 : Int64), Jvm.Cond.methodLink "TrailStoreModel" (267 : Nat) ({ cls := "TrailStoreModel", name := "passLog", desc := "()V" } : Jvm.MethodName), Jvm.Cond.privateMethod ({ cls := "TrailStoreModel", name := "passLog", desc := "()V" } : Jvm.MethodName), Jvm.Cond.instanceMethod ({ cls := "TrailStoreModel", name := "passLog", desc := "()V" } : Jvm.MethodName), Jvm.Cond.code ({ cls := "TrailStoreModel", name := "passLog", desc := "()V" } : Jvm.MethodName) prog_9_method_34_code (3 : Nat) (Option.none : Option Jvm.ClassFile.FieldType), Jvm.Cond.methodLink "TrailStoreModel" (261 : Nat) ({ cls := "TrailStoreModel", name := "collecting", desc := "(I)I" } : Jvm.MethodName), Jvm.Cond.privateMethod ({ cls := "TrailStoreModel", name := "collecting", desc := "(I)I" } : Jvm.MethodName), Jvm.Cond.instanceMethod ({ cls := "TrailStoreModel", name := "collecting", desc := "(I)I" } : Jvm.MethodName), Jvm.Cond.code ({ cls := "TrailStoreModel", name := "collecting", desc := "(I)I" } : Jvm.MethodName) prog_9_method_33_code (11 : Nat) (Option.some Jvm.ClassFile.FieldType.int), Jvm.Cond.methodLink "TrailStoreModel" (188 : Nat) ({ cls := "TrailStoreModel", name := "find", desc := "(I)Z" } : Jvm.MethodName), Jvm.Cond.privateMethod ({ cls := "TrailStoreModel", name := "find", desc := "(I)Z" } : Jvm.MethodName), Jvm.Cond.instanceMethod ({ cls := "TrailStoreModel", name := "find", desc := "(I)Z" } : Jvm.MethodName), Jvm.Cond.code ({ cls := "TrailStoreModel", name := "find", desc := "(I)Z" } : Jvm.MethodName) prog_9_method_20_code (4 : Nat) (Option.some Jvm.ClassFile.FieldType.boolean), Jvm.Cond.methodLink "TrailStoreModel" (182 : Nat) ({ cls := "TrailStoreModel", name := "placeIn", desc := "(II)I" } : Jvm.MethodName), Jvm.Cond.privateMethod ({ cls := "TrailStoreModel", name := "placeIn", desc := "(II)I" } : Jvm.MethodName), Jvm.Cond.instanceMethod ({ cls := "TrailStoreModel", name := "placeIn", desc := "(II)I" } : Jvm.MethodName), Jvm.Cond.code ({ cls := "TrailStoreModel", name := "placeIn", desc := "(II)I" } : Jvm.MethodName) prog_9_method_19_code (4 : Nat) (Option.some Jvm.ClassFile.FieldType.int), Jvm.Cond.methodLink "TrailStoreModel" (253 : Nat) ({ cls := "TrailStoreModel", name := "append", desc := "(III)Z" } : Jvm.MethodName), Jvm.Cond.privateMethod ({ cls := "TrailStoreModel", name := "append", desc := "(III)Z" } : Jvm.MethodName), Jvm.Cond.instanceMethod ({ cls := "TrailStoreModel", name := "append", desc := "(III)Z" } : Jvm.MethodName), Jvm.Cond.code ({ cls := "TrailStoreModel", name := "append", desc := "(III)Z" } : Jvm.MethodName) prog_9_method_13_code (5 : Nat) (Option.some Jvm.ClassFile.FieldType.boolean), Jvm.Cond.methodLink "TrailStoreLaw" (36 : Nat) ({ cls := "TrailStoreModel", name := "remove", desc := "(I)I" } : Jvm.MethodName)]
def rw_33 : List Cond := [Jvm.Cond.instanceMethod ({ cls := "TrailStoreModel", name := "remove", desc := "(I)I" } : Jvm.MethodName), Jvm.Cond.selects "TrailStoreModel" ({ cls := "TrailStoreModel", name := "remove", desc := "(I)I" } : Jvm.MethodName) ({ cls := "TrailStoreModel", name := "remove", desc := "(I)I" } : Jvm.MethodName), Jvm.Cond.code ({ cls := "TrailStoreModel", name := "remove", desc := "(I)I" } : Jvm.MethodName) prog_9_method_43_code (2 : Nat) (Option.some Jvm.ClassFile.FieldType.int), Jvm.Cond.methodLink "TrailStoreModel" (288 : Nat) ({ cls := "TrailStoreModel", name := "isThere", desc := "(I)Z" } : Jvm.MethodName), Jvm.Cond.privateMethod ({ cls := "TrailStoreModel", name := "isThere", desc := "(I)Z" } : Jvm.MethodName), Jvm.Cond.instanceMethod ({ cls := "TrailStoreModel", name := "isThere", desc := "(I)Z" } : Jvm.MethodName), Jvm.Cond.code ({ cls := "TrailStoreModel", name := "isThere", desc := "(I)Z" } : Jvm.MethodName) prog_9_method_21_code (2 : Nat) (Option.some Jvm.ClassFile.FieldType.boolean), Jvm.Cond.methodLink "TrailStoreLaw" (41 : Nat) ({ cls := "TrailStoreModel", name := "begin", desc := "()I" } : Jvm.MethodName), Jvm.Cond.instanceMethod ({ cls := "TrailStoreModel", name := "begin", desc := "()I" } : Jvm.MethodName), Jvm.Cond.selects "TrailStoreModel" ({ cls := "TrailStoreModel", name := "begin", desc := "()I" } : Jvm.MethodName) ({ cls := "TrailStoreModel", name := "begin", desc := "()I" } : Jvm.MethodName), Jvm.Cond.code ({ cls := "TrailStoreModel", name := "begin", desc := "()I" } : Jvm.MethodName) prog_9_method_44_code (2 : Nat) (Option.some Jvm.ClassFile.FieldType.int), Jvm.Cond.methodLink "TrailStoreLaw" (45 : Nat) ({ cls := "TrailStoreModel", name := "commit", desc := "()I" } : Jvm.MethodName), Jvm.Cond.instanceMethod ({ cls := "TrailStoreModel", name := "commit", desc := "()I" } : Jvm.MethodName), Jvm.Cond.selects "TrailStoreModel" ({ cls := "TrailStoreModel", name := "commit", desc := "()I" } : Jvm.MethodName) ({ cls := "TrailStoreModel", name := "commit", desc := "()I" } : Jvm.MethodName), Jvm.Cond.code ({ cls := "TrailStoreModel", name := "commit", desc := "()I" } : Jvm.MethodName) prog_9_method_45_code (1 : Nat) (Option.some Jvm.ClassFile.FieldType.int), Jvm.Cond.methodLink "TrailStoreLaw" (49 : Nat) ({ cls := "TrailStoreModel", name := "cancel", desc := "()I" } : Jvm.MethodName), Jvm.Cond.instanceMethod ({ cls := "TrailStoreModel", name := "cancel", desc := "()I" } : Jvm.MethodName), Jvm.Cond.selects "TrailStoreModel" ({ cls := "TrailStoreModel", name := "cancel", desc := "()I" } : Jvm.MethodName) ({ cls := "TrailStoreModel", name := "cancel", desc := "()I" } : Jvm.MethodName), Jvm.Cond.code ({ cls := "TrailStoreModel", name := "cancel", desc := "()I" } : Jvm.MethodName) prog_9_method_46_code (2 : Nat) (Option.some Jvm.ClassFile.FieldType.int), Jvm.Cond.methodLink "TrailStoreLaw" (53 : Nat) ({ cls := "TrailStoreModel", name := "get", desc := "(I)I" } : Jvm.MethodName), Jvm.Cond.instanceMethod ({ cls := "TrailStoreModel", name := "get", desc := "(I)I" } : Jvm.MethodName), Jvm.Cond.selects "TrailStoreModel" ({ cls := "TrailStoreModel", name := "get", desc := "(I)I" } : Jvm.MethodName) ({ cls := "TrailStoreModel", name := "get", desc := "(I)I" } : Jvm.MethodName), Jvm.Cond.code ({ cls := "TrailStoreModel", name := "get", desc := "(I)I" } : Jvm.MethodName) prog_9_method_47_code (4 : Nat) (Option.some Jvm.ClassFile.FieldType.int), Jvm.Cond.methodLink "TrailStoreLaw" (57 : Nat) ({ cls := "TrailStoreModel", name := "read", desc := "(I)I" } : Jvm.MethodName), Jvm.Cond.instanceMethod ({ cls := "TrailStoreModel", name := "read", desc := "(I)I" } : Jvm.MethodName), Jvm.Cond.selects "TrailStoreModel" ({ cls := "TrailStoreModel", name := "read", desc := "(I)I" } : Jvm.MethodName) ({ cls := "TrailStoreModel", name := "read", desc := "(I)I" } : Jvm.MethodName), Jvm.Cond.code ({ cls := "TrailStoreModel", name := "read", desc := "(I)I" } : Jvm.MethodName) prog_9_method_48_code (2 : Nat) (Option.some Jvm.ClassFile.FieldType.int), Jvm.Cond.methodLink "TrailStoreLaw" (61 : Nat) ({ cls := "TrailStoreModel", name := "next", desc := "(I)I" } : Jvm.MethodName), Jvm.Cond.instanceMethod ({ cls := "TrailStoreModel", name := "next", desc := "(I)I" } : Jvm.MethodName), Jvm.Cond.selects "TrailStoreModel" ({ cls := "TrailStoreModel", name := "next", desc := "(I)I" } : Jvm.MethodName) ({ cls := "TrailStoreModel", name := "next", desc := "(I)I" } : Jvm.MethodName), Jvm.Cond.code ({ cls := "TrailStoreModel", name := "next", desc := "(I)I" } : Jvm.MethodName) prog_9_method_49_code (3 : Nat) (Option.some Jvm.ClassFile.FieldType.int), Jvm.Cond.methodLink "TrailStoreLaw" (65 : Nat) ({ cls := "TrailStoreModel", name := "sync", desc := "()I" } : Jvm.MethodName)]
def rw_34 : List Cond := [Jvm.Cond.instanceMethod ({ cls := "TrailStoreModel", name := "sync", desc := "()I" } : Jvm.MethodName), Jvm.Cond.selects "TrailStoreModel" ({ cls := "TrailStoreModel", name := "sync", desc := "()I" } : Jvm.MethodName) ({ cls := "TrailStoreModel", name := "sync", desc := "()I" } : Jvm.MethodName), Jvm.Cond.code ({ cls := "TrailStoreModel", name := "sync", desc := "()I" } : Jvm.MethodName) prog_9_method_50_code (1 : Nat) (Option.some Jvm.ClassFile.FieldType.int), Jvm.Cond.methodLink "TrailStoreLaw" (69 : Nat) ({ cls := "TrailStoreModel", name := "checkpoint", desc := "()I" } : Jvm.MethodName), Jvm.Cond.instanceMethod ({ cls := "TrailStoreModel", name := "checkpoint", desc := "()I" } : Jvm.MethodName), Jvm.Cond.selects "TrailStoreModel" ({ cls := "TrailStoreModel", name := "checkpoint", desc := "()I" } : Jvm.MethodName) ({ cls := "TrailStoreModel", name := "checkpoint", desc := "()I" } : Jvm.MethodName), Jvm.Cond.code ({ cls := "TrailStoreModel", name := "checkpoint", desc := "()I" } : Jvm.MethodName) prog_9_method_51_code (1 : Nat) (Option.some Jvm.ClassFile.FieldType.int), Jvm.Cond.methodLink "TrailStoreLaw" (73 : Nat) ({ cls := "TrailStoreModel", name := "collect", desc := "(I)I" } : Jvm.MethodName), Jvm.Cond.instanceMethod ({ cls := "TrailStoreModel", name := "collect", desc := "(I)I" } : Jvm.MethodName), Jvm.Cond.selects "TrailStoreModel" ({ cls := "TrailStoreModel", name := "collect", desc := "(I)I" } : Jvm.MethodName) ({ cls := "TrailStoreModel", name := "collect", desc := "(I)I" } : Jvm.MethodName), Jvm.Cond.code ({ cls := "TrailStoreModel", name := "collect", desc := "(I)I" } : Jvm.MethodName) prog_9_method_52_code (3 : Nat) (Option.some Jvm.ClassFile.FieldType.int), Jvm.Cond.methodLink "TrailStoreLaw" (78 : Nat) ({ cls := "TrailStoreModel", name := "crash", desc := "(II)I" } : Jvm.MethodName), Jvm.Cond.instanceMethod ({ cls := "TrailStoreModel", name := "crash", desc := "(II)I" } : Jvm.MethodName), Jvm.Cond.selects "TrailStoreModel" ({ cls := "TrailStoreModel", name := "crash", desc := "(II)I" } : Jvm.MethodName) ({ cls := "TrailStoreModel", name := "crash", desc := "(II)I" } : Jvm.MethodName), Jvm.Cond.code ({ cls := "TrailStoreModel", name := "crash", desc := "(II)I" } : Jvm.MethodName) prog_9_method_53_code (4 : Nat) (Option.some Jvm.ClassFile.FieldType.int), Jvm.Cond.methodLink "TrailStoreLaw" (83 : Nat) ({ cls := "TrailStoreModel", name := "fail", desc := "(III)I" } : Jvm.MethodName), Jvm.Cond.instanceMethod ({ cls := "TrailStoreModel", name := "fail", desc := "(III)I" } : Jvm.MethodName), Jvm.Cond.selects "TrailStoreModel" ({ cls := "TrailStoreModel", name := "fail", desc := "(III)I" } : Jvm.MethodName) ({ cls := "TrailStoreModel", name := "fail", desc := "(III)I" } : Jvm.MethodName), Jvm.Cond.code ({ cls := "TrailStoreModel", name := "fail", desc := "(III)I" } : Jvm.MethodName) prog_9_method_54_code (4 : Nat) (Option.some Jvm.ClassFile.FieldType.int), Jvm.Cond.methodLink "TrailStoreLaw" (87 : Nat) ({ cls := "TrailStoreModel", name := "spare", desc := "()I" } : Jvm.MethodName), Jvm.Cond.instanceMethod ({ cls := "TrailStoreModel", name := "spare", desc := "()I" } : Jvm.MethodName), Jvm.Cond.selects "TrailStoreModel" ({ cls := "TrailStoreModel", name := "spare", desc := "()I" } : Jvm.MethodName) ({ cls := "TrailStoreModel", name := "spare", desc := "()I" } : Jvm.MethodName), Jvm.Cond.code ({ cls := "TrailStoreModel", name := "spare", desc := "()I" } : Jvm.MethodName) prog_9_method_55_code (2 : Nat) (Option.some Jvm.ClassFile.FieldType.int), Jvm.Cond.methodLink "TrailStoreLaw" (95 : Nat) ({ cls := "TrailStoreModel", name := "told", desc := "(I)I" } : Jvm.MethodName), Jvm.Cond.instanceMethod ({ cls := "TrailStoreModel", name := "told", desc := "(I)I" } : Jvm.MethodName), Jvm.Cond.selects "TrailStoreModel" ({ cls := "TrailStoreModel", name := "told", desc := "(I)I" } : Jvm.MethodName) ({ cls := "TrailStoreModel", name := "told", desc := "(I)I" } : Jvm.MethodName), Jvm.Cond.code ({ cls := "TrailStoreModel", name := "told", desc := "(I)I" } : Jvm.MethodName) prog_9_method_56_code (5 : Nat) (Option.some Jvm.ClassFile.FieldType.int), Jvm.Cond.methodLink "TrailStoreLaw" (99 : Nat) ({ cls := "TrailStoreModel", name := "table", desc := "(II)I" } : Jvm.MethodName), Jvm.Cond.instanceMethod ({ cls := "TrailStoreModel", name := "table", desc := "(II)I" } : Jvm.MethodName), Jvm.Cond.selects "TrailStoreModel" ({ cls := "TrailStoreModel", name := "table", desc := "(II)I" } : Jvm.MethodName) ({ cls := "TrailStoreModel", name := "table", desc := "(II)I" } : Jvm.MethodName), Jvm.Cond.code ({ cls := "TrailStoreModel", name := "table", desc := "(II)I" } : Jvm.MethodName) prog_9_method_57_code (3 : Nat) (Option.some Jvm.ClassFile.FieldType.int), Jvm.Cond.methodLink "TrailStoreLaw" (103 : Nat) ({ cls := "TrailStoreModel", name := "entry", desc := "(II)I" } : Jvm.MethodName)]
def rw_35 : List Cond := [Jvm.Cond.instanceMethod ({ cls := "TrailStoreModel", name := "entry", desc := "(II)I" } : Jvm.MethodName), Jvm.Cond.selects "TrailStoreModel" ({ cls := "TrailStoreModel", name := "entry", desc := "(II)I" } : Jvm.MethodName) ({ cls := "TrailStoreModel", name := "entry", desc := "(II)I" } : Jvm.MethodName), Jvm.Cond.code ({ cls := "TrailStoreModel", name := "entry", desc := "(II)I" } : Jvm.MethodName) prog_9_method_58_code (3 : Nat) (Option.some Jvm.ClassFile.FieldType.int), Jvm.Cond.methodLink "TrailStoreLaw" (106 : Nat) ({ cls := "TrailStoreModel", name := "cell", desc := "(II)I" } : Jvm.MethodName), Jvm.Cond.instanceMethod ({ cls := "TrailStoreModel", name := "cell", desc := "(II)I" } : Jvm.MethodName), Jvm.Cond.selects "TrailStoreModel" ({ cls := "TrailStoreModel", name := "cell", desc := "(II)I" } : Jvm.MethodName) ({ cls := "TrailStoreModel", name := "cell", desc := "(II)I" } : Jvm.MethodName), Jvm.Cond.code ({ cls := "TrailStoreModel", name := "cell", desc := "(II)I" } : Jvm.MethodName) prog_9_method_59_code (3 : Nat) (Option.some Jvm.ClassFile.FieldType.int), Jvm.Cond.methodLink "TrailStoreLaw" (110 : Nat) ({ cls := "TrailStoreModel", name := "check", desc := "()I" } : Jvm.MethodName), Jvm.Cond.instanceMethod ({ cls := "TrailStoreModel", name := "check", desc := "()I" } : Jvm.MethodName), Jvm.Cond.selects "TrailStoreModel" ({ cls := "TrailStoreModel", name := "check", desc := "()I" } : Jvm.MethodName) ({ cls := "TrailStoreModel", name := "check", desc := "()I" } : Jvm.MethodName), Jvm.Cond.code ({ cls := "TrailStoreModel", name := "check", desc := "()I" } : Jvm.MethodName) prog_9_method_60_code (1 : Nat) (Option.some Jvm.ClassFile.FieldType.int), Jvm.Cond.constantLong "TrailStoreLaw" (21 : Nat) (4294967295 : Int64)]
def rx_wt : List (List Cond) := [rw_0, rw_1, rw_2, rw_3, rw_4, rw_5, rw_6, rw_7, rw_8, rw_9, rw_10, rw_11, rw_12, rw_13, rw_14, rw_15, rw_16, rw_17, rw_18, rw_19, rw_20, rw_21, rw_22, rw_23, rw_24, rw_25, rw_26, rw_27, rw_28, rw_29, rw_30, rw_31, rw_32, rw_33, rw_34, rw_35]
def rx_ms : List rM := [(⟨"TrailStore$Batch", "<init>", "()V"⟩, prog_2_method_1_code, 1, none, [299, 0, 300, 65, 3, 0], 12, 544),
  (⟨"TrailStore$Batch", "add", "(II[BI)V"⟩, prog_2_method_2_code, 6, none, [468, 469, 470, 65, 0, 4], 0, 0),
  (⟨"TrailStore$Batch", "isFirstOfKey", "(I)Z"⟩, prog_2_method_3_code, 3, (some .boolean), [488, 489, 490, 65, 0, 1], 0, 0),
  (⟨"TrailStore$Batch", "size", "()I"⟩, prog_2_method_4_code, 3, (some .int), [476, 477, 478, 65, 0, 0], 0, 0),
  (⟨"TrailStore$Disk", "<init>", "(I)V"⟩, prog_3_method_1_code, 2, none, [85, 0, 86, 59, 3, 1], 4, 30064),
  (⟨"TrailStore$Disk", "cellOf", "(II)I"⟩, prog_3_method_2_code, 3, (some .int), [706, 707, 708, 59, 0, 2], 0, 0),
  (⟨"TrailStore$Disk", "logCell", "(I)I"⟩, prog_3_method_3_code, 3, (some .int), [373, 374, 375, 59, 0, 1], 0, 0),
  (⟨"TrailStore$Disk", "tableCell", "(I)I"⟩, prog_3_method_4_code, 2, (some .int), [521, 522, 523, 59, 0, 1], 0, 0),
  (⟨"TrailStore$Disk", "rootCell", "(I)I"⟩, prog_3_method_5_code, 2, (some .int), [343, 344, 345, 59, 0, 1], 0, 0),
  (⟨"TrailStore$Disk", "byteAt", "(I)I"⟩, prog_3_method_6_code, 2, (some .int), [351, 352, 353, 59, 0, 1], 0, 0),
  (⟨"TrailStore$Disk", "numberAt", "(I)I"⟩, prog_3_method_7_code, 2, (some .int), [347, 348, 349, 59, 0, 1], 0, 0),
  (⟨"TrailStore$Disk", "logByte", "(I)I"⟩, prog_3_method_8_code, 2, (some .int), [369, 370, 371, 59, 0, 1], 0, 0),
  (⟨"TrailStore$Disk", "logNumber", "(I)I"⟩, prog_3_method_9_code, 2, (some .int), [380, 381, 382, 59, 0, 1], 0, 0),
  (⟨"TrailStore$Disk", "recordSize", "(I)I"⟩, prog_3_method_10_code, 2, (some .int), [385, 386, 387, 59, 0, 1], 0, 0),
  (⟨"TrailStore$Disk", "copyValue", "(I[B)I"⟩, prog_3_method_11_code, 5, (some .int), [577, 578, 579, 59, 0, 2], 0, 0),
  (⟨"TrailStore$Disk", "sameValue", "(II)Z"⟩, prog_3_method_12_code, 6, (some .boolean), [727, 728, 729, 59, 0, 2], 0, 0),
  (⟨"TrailStore$Disk", "write", "(I[BII)V"⟩, prog_3_method_13_code, 7, none, [399, 400, 401, 59, 0, 4], 0, 0),
  (⟨"TrailStore$Disk", "makeLasting", "()V"⟩, prog_3_method_14_code, 1, none, [407, 408, 409, 59, 0, 0], 0, 0),
  (⟨"TrailStore$Disk", "takeBack", "(II)V"⟩, prog_3_method_15_code, 6, none, [603, 604, 605, 59, 0, 2], 0, 0),
  (⟨"TrailStore$Disk", "isInside", "(II)Z"⟩, prog_3_method_16_code, 4, (some .boolean), [404, 3, 405, 59, 0, 2], 0, 0),
  (⟨"TrailStore$Disk", "cellBehind", "(I)I"⟩, prog_3_method_17_code, 2, (some .int), [412, 4, 413, 59, 0, 1], 0, 0),
  (⟨"TrailStore$Entries", "<init>", "()V"⟩, prog_4_method_1_code, 1, none, [139, 0, 140, 62, 3, 0], 3, 360),
  (⟨"TrailStore$Entries", "clear", "()V"⟩, prog_4_method_2_code, 2, none, [361, 362, 363, 62, 0, 0], 0, 0),
  (⟨"TrailStore$Entries", "has", "(I)Z"⟩, prog_4_method_3_code, 2, (some .boolean), [484, 485, 486, 62, 0, 1], 0, 0),
  (⟨"TrailStore$Entries", "set", "(IIII)V"⟩, prog_4_method_4_code, 5, none, [393, 394, 395, 62, 0, 4], 0, 0),
  (⟨"TrailStore$Entries", "dropRemovals", "()V"⟩, prog_4_method_5_code, 2, none, [538, 539, 540, 62, 0, 0], 0, 0),
  (⟨"TrailStore$Entries", "countWith", "(LTrailStore$Batch;)I"⟩, prog_4_method_6_code, 4, (some .int), [480, 481, 482, 62, 0, 1], 0, 0),
  (⟨"TrailStore$Found", "<init>", "()V"⟩, prog_5_method_1_code, 1, none, [228, 0, 229, 64, 3, 0], 0, 0),
  (⟨"TrailStore$Found", "clear", "()V"⟩, prog_5_method_2_code, 1, none, [562, 563, 564, 64, 0, 0], 0, 0),
  (⟨"TrailStore$Keeper", "<init>", "(LTrailStore$Disk;LTrailStore$View;)V"⟩, prog_6_method_1_code, 3, none, [222, 0, 223, 63, 3, 2], 9, 1758),
  (⟨"TrailStore$Keeper", "startUp", "()I"⟩, prog_6_method_2_code, 2, (some .int), [331, 332, 333, 63, 0, 0], 0, 0),
  (⟨"TrailStore$Keeper", "store", "(LTrailStore$Batch;)I"⟩, prog_6_method_3_code, 6, (some .int), [472, 473, 474, 63, 0, 1], 0, 0),
  (⟨"TrailStore$Keeper", "appendAll", "(LTrailStore$Batch;)V"⟩, prog_6_method_4_code, 4, none, [588, 12, 589, 63, 0, 1], 0, 0),
  (⟨"TrailStore$Keeper", "hasRoom", "(I)Z"⟩, prog_6_method_5_code, 2, (some .boolean), [549, 8, 550, 63, 0, 1], 0, 0),
  (⟨"TrailStore$Keeper", "append", "(II[BI)V"⟩, prog_6_method_6_code, 5, none, [583, 11, 584, 63, 0, 4], 0, 0),
  (⟨"TrailStore$Keeper", "makeCheckpoint", "()V"⟩, prog_6_method_7_code, 4, none, [492, 493, 494, 63, 0, 0], 0, 0),
  (⟨"TrailStore$Keeper", "writeTable", "(ILTrailStore$Entries;I)V"⟩, prog_6_method_8_code, 7, none, [501, 5, 502, 63, 0, 3], 0, 0),
  (⟨"TrailStore$Keeper", "leastFreePlace", "()I"⟩, prog_6_method_9_code, 2, (some .int), [518, 6, 519, 63, 0, 0], 0, 0),
  (⟨"TrailStore$Keeper", "writeRoot", "()V"⟩, prog_6_method_10_code, 2, none, [544, 7, 545, 63, 0, 0], 0, 0),
  (⟨"TrailStore$Keeper", "collectTail", "(I)I"⟩, prog_6_method_11_code, 8, (some .int), [552, 553, 554, 63, 0, 1], 0, 0),
  (⟨"TrailStore$Keeper", "setNumber", "([BII)V"⟩, prog_6_method_12_code, 3, none, [511, 0, 512, 63, 1, 3], 0, 0),
  (⟨"TrailStore$View", "<init>", "(LTrailStore$Disk;)V"⟩, prog_7_method_1_code, 2, none, [133, 0, 134, 61, 3, 1], 5, 370),
  (⟨"TrailStore$View", "load", "()I"⟩, prog_7_method_2_code, 7, (some .int), [335, 336, 337, 61, 0, 0], 0, 0),
  (⟨"TrailStore$View", "loadRoot", "()V"⟩, prog_7_method_3_code, 4, none, [340, 0, 341, 61, 0, 0], 0, 0),
  (⟨"TrailStore$View", "loadRootAt", "(I)V"⟩, prog_7_method_4_code, 3, none, [356, 1, 357, 61, 0, 1], 0, 0),
  (⟨"TrailStore$View", "isRecord", "(II)Z"⟩, prog_7_method_5_code, 6, (some .boolean), [365, 366, 367, 61, 0, 2], 0, 0),
  (⟨"TrailStore$View", "takeRecordsBefore", "(I)V"⟩, prog_7_method_6_code, 4, none, [390, 2, 391, 61, 0, 1], 0, 0),
  (⟨"TrailStore$View", "tableStart", "(I)I"⟩, prog_7_method_7_code, 2, (some .int), [529, 530, 531, 61, 0, 1], 0, 0),
  (⟨"TrailStore$View", "placesInUse", "()I"⟩, prog_7_method_8_code, 3, (some .int), [496, 497, 498, 61, 0, 0], 0, 0),
  (⟨"TrailStore$View", "tablesUpTo", "(I)I"⟩, prog_7_method_9_code, 3, (some .int), [525, 526, 527, 61, 0, 1], 0, 0),
  (⟨"TrailStore$View", "find", "(ILTrailStore$Found;)V"⟩, prog_7_method_10_code, 3, none, [558, 559, 560, 61, 0, 2], 0, 0),
  (⟨"TrailStore$View", "findInTables", "(ILTrailStore$Found;)V"⟩, prog_7_method_11_code, 7, none, [568, 9, 569, 61, 0, 2], 0, 0),
  (⟨"TrailStore$View", "entryCell", "(II)I"⟩, prog_7_method_12_code, 9, (some .int), [573, 10, 574, 61, 0, 2], 0, 0),
  (⟨"TrailStore$View", "filterBits", "(I)I"⟩, prog_7_method_13_code, 1, (some .int), [514, 0, 515, 61, 1, 1], 0, 0),
  (⟨"TrailStore$View", "gatherAll", "(LTrailStore$Entries;)V"⟩, prog_7_method_14_code, 3, none, [641, 642, 643, 61, 0, 1], 0, 0),
  (⟨"TrailStore$View", "gatherTables", "(ILTrailStore$Entries;)V"⟩, prog_7_method_15_code, 8, none, [534, 535, 536, 61, 0, 2], 0, 0),
  (⟨"TrailStore$View", "replaceNewest", "(IZI)V"⟩, prog_7_method_16_code, 6, none, [504, 505, 506, 61, 0, 3], 0, 0),
  (⟨"TrailStore", "<init>", "(I)V"⟩, prog_1_method_1_code, 2, none, [71, 0, 72, 58, 3, 1], 52, 34021),
  (⟨"TrailStore", "type", "(JI)I"⟩, prog_1_method_2_code, 5, (some .int), [459, 460, 461, 58, 0, 2], 0, 0),
  (⟨"TrailStore", "put", "(I)I"⟩, prog_1_method_3_code, 2, (some .int), [463, 464, 465, 58, 0, 1], 0, 0),
  (⟨"TrailStore", "remove", "(I)I"⟩, prog_1_method_4_code, 2, (some .int), [607, 608, 609, 58, 0, 1], 0, 0),
  (⟨"TrailStore", "begin", "()I"⟩, prog_1_method_5_code, 1, (some .int), [616, 617, 618, 58, 0, 0], 0, 0),
  (⟨"TrailStore", "commit", "()I"⟩, prog_1_method_6_code, 1, (some .int), [620, 621, 622, 58, 0, 0], 0, 0),
  (⟨"TrailStore", "cancel", "()I"⟩, prog_1_method_7_code, 1, (some .int), [624, 625, 626, 58, 0, 0], 0, 0),
  (⟨"TrailStore", "get", "(I)I"⟩, prog_1_method_8_code, 2, (some .int), [628, 629, 630, 58, 0, 1], 0, 0),
  (⟨"TrailStore", "read", "(I)I"⟩, prog_1_method_9_code, 2, (some .int), [633, 634, 635, 58, 0, 1], 0, 0),
  (⟨"TrailStore", "next", "(I)I"⟩, prog_1_method_10_code, 3, (some .int), [637, 638, 639, 58, 0, 1], 0, 0),
  (⟨"TrailStore", "sync", "()I"⟩, prog_1_method_11_code, 2, (some .int), [646, 647, 648, 58, 0, 0], 0, 0),
  (⟨"TrailStore", "checkpoint", "()I"⟩, prog_1_method_12_code, 1, (some .int), [651, 652, 653, 58, 0, 0], 0, 0),
  (⟨"TrailStore", "collect", "(I)I"⟩, prog_1_method_13_code, 2, (some .int), [656, 657, 658, 58, 0, 1], 0, 0),
  (⟨"TrailStore", "crash", "(II)I"⟩, prog_1_method_14_code, 4, (some .int), [661, 662, 663, 58, 0, 2], 0, 0),
  (⟨"TrailStore", "fail", "(III)I"⟩, prog_1_method_15_code, 4, (some .int), [665, 666, 667, 58, 0, 3], 0, 0),
  (⟨"TrailStore", "spare", "()I"⟩, prog_1_method_16_code, 2, (some .int), [669, 670, 671, 58, 0, 0], 0, 0),
  (⟨"TrailStore", "open", "()I"⟩, prog_1_method_17_code, 1, (some .int), [673, 674, 675, 58, 0, 0], 0, 0),
  (⟨"TrailStore", "told", "(I)I"⟩, prog_1_method_18_code, 2, (some .int), [678, 679, 680, 58, 0, 1], 0, 0),
  (⟨"TrailStore", "table", "(II)I"⟩, prog_1_method_19_code, 5, (some .int), [691, 692, 693, 58, 0, 2], 0, 0),
  (⟨"TrailStore", "entry", "(II)I"⟩, prog_1_method_20_code, 3, (some .int), [698, 699, 700, 58, 0, 2], 0, 0),
  (⟨"TrailStore", "cell", "(II)I"⟩, prog_1_method_21_code, 4, (some .int), [702, 703, 704, 58, 0, 2], 0, 0),
  (⟨"TrailStore", "check", "()I"⟩, prog_1_method_22_code, 3, (some .int), [712, 713, 714, 58, 0, 0], 0, 0),
  (⟨"TrailStore", "isKey", "(I)Z"⟩, prog_1_method_23_code, 1, (some .boolean), [377, 0, 378, 58, 1, 1], 0, 0),
  (⟨"TrailStore", "isThere", "(I)Z"⟩, prog_1_method_24_code, 2, (some .boolean), [612, 16, 613, 58, 0, 1], 0, 0),
  (⟨"TrailStore", "keysThere", "()I"⟩, prog_1_method_25_code, 3, (some .int), [683, 17, 684, 58, 0, 0], 0, 0),
  (⟨"TrailStore", "bytesThere", "()I"⟩, prog_1_method_26_code, 3, (some .int), [687, 18, 688, 58, 0, 0], 0, 0),
  (⟨"TrailStore", "hasItsRecord", "(I)Z"⟩, prog_1_method_27_code, 3, (some .boolean), [718, 19, 719, 58, 0, 1], 0, 0),
  (⟨"TrailStore", "isSameReopened", "(I)Z"⟩, prog_1_method_28_code, 3, (some .boolean), [724, 20, 725, 58, 0, 1], 0, 0),
  (⟨"TrailStore", "batchOver", "(I)I"⟩, prog_1_method_29_code, 2, (some .int), [592, 13, 593, 58, 0, 1], 0, 0),
  (⟨"TrailStore", "ended", "(I)I"⟩, prog_1_method_30_code, 2, (some .int), [596, 14, 597, 58, 0, 1], 0, 0),
  (⟨"TrailStore", "losePower", "(II)V"⟩, prog_1_method_31_code, 3, none, [600, 15, 601, 58, 0, 2], 0, 0),
  (⟨"TrailStoreModel", "<init>", "(I)V"⟩, prog_9_method_1_code, 3, none, [737, 0, 738, 66, 3, 1], 25, 156778),
  (⟨"TrailStoreModel", "placeOf", "(II)I"⟩, prog_9_method_2_code, 3, (some .int), [755, 24, 756, 66, 0, 2], 0, 0),
  (⟨"TrailStoreModel", "byteAt", "(II)I"⟩, prog_9_method_3_code, 3, (some .int), [751, 23, 752, 66, 0, 2], 0, 0),
  (⟨"TrailStoreModel", "four", "(II)I"⟩, prog_9_method_4_code, 3, (some .int), [747, 22, 748, 66, 0, 2], 0, 0),
  (⟨"TrailStoreModel", "put4", "(II)V"⟩, prog_9_method_5_code, 4, none, [985, 39, 986, 66, 0, 2], 0, 0),
  (⟨"TrailStoreModel", "clearBuffer", "(I)V"⟩, prog_9_method_6_code, 3, none, [771, 28, 772, 66, 0, 1], 0, 0),
  (⟨"TrailStoreModel", "write", "(III)V"⟩, prog_9_method_7_code, 5, none, [775, 29, 776, 66, 0, 3], 0, 0),
  (⟨"TrailStoreModel", "lastWrite", "(II)V"⟩, prog_9_method_8_code, 4, none, [783, 31, 784, 66, 0, 2], 0, 0),
  (⟨"TrailStoreModel", "syncAll", "()I"⟩, prog_9_method_9_code, 3, (some .int), [787, 32, 788, 66, 0, 0], 0, 0),
  (⟨"TrailStoreModel", "powerFails", "(II)V"⟩, prog_9_method_10_code, 4, none, [779, 30, 780, 66, 0, 2], 0, 0),
  (⟨"TrailStoreModel", "isRecord", "(II)Z"⟩, prog_9_method_11_code, 6, (some .boolean), [759, 25, 760, 66, 0, 2], 0, 0),
  (⟨"TrailStoreModel", "sizeAt", "(I)I"⟩, prog_9_method_12_code, 2, (some .int), [763, 26, 764, 66, 0, 1], 0, 0),
  (⟨"TrailStoreModel", "append", "(III)Z"⟩, prog_9_method_13_code, 5, (some .boolean), [1053, 55, 1054, 66, 0, 3], 0, 0),
  (⟨"TrailStoreModel", "remember", "(IIII)V"⟩, prog_9_method_14_code, 5, none, [767, 27, 768, 66, 0, 4], 0, 0),
  (⟨"TrailStoreModel", "tableByte", "(II)I"⟩, prog_9_method_15_code, 3, (some .int), [1004, 43, 1005, 66, 0, 2], 0, 0),
  (⟨"TrailStoreModel", "tableFour", "(II)I"⟩, prog_9_method_16_code, 3, (some .int), [1016, 46, 1017, 66, 0, 2], 0, 0),
  (⟨"TrailStoreModel", "levelOf", "(I)I"⟩, prog_9_method_17_code, 2, (some .int), [1000, 42, 1001, 66, 0, 1], 0, 0),
  (⟨"TrailStoreModel", "bitsOf", "(I)I"⟩, prog_9_method_18_code, 1, (some .int), [988, 0, 989, 66, 1, 1], 0, 0),
  (⟨"TrailStoreModel", "placeIn", "(II)I"⟩, prog_9_method_19_code, 4, (some .int), [1049, 54, 1050, 66, 0, 2], 0, 0),
  (⟨"TrailStoreModel", "find", "(I)Z"⟩, prog_9_method_20_code, 4, (some .boolean), [1045, 53, 1046, 66, 0, 1], 0, 0),
  (⟨"TrailStoreModel", "isThere", "(I)Z"⟩, prog_9_method_21_code, 2, (some .boolean), [1061, 56, 1062, 66, 0, 1], 0, 0),
  (⟨"TrailStoreModel", "clearNew", "()V"⟩, prog_9_method_22_code, 2, none, [1008, 44, 1009, 66, 0, 0], 0, 0),
  (⟨"TrailStoreModel", "gather", "(I)V"⟩, prog_9_method_23_code, 5, none, [1012, 45, 1013, 66, 0, 1], 0, 0),
  (⟨"TrailStoreModel", "newCount", "()I"⟩, prog_9_method_24_code, 3, (some .int), [1020, 47, 1021, 66, 0, 0], 0, 0),
  (⟨"TrailStoreModel", "writeTable", "(I)I"⟩, prog_9_method_25_code, 8, (some .int), [981, 38, 982, 66, 0, 1], 0, 0),
  (⟨"TrailStoreModel", "drop", "(II)V"⟩, prog_9_method_26_code, 4, none, [1024, 48, 1025, 66, 0, 2], 0, 0),
  (⟨"TrailStoreModel", "insert", "(II)V"⟩, prog_9_method_27_code, 4, none, [992, 40, 993, 66, 0, 2], 0, 0),
  (⟨"TrailStoreModel", "countOf", "(I)I"⟩, prog_9_method_28_code, 4, (some .int), [996, 41, 997, 66, 0, 1], 0, 0),
  (⟨"TrailStoreModel", "writeRoot", "()V"⟩, prog_9_method_29_code, 3, none, [1028, 49, 1029, 66, 0, 0], 0, 0),
  (⟨"TrailStoreModel", "makeTables", "()V"⟩, prog_9_method_30_code, 5, none, [977, 37, 978, 66, 0, 0], 0, 0),
  (⟨"TrailStoreModel", "checkpointAll", "()V"⟩, prog_9_method_31_code, 3, none, [973, 36, 974, 66, 0, 0], 0, 0),
  (⟨"TrailStoreModel", "hasRoom", "(II)Z"⟩, prog_9_method_32_code, 3, (some .boolean), [1032, 50, 1033, 66, 0, 2], 0, 0),
  (⟨"TrailStoreModel", "collecting", "(I)I"⟩, prog_9_method_33_code, 11, (some .int), [1041, 52, 1042, 66, 0, 1], 0, 0),
  (⟨"TrailStoreModel", "passLog", "()V"⟩, prog_9_method_34_code, 3, none, [1037, 51, 1038, 66, 0, 0], 0, 0),
  (⟨"TrailStoreModel", "wouldHave", "()I"⟩, prog_9_method_35_code, 5, (some .int), [969, 35, 970, 66, 0, 0], 0, 0),
  (⟨"TrailStoreModel", "writeBatch", "()I"⟩, prog_9_method_36_code, 7, (some .int), [965, 34, 966, 66, 0, 0], 0, 0),
  (⟨"TrailStoreModel", "lay", "(II)V"⟩, prog_9_method_37_code, 4, none, [961, 33, 962, 66, 0, 2], 0, 0),
  (⟨"TrailStoreModel", "openDisk", "()I"⟩, prog_9_method_38_code, 7, (some .int), [743, 21, 744, 66, 0, 0], 0, 0),
  (⟨"TrailStoreModel", "open", "()I"⟩, prog_9_method_39_code, 1, (some .int), [945, 946, 947, 66, 0, 0], 0, 0),
  (⟨"TrailStoreModel", "isKey", "(I)Z"⟩, prog_9_method_40_code, 1, (some .boolean), [957, 0, 958, 66, 1, 1], 0, 0),
  (⟨"TrailStoreModel", "type", "(JI)I"⟩, prog_9_method_41_code, 5, (some .int), [949, 950, 951, 66, 0, 2], 0, 0),
  (⟨"TrailStoreModel", "put", "(I)I"⟩, prog_9_method_42_code, 2, (some .int), [953, 954, 955, 66, 0, 1], 0, 0),
  (⟨"TrailStoreModel", "remove", "(I)I"⟩, prog_9_method_43_code, 2, (some .int), [1056, 1057, 1058, 66, 0, 1], 0, 0),
  (⟨"TrailStoreModel", "begin", "()I"⟩, prog_9_method_44_code, 2, (some .int), [1064, 1065, 1066, 66, 0, 0], 0, 0),
  (⟨"TrailStoreModel", "commit", "()I"⟩, prog_9_method_45_code, 1, (some .int), [1068, 1069, 1070, 66, 0, 0], 0, 0),
  (⟨"TrailStoreModel", "cancel", "()I"⟩, prog_9_method_46_code, 2, (some .int), [1072, 1073, 1074, 66, 0, 0], 0, 0),
  (⟨"TrailStoreModel", "get", "(I)I"⟩, prog_9_method_47_code, 4, (some .int), [1076, 1077, 1078, 66, 0, 1], 0, 0),
  (⟨"TrailStoreModel", "read", "(I)I"⟩, prog_9_method_48_code, 2, (some .int), [1080, 1081, 1082, 66, 0, 1], 0, 0),
  (⟨"TrailStoreModel", "next", "(I)I"⟩, prog_9_method_49_code, 3, (some .int), [1084, 1085, 1086, 66, 0, 1], 0, 0),
  (⟨"TrailStoreModel", "sync", "()I"⟩, prog_9_method_50_code, 1, (some .int), [1088, 1089, 1090, 66, 0, 0], 0, 0),
  (⟨"TrailStoreModel", "checkpoint", "()I"⟩, prog_9_method_51_code, 1, (some .int), [1092, 1093, 1094, 66, 0, 0], 0, 0),
  (⟨"TrailStoreModel", "collect", "(I)I"⟩, prog_9_method_52_code, 3, (some .int), [1096, 1097, 1098, 66, 0, 1], 0, 0),
  (⟨"TrailStoreModel", "crash", "(II)I"⟩, prog_9_method_53_code, 4, (some .int), [1100, 1101, 1102, 66, 0, 2], 0, 0),
  (⟨"TrailStoreModel", "fail", "(III)I"⟩, prog_9_method_54_code, 4, (some .int), [1104, 1105, 1106, 66, 0, 3], 0, 0),
  (⟨"TrailStoreModel", "spare", "()I"⟩, prog_9_method_55_code, 2, (some .int), [1108, 1109, 1110, 66, 0, 0], 0, 0),
  (⟨"TrailStoreModel", "told", "(I)I"⟩, prog_9_method_56_code, 5, (some .int), [1112, 1113, 1114, 66, 0, 1], 0, 0),
  (⟨"TrailStoreModel", "table", "(II)I"⟩, prog_9_method_57_code, 3, (some .int), [1116, 1117, 1118, 66, 0, 2], 0, 0),
  (⟨"TrailStoreModel", "entry", "(II)I"⟩, prog_9_method_58_code, 3, (some .int), [1120, 1121, 1122, 66, 0, 2], 0, 0),
  (⟨"TrailStoreModel", "cell", "(II)I"⟩, prog_9_method_59_code, 3, (some .int), [1124, 1125, 1126, 66, 0, 2], 0, 0),
  (⟨"TrailStoreModel", "check", "()I"⟩, prog_9_method_60_code, 1, (some .int), [1128, 1129, 1130, 66, 0, 0], 0, 0),
  (⟨"TrailStoreLaw", "cell", "([II)I"⟩, method_2_code, 2, (some .int), [732, 0, 733, 57, 1, 2], 0, 0),
  (⟨"TrailStoreLaw", "law", "([I)Z"⟩, code, 4, (some .boolean), [], 0, 0)]
def rx_tt : List (List (List rI)) := [rt_0, rt_1, rt_2, rt_3, rt_4, rt_5, rt_6, rt_7, rt_8, rt_9, rt_10, rt_11, rt_12, rt_13, rt_14, rt_15, rt_16, rt_17, rt_18, rt_19, rt_20, rt_21, rt_22, rt_23, rt_24, rt_25, rt_26, rt_27, rt_28, rt_29, rt_30, rt_31, rt_32, rt_33, rt_34, rt_35, rt_36, rt_37, rt_38, rt_39, rt_40, rt_41, rt_42, rt_43, rt_44, rt_45, rt_46, rt_47, rt_48, rt_49, rt_50, rt_51, rt_52, rt_53, rt_54, rt_55, rt_56, rt_57, rt_58, rt_59, rt_60, rt_61, rt_62, rt_63, rt_64, rt_65, rt_66, rt_67, rt_68, rt_69, rt_70, rt_71, rt_72, rt_73, rt_74, rt_75, rt_76, rt_77, rt_78, rt_79, rt_80, rt_81, rt_82, rt_83, rt_84, rt_85, rt_86, rt_87, rt_88, rt_89, rt_90, rt_91, rt_92, rt_93, rt_94, rt_95, rt_96, rt_97, rt_98, rt_99, rt_100, rt_101, rt_102, rt_103, rt_104, rt_105, rt_106, rt_107, rt_108, rt_109, rt_110, rt_111, rt_112, rt_113, rt_114, rt_115, rt_116, rt_117, rt_118, rt_119, rt_120, rt_121, rt_122, rt_123, rt_124, rt_125, rt_126, rt_127, rt_128, rt_129, rt_130, rt_131, rt_132, rt_133, rt_134, rt_135, rt_136, rt_137, rt_138, rt_139, rt_140, rt_141, rt_142, rt_143, rt_144, rt_145, rt_146, rt_147, rt_148, rt_149]
end
section
/-! PART 03: a small machine over pure worlds: what an instruction does to locals, stack and world, as a condition on what comes behind it -/
abbrev pE : Type := (Nat × vp_A) ⊕ (Nat × List Value)
abbrev pW : Type := List pE
/-- the script is reference 0, cell j of the world is reference j + 1 -/
def rx_ad (b h : Nat) : Nat → Nat
  | 0 => b
  | k + 1 => h + k
def rx_cv (b h : Nat) : Value → Value
  | .ref k => .ref (rx_ad b h k)
  | v => v
def rx_ca (b h : Nat) (a : vp_A) : vp_A := match a with
  | (n, .inr (.inr (.inr (.inr f)))) => (n, .inr (.inr (.inr (.inr (fun j => (f j).map (rx_ad b h))))))
  | (n, .inl f) => (n, .inl f)
  | (n, .inr (.inl f)) => (n, .inr (.inl f))
  | (n, .inr (.inr (.inl f))) => (n, .inr (.inr (.inl f)))
  | (n, .inr (.inr (.inr (.inl f)))) => (n, .inr (.inr (.inr (.inl f))))
def rx_ce (b h : Nat) (tc : Nat → ClassId) (e : pE) : va_E := match e with
  | .inl (t, a) => .inl (tc t, rx_ca b h a)
  | .inr (c, fs) => .inr (c, fs.map (rx_cv b h))
def rx_cw (b h : Nat) (tc : Nat → ClassId) : Nat → pW → va_W
  | _, [] => []
  | k, e :: l => (k, rx_ce b h tc e) :: rx_cw b h tc (k + 1) l
/-- kinds of arrays -/
def rx_tg : Nat → FieldType
  | 0 => .int
  | 1 => .byte
  | 2 => .boolean
  | _ => .array .byte
def rx_tys (tc : Nat → ClassId) : List (ClassId × FieldType) := [(tc 0, .int), (tc 1, .byte), (tc 2, .boolean), (tc 3, .array .byte)]
-- the world's cells
def gt_f (w : pW) (c o k : Nat) : Option Value := match o with
  | 0 => none
  | j + 1 => match w[j]? with
    | some (.inr (c', fs)) => if c' = c then fs[k]? else none
    | _ => none
def gt_c (w : pW) (o : Nat) : Option Nat := match o with
  | 0 => none
  | j + 1 => match w[j]? with
    | some (.inr (c', _)) => some c'
    | _ => none
def pt_f (w : pW) (c o k : Nat) (v : Value) : Option pW := match o with
  | 0 => none
  | j + 1 => match w[j]? with
    | some (.inr (c', fs)) => if c' = c ∧ k < fs.length then some (w.set j (.inr (c, fs.set k v))) else none
    | _ => none
def gt_a (w : pW) (o : Nat) : Option (Nat × vp_A) := match o with
  | 0 => none
  | j + 1 => match w[j]? with
    | some (.inl a) => some a
    | _ => none
def pt_a (w : pW) (o : Nat) (a : Nat × vp_A) : pW := match o with
  | 0 => w
  | j + 1 => w.set j (.inl a)
def rx_d : rI := (0, .nop, 0, [], 0)
def rx_e (t : List (List rI)) (i : Nat) : rI := (t.getD (i / 16) []).getD (i % 16) rx_d
def rx_md : rM := (⟨"", "", ""⟩, ⟨#[]⟩, 0, none, [], 0, 0)
def rx_m (M : Nat) : rM := rx_ms.getD M rx_md
abbrev mN (M : Nat) : MethodName := (rx_m M).1
abbrev mC (M : Nat) : ByteArray := (rx_m M).2.1
abbrev mL (M : Nat) : Nat := (rx_m M).2.2.1
abbrev mR (M : Nat) : Option FieldType := (rx_m M).2.2.2.1
abbrev mW (M : Nat) : List Nat := (rx_m M).2.2.2.2.1
abbrev mA (M : Nat) : Nat × Nat := (rx_m M).2.2.2.2.2
/-- locals, stack, world, cells and slots made so far -/
abbrev rK : Type := Nat → List (Option Value) → List Value → pW → Nat → Nat → Prop
abbrev rQ : Type := Option Value → pW → Prop
abbrev rC : Type := Nat → List Value → pW → rQ → Prop
-- pieces
def rx_ii (f : Int32 → Int32 → Int32) (st : List Value) (k : List Value → Prop) : Prop := match st with
  | .int y :: .int x :: r => k (.int (f x y) :: r)
  | _ => False
def rx_ll (f : Int64 → Int64 → Int64) (st : List Value) (k : List Value → Prop) : Prop := match st with
  | .long y :: .long x :: r => k (.long (f x y) :: r)
  | _ => False
def rx_li (f : Int64 → Int32 → Int64) (st : List Value) (k : List Value → Prop) : Prop := match st with
  | .int y :: .long x :: r => k (.long (f x y) :: r)
  | _ => False
def rx_di (f : Int32 → Int32 → Int32) (st : List Value) (k : List Value → Prop) : Prop := match st with
  | .int y :: .int x :: r => ¬ y = 0 ∧ k (.int (f x y) :: r)
  | _ => False
def rx_i (f : Int32 → Int32) (st : List Value) (k : List Value → Prop) : Prop := match st with
  | .int x :: r => k (.int (f x) :: r)
  | _ => False
def rx_ldi (L : List (Option Value)) (j : Nat) (k : Value → Prop) : Prop := match L[j]? with
  | some (some (.int x)) => k (.int x)
  | _ => False
def rx_ldl (L : List (Option Value)) (j : Nat) (k : Value → Prop) : Prop := match L[j]? with
  | some (some (.long x)) => k (.long x)
  | _ => False
def rx_lda (L : List (Option Value)) (j : Nat) (k : Value → Prop) : Prop := match L[j]? with
  | some (some (.ref x)) => k (.ref x)
  | _ => False
/-- nothing wide stands just before place j -/
def rx_nw (L : List (Option Value)) : Nat → Bool
  | 0 => true
  | j + 1 => match L[j]? with
    | some (some (.long _)) => false
    | some (some (.double _)) => false
    | _ => true
def rx_sti (L : List (Option Value)) (j : Nat) (st : List Value) (k : List (Option Value) → List Value → Prop) : Prop := match st with
  | .int x :: r => (rx_nw L j = true ∧ j < L.length) ∧ k (L.set j (some (.int x))) r
  | _ => False
def rx_sta (L : List (Option Value)) (j : Nat) (st : List Value) (k : List (Option Value) → List Value → Prop) : Prop := match st with
  | .ref x :: r => (rx_nw L j = true ∧ j < L.length) ∧ k (L.set j (some (.ref x))) r
  | _ => False
def rx_inc (L : List (Option Value)) (j : Nat) (v : Int32) (k : List (Option Value) → Prop) : Prop := match L[j]? with
  | some (some (.int x)) => rx_nw L j = true ∧ k (L.set j (some (.int (x + v))))
  | _ => False
def rx_cmp (o : Jvm.ClassFile.Cond) (x y : Int32) (a b : Prop) : Prop := match o with
  | .eq => (x = y → a) ∧ (¬ x = y → b)
  | .ne => (¬ x = y → a) ∧ (x = y → b)
  | .lt => (x < y → a) ∧ (¬ x < y → b)
  | .ge => (y ≤ x → a) ∧ (¬ y ≤ x → b)
  | .gt => (y < x → a) ∧ (¬ y < x → b)
  | .le => (x ≤ y → a) ∧ (¬ x ≤ y → b)
def rx_at (info : List Nat) (k : Nat) : Nat := info.getD k 0
def rx_sz (l : List Value) : Nat := (l.map fun v => v.category).sum
def rx_call (call : rC) (info : List Nat) (lim : Nat × Nat) (st : List Value) (w : pW) (c s : Nat) (k : List Value → pW → Nat → Nat → Prop) : Prop :=
  let M := rx_at info 0
  let n := rx_at info 1
  match rx_at info 2 with
  | 0 => match st.drop n with
    | .ref o :: r => (n ≤ st.length ∧ (gt_c w o).map (fun ci => (rx_cl.getD ci ("", fun _ => ("", "", "", false), 0)).1) = some (mN M).cls ∧ rx_sz r ≤ 8 ∧ c + (mA M).1 ≤ lim.1 ∧ s + (mA M).2 ≤ lim.2) ∧ call M (.ref o :: (st.take n).reverse) w (fun v w' => k (v.toList ++ r) w' (c + (mA M).1) (s + (mA M).2))
    | _ => False
  | 1 => (n ≤ st.length ∧ rx_sz (st.drop n) ≤ 8 ∧ c + (mA M).1 ≤ lim.1 ∧ s + (mA M).2 ≤ lim.2) ∧ call M (st.take n).reverse w (fun v w' => k (v.toList ++ st.drop n) w' (c + (mA M).1) (s + (mA M).2))
  | 2 => (n ≤ st.length ∧ rx_sz (st.drop n) ≤ 8 ∧ c + (mA M).1 ≤ lim.1 ∧ s + (mA M).2 ≤ lim.2) ∧ call M (st.take n).reverse w (fun v w' => k (v.toList ++ st.drop n) w' (c + (mA M).1) (s + (mA M).2))
  | 3 => match st.drop n with
    | .ref o :: r => (n ≤ st.length ∧ rx_sz r ≤ 8 ∧ c + (mA M).1 ≤ lim.1 ∧ s + (mA M).2 ≤ lim.2) ∧ call M (.ref o :: (st.take n).reverse) w (fun v w' => k (v.toList ++ r) w' (c + (mA M).1) (s + (mA M).2))
    | _ => False
  | 10 => match st with
    | .int y :: .int x :: r => rx_sz r ≤ 8 ∧ k (.int (if x < y then y else x) :: r) w c s
    | _ => False
  | 11 => match st with
    | .int y :: .int x :: r => rx_sz r ≤ 8 ∧ k (.int (if y < x then y else x) :: r) w c s
    | _ => False
  | 12 => match st with
    | .ref _ :: r => rx_sz r ≤ 8 ∧ k r w c s
    | _ => False
  | 13 => match st with
    | .int n :: .int dp :: .ref a1 :: .int sp :: .ref a0 :: r => match gt_a w a0, gt_a w a1 with
      | some (0, n0, .inl f), some (0, n1, .inl g) => (rx_sz r ≤ 8 ∧ ¬ sp < 0 ∧ ¬ dp < 0 ∧ ¬ n < 0 ∧ sp.toNatClampNeg + n.toNatClampNeg ≤ n0 ∧ dp.toNatClampNeg + n.toNatClampNeg ≤ n1) ∧ k r (pt_a w a1 (0, n1, .inl (va_cpy f g sp.toNatClampNeg dp.toNatClampNeg n.toNatClampNeg))) c s
      | _, _ => False
    | _ => False
  | _ => False
def rx_ald (Lx : Nat) (xs : Nat → Int32) (t : Nat → Bool) (st : List Value) (w : pW) (k : List Value → Prop) : Prop := match st with
  | .int i :: .ref 0 :: r => t 0 = true ∧ vp_in i Lx ∧ k (.int (xs i.toNatClampNeg) :: r)
  | .int i :: .ref (o + 1) :: r => match gt_a w (o + 1) with
    | some (tg, n, .inl f) => t tg = true ∧ vp_in i n ∧ k (.int (f i.toNatClampNeg) :: r)
    | _ => False
  | _ => False
def rx_aald (st : List Value) (w : pW) (k : List Value → Prop) : Prop := match st with
  | .int i :: .ref o :: r => match gt_a w o with
    | some (3, n, .inr (.inr (.inr (.inr f)))) => vp_in i n ∧ ∃ y, f i.toNatClampNeg = some y ∧ k (.ref y :: r)
    | _ => False
  | _ => False
def rx_ast (t : Nat → Bool) (st : List Value) (w : pW) (k : List Value → pW → Prop) : Prop := match st with
  | .int x :: .int i :: .ref o :: r => match gt_a w o with
    | some (tg, n, .inl f) => t tg = true ∧ vp_in i n ∧ k r (pt_a w o (tg, n, .inl (upd f i.toNatClampNeg (vp_nar (rx_tg tg) x))))
    | _ => False
  | _ => False
def rx_len (Lx : Nat) (st : List Value) (w : pW) (k : List Value → Prop) : Prop := match st with
  | .ref 0 :: r => k (.int (Int32.ofNat Lx) :: r)
  | .ref (o + 1) :: r => match gt_a w (o + 1) with
    | some (tg, n, _) => tg < 4 ∧ k (.int (Int32.ofNat n) :: r)
    | _ => False
  | _ => False
def rx_tsw (lo hi : Int) (info : List Nat) (st : List Value) (k : Nat → List Value → Prop) : Prop := match st with
  | .int x :: r => (x.toInt < lo ∨ hi < x.toInt → k (rx_at info 0) r) ∧ (¬ x.toInt < lo → ¬ hi < x.toInt → k (rx_at info ((x.toInt - lo).toNat + 1)) r)
  | _ => False
/-- one instruction -/
def rx_st (call : rC) (Lx : Nat) (xs : Nat → Int32) (t : List (List rI)) (ret : Option FieldType) (lim : Nat × Nat) (Q : rQ) (K : rK) (i : Nat) (L : List (Option Value)) (st : List Value) (w : pW) (c s : Nat) : Prop :=
  match rx_e t i with
  | (_, ins, _, info, v) => match ins with
    | .iconst _ => K (i + 1) L (.int v :: st) w c s
    | .bipush _ => K (i + 1) L (.int v :: st) w c s
    | .sipush _ => K (i + 1) L (.int v :: st) w c s
    | .ldc _ => K (i + 1) L (.int v :: st) w c s
    | .ldc2_w _ => K (i + 1) L (.long (Int64.ofNat (rx_at info 0)) :: st) w c s
    | .iload j => rx_ldi L j (fun x => K (i + 1) L (x :: st) w c s)
    | .iload_n j => rx_ldi L j.val (fun x => K (i + 1) L (x :: st) w c s)
    | .lload_n j => rx_ldl L j.val (fun x => K (i + 1) L (x :: st) w c s)
    | .aload j => rx_lda L j (fun x => K (i + 1) L (x :: st) w c s)
    | .aload_n j => rx_lda L j.val (fun x => K (i + 1) L (x :: st) w c s)
    | .istore j => rx_sti L j st (fun L' r => K (i + 1) L' r w c s)
    | .istore_n j => rx_sti L j.val st (fun L' r => K (i + 1) L' r w c s)
    | .astore_n j => rx_sta L j.val st (fun L' r => K (i + 1) L' r w c s)
    | .iinc j _ => rx_inc L j v (fun L' => K (i + 1) L' st w c s)
    | .iadd => rx_ii (fun x y => x + y) st (fun r => K (i + 1) L r w c s)
    | .isub => rx_ii (fun x y => x - y) st (fun r => K (i + 1) L r w c s)
    | .imul => rx_ii (fun x y => x * y) st (fun r => K (i + 1) L r w c s)
    | .iand => rx_ii (fun x y => x &&& y) st (fun r => K (i + 1) L r w c s)
    | .ior => rx_ii (fun x y => x ||| y) st (fun r => K (i + 1) L r w c s)
    | .idiv => rx_di (fun x y => x / y) st (fun r => K (i + 1) L r w c s)
    | .irem => rx_di (fun x y => x - x / y * y) st (fun r => K (i + 1) L r w c s)
    | .ishl => rx_ii (fun x y => x <<< (y &&& 31)) st (fun r => K (i + 1) L r w c s)
    | .ishr => rx_ii (fun x y => x >>> (y &&& 31)) st (fun r => K (i + 1) L r w c s)
    | .iushr => rx_ii (fun x y => (x.toUInt32 >>> (y.toUInt32 &&& Int32.toUInt32 31)).toInt32) st (fun r => K (i + 1) L r w c s)
    | .i2b => rx_i (fun x => x.toInt8.toInt32) st (fun r => K (i + 1) L r w c s)
    | .i2l => match st with
      | .int x :: r => K (i + 1) L (.long x.toInt64 :: r) w c s
      | _ => False
    | .l2i => match st with
      | .long x :: r => K (i + 1) L (.int x.toInt32 :: r) w c s
      | _ => False
    | .ladd => rx_ll (fun x y => x + y) st (fun r => K (i + 1) L r w c s)
    | .lsub => rx_ll (fun x y => x - y) st (fun r => K (i + 1) L r w c s)
    | .land => rx_ll (fun x y => x &&& y) st (fun r => K (i + 1) L r w c s)
    | .lor => rx_ll (fun x y => x ||| y) st (fun r => K (i + 1) L r w c s)
    | .lshl => rx_li (fun x y => x <<< (y.toInt64 &&& 63)) st (fun r => K (i + 1) L r w c s)
    | .lshr => rx_li (fun x y => x >>> (y.toInt64 &&& 63)) st (fun r => K (i + 1) L r w c s)
    | .lushr => rx_li (fun x y => (x.toUInt64 >>> (y.toInt64.toUInt64 &&& Int64.toUInt64 63)).toInt64) st (fun r => K (i + 1) L r w c s)
    | .lcmp => match st with
      | .long y :: .long x :: r => K (i + 1) L (.int (lg_cmp x y) :: r) w c s
      | _ => False
    | .dup => match st with
      | x :: r => x.category = 1 ∧ K (i + 1) L (x :: x :: r) w c s
      | _ => False
    | .pop => match st with
      | x :: r => x.category = 1 ∧ K (i + 1) L r w c s
      | _ => False
    | .goto _ => K (rx_at info 0) L st w c s
    | .ifCond o _ => match st with
      | .int x :: r => rx_cmp o x 0 (K (rx_at info 0) L r w c s) (K (i + 1) L r w c s)
      | _ => False
    | .if_icmp o _ => match st with
      | .int y :: .int x :: r => rx_cmp o x y (K (rx_at info 0) L r w c s) (K (i + 1) L r w c s)
      | _ => False
    | .tableswitch _ lo hi _ => rx_tsw lo hi info st (fun j r => K j L r w c s)
    | .getfield _ => match st with
      | .ref o :: r => match gt_f w (rx_at info 0) o (rx_at info 1) with
        | some x => K (i + 1) L (x :: r) w c s
        | _ => False
      | _ => False
    | .putfield _ => match st with
      | x :: .ref o :: r => match pt_f w (rx_at info 0) o (rx_at info 1) x with
        | some w' => (narrow (rx_ty (rx_at info 0) (rx_at info 1)) x = x ∧ fits (rx_ty (rx_at info 0) (rx_at info 1)) x = true) ∧ K (i + 1) L r w' c s
        | _ => False
      | _ => False
    | .iaload => rx_ald Lx xs (fun t => t == 0) st w (fun r => K (i + 1) L r w c s)
    | .baload => rx_ald Lx xs (fun t => t == 1 || t == 2) st w (fun r => K (i + 1) L r w c s)
    | .aaload => rx_aald st w (fun r => K (i + 1) L r w c s)
    | .iastore => rx_ast (fun t => t == 0) st w (fun r w' => K (i + 1) L r w' c s)
    | .bastore => rx_ast (fun t => t == 1 || t == 2) st w (fun r w' => K (i + 1) L r w' c s)
    | .arraylength => rx_len Lx st w (fun r => K (i + 1) L r w c s)
    | .newarray _ => match st with
      | .int n :: r => (¬ n < 0 ∧ n.toNatClampNeg ≤ 100000 ∧ c + 1 ≤ lim.1 ∧ s + n.toNatClampNeg ≤ lim.2) ∧ K (i + 1) L (.ref (w.length + 1) :: r) (w ++ [.inl (rx_at info 0, n.toNatClampNeg, .inl (fun _ => 0))]) (c + 1) (s + n.toNatClampNeg)
      | _ => False
    | .new _ => (c + 1 ≤ lim.1 ∧ s + (rx_cl.getD (rx_at info 0) ("", fun _ => ("", "", "", false), 0)).2.2 ≤ lim.2) ∧ K (i + 1) L (.ref (w.length + 1) :: st) (w ++ [.inr (rx_at info 0, (List.range (rx_cl.getD (rx_at info 0) ("", fun _ => ("", "", "", false), 0)).2.2).map (fun k => defaultValue (rx_ty (rx_at info 0) k)))]) (c + 1) (s + (rx_cl.getD (rx_at info 0) ("", fun _ => ("", "", "", false), 0)).2.2)
    | .multianewarray _ _ => match st with
      | .int 64 :: .int 8 :: r => (c + 9 ≤ lim.1 ∧ s + 520 ≤ lim.2) ∧ K (i + 1) L (.ref (w.length + 1) :: r) (w ++ .inl (3, 8, .inr (.inr (.inr (.inr (fun j => if j < 8 then some (w.length + 2 + j) else none))))) :: List.replicate 8 (.inl (1, 64, .inl (fun _ => 0)))) (c + 9) (s + 520)
      | _ => False
    | .invokevirtual _ => rx_at info 2 = 0 ∧ rx_call call info lim st w c s (fun r w' c' s' => K (i + 1) L r w' c' s')
    | .invokestatic _ => (rx_at info 2 = 1 ∨ rx_at info 2 = 2 ∨ rx_at info 2 = 10 ∨ rx_at info 2 = 11 ∨ rx_at info 2 = 13) ∧ rx_call call info lim st w c s (fun r w' c' s' => K (i + 1) L r w' c' s')
    | .invokespecial _ => (rx_at info 2 = 3 ∨ rx_at info 2 = 12) ∧ rx_call call info lim st w c s (fun r w' c' s' => K (i + 1) L r w' c' s')
    | .ireturn => match st with
      | [.int x] => (∃ ty, ret = some ty ∧ narrow ty (.int x) = .int x) ∧ Q (some (.int x)) w
      | _ => False
    | .return_ => match st with
      | [] => ret = none ∧ Q none w
      | _ => False
    | _ => False
end
section
/-! PART 04: more holds behind an instruction if more holds behind what comes behind it; runs and calls -/
theorem mo_ii {f : Int32 → Int32 → Int32} {st : List Value} {k k' : List Value → Prop} (hk : ∀ r, k r → k' r) (h : rx_ii f st k) : rx_ii f st k' := by
  unfold rx_ii at h ⊢
  split at h
  · exact hk _ h
  · exact h.elim
theorem mo_ll {f : Int64 → Int64 → Int64} {st : List Value} {k k' : List Value → Prop} (hk : ∀ r, k r → k' r) (h : rx_ll f st k) : rx_ll f st k' := by
  unfold rx_ll at h ⊢
  split at h
  · exact hk _ h
  · exact h.elim
theorem mo_li {f : Int64 → Int32 → Int64} {st : List Value} {k k' : List Value → Prop} (hk : ∀ r, k r → k' r) (h : rx_li f st k) : rx_li f st k' := by
  unfold rx_li at h ⊢
  split at h
  · exact hk _ h
  · exact h.elim
theorem mo_di {f : Int32 → Int32 → Int32} {st : List Value} {k k' : List Value → Prop} (hk : ∀ r, k r → k' r) (h : rx_di f st k) : rx_di f st k' := by
  unfold rx_di at h ⊢
  split at h
  · exact ⟨h.1, hk _ h.2⟩
  · exact h.elim
theorem mo_i {f : Int32 → Int32} {st : List Value} {k k' : List Value → Prop} (hk : ∀ r, k r → k' r) (h : rx_i f st k) : rx_i f st k' := by
  unfold rx_i at h ⊢
  split at h
  · exact hk _ h
  · exact h.elim
theorem mo_ldi {L : List (Option Value)} {j : Nat} {k k' : Value → Prop} (hk : ∀ r, k r → k' r) (h : rx_ldi L j k) : rx_ldi L j k' := by
  unfold rx_ldi at h ⊢
  split at h
  · exact hk _ h
  · exact h.elim
theorem mo_ldl {L : List (Option Value)} {j : Nat} {k k' : Value → Prop} (hk : ∀ r, k r → k' r) (h : rx_ldl L j k) : rx_ldl L j k' := by
  unfold rx_ldl at h ⊢
  split at h
  · exact hk _ h
  · exact h.elim
theorem mo_lda {L : List (Option Value)} {j : Nat} {k k' : Value → Prop} (hk : ∀ r, k r → k' r) (h : rx_lda L j k) : rx_lda L j k' := by
  unfold rx_lda at h ⊢
  split at h
  · exact hk _ h
  · exact h.elim
theorem mo_sti {L : List (Option Value)} {j : Nat} {st : List Value} {k k' : List (Option Value) → List Value → Prop} (hk : ∀ l r, k l r → k' l r) (h : rx_sti L j st k) : rx_sti L j st k' := by
  unfold rx_sti at h ⊢
  split at h
  · exact ⟨h.1, hk _ _ h.2⟩
  · exact h.elim
theorem mo_sta {L : List (Option Value)} {j : Nat} {st : List Value} {k k' : List (Option Value) → List Value → Prop} (hk : ∀ l r, k l r → k' l r) (h : rx_sta L j st k) : rx_sta L j st k' := by
  unfold rx_sta at h ⊢
  split at h
  · exact ⟨h.1, hk _ _ h.2⟩
  · exact h.elim
theorem mo_inc {L : List (Option Value)} {j : Nat} {v : Int32} {k k' : List (Option Value) → Prop} (hk : ∀ l, k l → k' l) (h : rx_inc L j v k) : rx_inc L j v k' := by
  unfold rx_inc at h ⊢
  split at h
  · exact ⟨h.1, hk _ h.2⟩
  · exact h.elim
theorem mo_cmp {o : Jvm.ClassFile.Cond} {x y : Int32} {a b a' b' : Prop} (ha : a → a') (hb : b → b') (h : rx_cmp o x y a b) : rx_cmp o x y a' b' := by
  cases o <;> exact ⟨fun z => ha (h.1 z), fun z => hb (h.2 z)⟩
theorem mo_ald {Lx : Nat} {xs : Nat → Int32} {t : Nat → Bool} {st : List Value} {w : pW} {k k' : List Value → Prop} (hk : ∀ r, k r → k' r) (h : rx_ald Lx xs t st w k) : rx_ald Lx xs t st w k' := by
  unfold rx_ald at h ⊢
  split at h
  · exact ⟨h.1, h.2.1, hk _ h.2.2⟩
  · split at h
    · exact ⟨h.1, h.2.1, hk _ h.2.2⟩
    · exact h.elim
  · exact h.elim
theorem mo_aald {st : List Value} {w : pW} {k k' : List Value → Prop} (hk : ∀ r, k r → k' r) (h : rx_aald st w k) : rx_aald st w k' := by
  unfold rx_aald at h ⊢
  split at h
  · split at h
    · obtain ⟨h1, y, h2, h3⟩ := h
      exact ⟨h1, y, h2, hk _ h3⟩
    · exact h.elim
  · exact h.elim
theorem mo_ast {t : Nat → Bool} {st : List Value} {w : pW} {k k' : List Value → pW → Prop} (hk : ∀ r w, k r w → k' r w) (h : rx_ast t st w k) : rx_ast t st w k' := by
  unfold rx_ast at h ⊢
  split at h
  · split at h
    · exact ⟨h.1, h.2.1, hk _ _ h.2.2⟩
    · exact h.elim
  · exact h.elim
theorem mo_len {Lx : Nat} {st : List Value} {w : pW} {k k' : List Value → Prop} (hk : ∀ r, k r → k' r) (h : rx_len Lx st w k) : rx_len Lx st w k' := by
  unfold rx_len at h ⊢
  split at h
  · exact hk _ h
  · split at h
    · exact ⟨h.1, hk _ h.2⟩
    · exact h.elim
  · exact h.elim
theorem mo_tsw {lo hi : Int} {info : List Nat} {st : List Value} {k k' : Nat → List Value → Prop} (hk : ∀ j r, k j r → k' j r) (h : rx_tsw lo hi info st k) : rx_tsw lo hi info st k' := by
  unfold rx_tsw at h ⊢
  split at h
  · exact ⟨fun z => hk _ _ (h.1 z), fun z y => hk _ _ (h.2 z y)⟩
  · exact h.elim
def rx_mo (call : rC) : Prop := ∀ (M : Nat) (a : List Value) (w : pW) (Q Q' : rQ), (∀ v w', Q v w' → Q' v w') → call M a w Q → call M a w Q'
theorem mo_call {call : rC} (hc : rx_mo call) {info : List Nat} {lim : Nat × Nat} {st : List Value} {w : pW} {c s : Nat} {k k' : List Value → pW → Nat → Nat → Prop} (hk : ∀ r w c s, k r w c s → k' r w c s) (h : rx_call call info lim st w c s k) : rx_call call info lim st w c s k' := by
  unfold rx_call at h ⊢
  dsimp only at h ⊢
  split at h
  · split at h
    · exact ⟨h.1, hc _ _ _ _ _ (fun v w' z => hk _ _ _ _ z) h.2⟩
    · exact h.elim
  · exact ⟨h.1, hc _ _ _ _ _ (fun v w' z => hk _ _ _ _ z) h.2⟩
  · exact ⟨h.1, hc _ _ _ _ _ (fun v w' z => hk _ _ _ _ z) h.2⟩
  · split at h
    · exact ⟨h.1, hc _ _ _ _ _ (fun v w' z => hk _ _ _ _ z) h.2⟩
    · exact h.elim
  · split at h
    · exact ⟨h.1, hk _ _ _ _ h.2⟩
    · exact h.elim
  · split at h
    · exact ⟨h.1, hk _ _ _ _ h.2⟩
    · exact h.elim
  · split at h
    · exact ⟨h.1, hk _ _ _ _ h.2⟩
    · exact h.elim
  · split at h
    · split at h
      · exact ⟨h.1, hk _ _ _ _ h.2⟩
      · exact h.elim
    · exact h.elim
  · exact h.elim
set_option maxHeartbeats 4000000 in
theorem mo_st {call : rC} (hc : rx_mo call) {Lx : Nat} {xs : Nat → Int32} {t : List (List rI)} {ret : Option FieldType} {lim : Nat × Nat} {Q Q' : rQ} {K K' : rK} (hQ : ∀ v w, Q v w → Q' v w) (hK : ∀ i L st w c s, K i L st w c s → K' i L st w c s) {i : Nat} {L : List (Option Value)} {st : List Value} {w : pW} {c s : Nat}
    (h : rx_st call Lx xs t ret lim Q K i L st w c s) : rx_st call Lx xs t ret lim Q' K' i L st w c s := by
  unfold rx_st at h ⊢
  generalize rx_e t i = e at h ⊢
  obtain ⟨pc, ins, ln, info, v⟩ := e
  cases ins with
  | iconst n => exact hK _ _ _ _ _ _ h
  | bipush n => exact hK _ _ _ _ _ _ h
  | sipush n => exact hK _ _ _ _ _ _ h
  | ldc n => exact hK _ _ _ _ _ _ h
  | ldc2_w n => exact hK _ _ _ _ _ _ h
  | goto n => exact hK _ _ _ _ _ _ h
  | iload n => exact mo_ldi (k := fun x => K (i + 1) L (x :: st) w c s) (fun r z => hK _ _ _ _ _ _ z) h
  | iload_n n => exact mo_ldi (k := fun x => K (i + 1) L (x :: st) w c s) (fun r z => hK _ _ _ _ _ _ z) h
  | lload_n n => exact mo_ldl (k := fun x => K (i + 1) L (x :: st) w c s) (fun r z => hK _ _ _ _ _ _ z) h
  | aload n => exact mo_lda (k := fun x => K (i + 1) L (x :: st) w c s) (fun r z => hK _ _ _ _ _ _ z) h
  | aload_n n => exact mo_lda (k := fun x => K (i + 1) L (x :: st) w c s) (fun r z => hK _ _ _ _ _ _ z) h
  | istore n => exact mo_sti (k := fun L' r => K (i + 1) L' r w c s) (fun l r z => hK _ _ _ _ _ _ z) h
  | istore_n n => exact mo_sti (k := fun L' r => K (i + 1) L' r w c s) (fun l r z => hK _ _ _ _ _ _ z) h
  | astore_n n => exact mo_sta (k := fun L' r => K (i + 1) L' r w c s) (fun l r z => hK _ _ _ _ _ _ z) h
  | iinc n m => exact mo_inc (k := fun L' => K (i + 1) L' st w c s) (fun l z => hK _ _ _ _ _ _ z) h
  | iadd => exact mo_ii (k := fun r => K (i + 1) L r w c s) (fun r z => hK _ _ _ _ _ _ z) h
  | isub => exact mo_ii (k := fun r => K (i + 1) L r w c s) (fun r z => hK _ _ _ _ _ _ z) h
  | imul => exact mo_ii (k := fun r => K (i + 1) L r w c s) (fun r z => hK _ _ _ _ _ _ z) h
  | iand => exact mo_ii (k := fun r => K (i + 1) L r w c s) (fun r z => hK _ _ _ _ _ _ z) h
  | ior => exact mo_ii (k := fun r => K (i + 1) L r w c s) (fun r z => hK _ _ _ _ _ _ z) h
  | ishl => exact mo_ii (k := fun r => K (i + 1) L r w c s) (fun r z => hK _ _ _ _ _ _ z) h
  | ishr => exact mo_ii (k := fun r => K (i + 1) L r w c s) (fun r z => hK _ _ _ _ _ _ z) h
  | iushr => exact mo_ii (k := fun r => K (i + 1) L r w c s) (fun r z => hK _ _ _ _ _ _ z) h
  | idiv => exact mo_di (k := fun r => K (i + 1) L r w c s) (fun r z => hK _ _ _ _ _ _ z) h
  | irem => exact mo_di (k := fun r => K (i + 1) L r w c s) (fun r z => hK _ _ _ _ _ _ z) h
  | i2b => exact mo_i (k := fun r => K (i + 1) L r w c s) (fun r z => hK _ _ _ _ _ _ z) h
  | ladd => exact mo_ll (k := fun r => K (i + 1) L r w c s) (fun r z => hK _ _ _ _ _ _ z) h
  | lsub => exact mo_ll (k := fun r => K (i + 1) L r w c s) (fun r z => hK _ _ _ _ _ _ z) h
  | land => exact mo_ll (k := fun r => K (i + 1) L r w c s) (fun r z => hK _ _ _ _ _ _ z) h
  | lor => exact mo_ll (k := fun r => K (i + 1) L r w c s) (fun r z => hK _ _ _ _ _ _ z) h
  | lshl => exact mo_li (k := fun r => K (i + 1) L r w c s) (fun r z => hK _ _ _ _ _ _ z) h
  | lshr => exact mo_li (k := fun r => K (i + 1) L r w c s) (fun r z => hK _ _ _ _ _ _ z) h
  | lushr => exact mo_li (k := fun r => K (i + 1) L r w c s) (fun r z => hK _ _ _ _ _ _ z) h
  | i2l =>
    dsimp only at h ⊢
    split at h
    · exact hK _ _ _ _ _ _ h
    · exact h.elim
  | l2i =>
    dsimp only at h ⊢
    split at h
    · exact hK _ _ _ _ _ _ h
    · exact h.elim
  | lcmp =>
    dsimp only at h ⊢
    split at h
    · exact hK _ _ _ _ _ _ h
    · exact h.elim
  | dup =>
    dsimp only at h ⊢
    split at h
    · exact ⟨h.1, hK _ _ _ _ _ _ h.2⟩
    · exact h.elim
  | pop =>
    dsimp only at h ⊢
    split at h
    · exact ⟨h.1, hK _ _ _ _ _ _ h.2⟩
    · exact h.elim
  | newarray n =>
    dsimp only at h ⊢
    split at h
    · exact ⟨h.1, hK _ _ _ _ _ _ h.2⟩
    · exact h.elim
  | multianewarray n m =>
    dsimp only at h ⊢
    split at h
    · exact ⟨h.1, hK _ _ _ _ _ _ h.2⟩
    · exact h.elim
  | ifCond o n =>
    dsimp only at h ⊢
    split at h
    · exact mo_cmp (hK _ _ _ _ _ _) (hK _ _ _ _ _ _) h
    · exact h.elim
  | if_icmp o n =>
    dsimp only at h ⊢
    split at h
    · exact mo_cmp (hK _ _ _ _ _ _) (hK _ _ _ _ _ _) h
    · exact h.elim
  | tableswitch d lo hi n => exact mo_tsw (k := fun j r => K j L r w c s) (fun j r z => hK _ _ _ _ _ _ z) h
  | getfield n =>
    dsimp only at h ⊢
    split at h
    · split at h
      · exact hK _ _ _ _ _ _ h
      · exact h.elim
    · exact h.elim
  | putfield n =>
    dsimp only at h ⊢
    split at h
    · split at h
      · exact ⟨h.1, hK _ _ _ _ _ _ h.2⟩
      · exact h.elim
    · exact h.elim
  | iaload => exact mo_ald (k := fun r => K (i + 1) L r w c s) (fun r z => hK _ _ _ _ _ _ z) h
  | baload => exact mo_ald (k := fun r => K (i + 1) L r w c s) (fun r z => hK _ _ _ _ _ _ z) h
  | aaload => exact mo_aald (k := fun r => K (i + 1) L r w c s) (fun r z => hK _ _ _ _ _ _ z) h
  | iastore => exact mo_ast (k := fun r w' => K (i + 1) L r w' c s) (fun r w z => hK _ _ _ _ _ _ z) h
  | bastore => exact mo_ast (k := fun r w' => K (i + 1) L r w' c s) (fun r w z => hK _ _ _ _ _ _ z) h
  | arraylength => exact mo_len (k := fun r => K (i + 1) L r w c s) (fun r z => hK _ _ _ _ _ _ z) h
  | new n => exact ⟨h.1, hK _ _ _ _ _ _ h.2⟩
  | invokevirtual n => exact ⟨h.1, mo_call hc (k := fun r w' c' s' => K (i + 1) L r w' c' s') (fun r w c s z => hK _ _ _ _ _ _ z) h.2⟩
  | invokestatic n => exact ⟨h.1, mo_call hc (k := fun r w' c' s' => K (i + 1) L r w' c' s') (fun r w c s z => hK _ _ _ _ _ _ z) h.2⟩
  | invokespecial n => exact ⟨h.1, mo_call hc (k := fun r w' c' s' => K (i + 1) L r w' c' s') (fun r w c s z => hK _ _ _ _ _ _ z) h.2⟩
  | ireturn =>
    dsimp only at h ⊢
    split at h
    · exact ⟨h.1, hQ _ _ h.2⟩
    · exact h.elim
  | return_ =>
    dsimp only at h ⊢
    split at h
    · exact ⟨h.1, hQ _ _ h.2⟩
    · exact h.elim
  | _ => exact h.elim
/-- a run: the least that holds wherever it holds behind the next instruction -/
def rx_P (call : rC) (Lx : Nat) (xs : Nat → Int32) (t : List (List rI)) (ret : Option FieldType) (lim : Nat × Nat) (Q : rQ) (i : Nat) (L : List (Option Value)) (st : List Value) (w : pW) (c s : Nat) : Prop :=
  ∀ K : rK, (∀ i L st w c s, rx_st call Lx xs t ret lim Q K i L st w c s → K i L st w c s) → K i L st w c s
theorem px_st {call : rC} (hc : rx_mo call) {Lx : Nat} {xs : Nat → Int32} {t : List (List rI)} {ret : Option FieldType} {lim : Nat × Nat} {Q : rQ} {i : Nat} {L : List (Option Value)} {st : List Value} {w : pW} {c s : Nat}
    (h : rx_st call Lx xs t ret lim Q (rx_P call Lx xs t ret lim Q) i L st w c s) : rx_P call Lx xs t ret lim Q i L st w c s := by
  intro K hK
  exact hK _ _ _ _ _ _ (mo_st hc (fun _ _ z => z) (fun i L st w c s z => z K hK) h)
theorem px_mo {call : rC} (hc : rx_mo call) {Lx : Nat} {xs : Nat → Int32} {t : List (List rI)} {ret : Option FieldType} {lim : Nat × Nat} {Q Q' : rQ} (hQ : ∀ v w, Q v w → Q' v w) {i : Nat} {L : List (Option Value)} {st : List Value} {w : pW} {c s : Nat}
    (h : rx_P call Lx xs t ret lim Q i L st w c s) : rx_P call Lx xs t ret lim Q' i L st w c s :=
  h (rx_P call Lx xs t ret lim Q') (fun _ _ _ _ _ _ z => px_st hc (mo_st hc hQ (fun _ _ _ _ _ _ z => z) z))
/-- the locals with which a method begins: a wide argument takes two places -/
def rx_en : List Value → List (Option Value)
  | [] => []
  | v :: l => if v.category = 2 then some v :: none :: rx_en l else some v :: rx_en l
def rx_l0 (args : List Value) (n : Nat) : List (Option Value) := rx_en args ++ List.replicate (n - (rx_en args).length) none
/-- a call of method M, at most d calls deep -/
def rx_R (Lx : Nat) (xs : Nat → Int32) : Nat → rC
  | 0 => fun _ _ _ _ => False
  | d + 1 => fun M args w Q => (rx_en args).length ≤ mL M ∧ rx_P (rx_R Lx xs d) Lx xs (rx_tt.getD M []) (mR M) (mA M) Q 0 (rx_l0 args (mL M)) [] w 0 0
theorem mo_R (Lx : Nat) (xs : Nat → Int32) : ∀ d, rx_mo (rx_R Lx xs d)
  | 0 => fun _ _ _ _ _ _ h => h.elim
  | d + 1 => fun _ _ _ _ _ hQ h => ⟨h.1, px_mo (mo_R Lx xs d) hQ h.2⟩
end
section
/-! PART 05: the tables hold what the class files say: what is checked -/
def rx_wall : List Cond := lw_tbl.filter goodWord
def rx_ws (M : Nat) : List Cond := Cond.code (mN M) (mC M) (mL M) (mR M) :: rx_wall
def rx_wd : Cond := .count 0
def rx_wg (k : Nat) : Cond := (rx_wt.getD (k / 32) []).getD (k % 32) rx_wd
abbrev wk_w (k : Nat) (w : Cond) : Prop := rx_wg k = w ∧ goodWord w = true
abbrev rx_cd (ci : Nat) : vw_C := rx_cl.getD ci ("", fun _ => ("", "", "", false), 0)
/-- the words of an instruction -/
def wk_i (own nm : String) (e : rI) : Prop := match e with
  | (_, ins, _, info, v) => match ins with
    | .ldc n => wk_w (rx_at info 0) (.constant own n v)
    | .ldc2_w n => wk_w (rx_at info 1) (.constantLong own n (Int64.ofNat (rx_at info 0)))
    | .getfield n => wk_w (rx_at info 2) (.fieldLink own n ((rx_cd (rx_at info 0)).2.1 (rx_at info 1)).1 ((rx_cd (rx_at info 0)).2.1 (rx_at info 1)).2.1 ((rx_cd (rx_at info 0)).2.1 (rx_at info 1)).2.2.1)
    | .putfield n => wk_w (rx_at info 2) (.fieldLink own n ((rx_cd (rx_at info 0)).2.1 (rx_at info 1)).1 ((rx_cd (rx_at info 0)).2.1 (rx_at info 1)).2.1 ((rx_cd (rx_at info 0)).2.1 (rx_at info 1)).2.2.1) ∧ (((rx_cd (rx_at info 0)).2.1 (rx_at info 1)).2.2.2 = false ∨ (nm = "<init>" ∧ ((rx_cd (rx_at info 0)).2.1 (rx_at info 1)).1 = own ∧ ((rx_cd (rx_at info 0)).2.1 (rx_at info 1)).2.2.2 = true))
    | .new n => wk_w (rx_at info 1) (.classLink own n (rx_cd (rx_at info 0)).1) ∧ wk_w (rx_at info 2) (.instantiable (rx_cd (rx_at info 0)).1 (rx_cd (rx_at info 0)).2.2) ∧ wk_w (rx_at info 3) (.initialized (rx_cd (rx_at info 0)).1)
    | .multianewarray n _ => wk_w (rx_at info 0) (.classLink own n "[[B")
    | .invokevirtual n => wk_w (rx_at info 3) (.methodLink own n (mN (rx_at info 0)))
    | .invokespecial n => match rx_at info 2 with
      | 12 => wk_w (rx_at info 3) (.methodLink own n objectInit)
      | _ => wk_w (rx_at info 3) (.methodLink own n (mN (rx_at info 0)))
    | .invokestatic n => match rx_at info 2 with
      | 1 => wk_w (rx_at info 3) (.methodLink own n (mN (rx_at info 0)))
      | 2 => rx_wg (rx_at info 3) = .methodLinkNest own n (mN (rx_at info 0)) "TrailStore"
      | 10 => wk_w (rx_at info 3) (.methodLink own n Lib.Math.max.name)
      | 11 => wk_w (rx_at info 3) (.methodLink own n Lib.Math.min.name)
      | 13 => wk_w (rx_at info 3) (.methodLink own n arraycopyName)
      | _ => True
    | _ => True
def wk_l (own nm : String) : List rI → Prop
  | [] => True
  | e :: l => wk_i own nm e ∧ wk_l own nm l
theorem wk_mem {own nm : String} : ∀ {l : List rI}, wk_l own nm l → ∀ e ∈ l, wk_i own nm e
  | [], _, _, h => absurd h List.not_mem_nil
  | _ :: _, h, e, he => (List.mem_cons.mp he).elim (fun q => q ▸ h.1) (fun q => wk_mem h.2 e q)
theorem wk_at {own nm : String} {t : List (List rI)} (h : ∀ l ∈ t, wk_l own nm l) (i : Nat) : wk_i own nm (rx_e t i) := by
  have h0 : wk_i own nm rx_d := trivial
  unfold rx_e
  rw [List.getD_eq_getElem?_getD (l := t)]
  cases h1 : t[i / 16]? with
  | none => exact h0
  | some l =>
    show wk_i own nm (l.getD (i % 16) rx_d)
    rw [List.getD_eq_getElem?_getD]
    cases h2 : l[i % 16]? with
    | none => exact h0
    | some e => exact wk_mem (h l (List.mem_of_getElem? h1)) e (List.mem_of_getElem? h2)
/-- the words of a callee: its kind 0 on an object, 1 static, 3 a constructor -/
def mk_m (M : Nat) : Prop := wk_w (rx_at (mW M) 2) (.code (mN M) (mC M) (mL M) (mR M)) ∧ wk_w (rx_at (mW M) 3) (.initialized (mN M).cls) ∧
  ((mN M).cls ≠ "java/lang/invoke/MethodHandle" ∧ (mN M).cls ≠ "java/lang/invoke/VarHandle" ∧ (parseMethodDescriptor (mN M).desc).map (fun d => d.parameters.length) = some (rx_at (mW M) 5) ∧ mL M ≤ 21 ∧ plainName (mN M).cls = true) ∧
  (match rx_at (mW M) 4 with
  | 0 => wk_w (rx_at (mW M) 0) (.instanceMethod (mN M)) ∧ wk_w (rx_at (mW M) 1) (.selects (mN M).cls (mN M) (mN M))
  | 1 => wk_w (rx_at (mW M) 0) (.static (mN M))
  | _ => wk_w (rx_at (mW M) 0) (.instanceMethod (mN M)) ∧ (mN M).name = "<init>" ∧ mR M = none)
/-- the instruction behind stands behind -/
def ck_nx (t : List (List rI)) (i ln : Nat) : Bool := decide ((rx_e t (i + 1)).1 = (rx_e t i).1 + ln)
def ck_to (t : List (List rI)) (i j : Nat) (off : Int) : Bool := decide (((rx_e t i).1 : Int) + off = ((rx_e t j).1 : Int))
/-- of a call: the callee is of that kind and takes so many -/
def ck_k (kind M n : Nat) : Bool := decide (M < 149) && decide (rx_at (mW M) 4 = kind) && decide (rx_at (mW M) 5 = n)
def dk_i (cc : ByteArray) (t : List (List rI)) (i : Nat) : Bool :=
  match rx_e t i with
  | (pc, ins, ln, info, v) => match ins with
    | .nop => true
    | .iconst n => decide (decode cc pc = .ok (.iconst n, 1)) && ck_nx t i 1 && decide (Int32.ofInt n = v)
    | .bipush n => decide (decode cc pc = .ok (.bipush n, 2)) && ck_nx t i 2 && decide ((Int8.ofInt n).toInt32 = v)
    | .sipush n => decide (decode cc pc = .ok (.sipush n, 3)) && ck_nx t i 3 && decide ((Int16.ofInt n).toInt32 = v)
    | .ldc n => decide (decode cc pc = .ok (.ldc n, 2)) && ck_nx t i 2
    | .ldc2_w n => decide (decode cc pc = .ok (.ldc2_w n, 3)) && ck_nx t i 3
    | .iload j => decide (decode cc pc = .ok (.iload j, 2)) && ck_nx t i 2
    | .aload j => decide (decode cc pc = .ok (.aload j, 2)) && ck_nx t i 2
    | .istore j => decide (decode cc pc = .ok (.istore j, 2)) && ck_nx t i 2
    | .iinc j n => decide (decode cc pc = .ok (.iinc j n, 3)) && ck_nx t i 3 && decide (Int32.ofInt n = v)
    | .goto off => decide (decode cc pc = .ok (.goto off, 3)) && ck_to t i (rx_at info 0) off
    | .ifCond o off => decide (decode cc pc = .ok (.ifCond o off, 3)) && ck_nx t i 3 && ck_to t i (rx_at info 0) off
    | .if_icmp o off => decide (decode cc pc = .ok (.if_icmp o off, 3)) && ck_nx t i 3 && ck_to t i (rx_at info 0) off
    | .tableswitch d lo hi offs => decide (decode cc pc = .ok (.tableswitch d lo hi offs, ln)) && ck_to t i (rx_at info 0) d && decide (offs.size = (hi - lo + 1).toNat) && (List.range offs.size).all (fun k => ck_to t i (rx_at info (k + 1)) (offs.getD k 0))
    | .getfield n => decide (decode cc pc = .ok (.getfield n, 3)) && ck_nx t i 3 && decide (rx_at info 0 < 8) && decide (rx_at info 1 < (rx_cd (rx_at info 0)).2.2)
    | .putfield n => decide (decode cc pc = .ok (.putfield n, 3)) && ck_nx t i 3 && decide (rx_at info 0 < 8) && decide (rx_at info 1 < (rx_cd (rx_at info 0)).2.2)
    | .new n => decide (decode cc pc = .ok (.new n, 3)) && ck_nx t i 3 && decide (rx_at info 0 < 8)
    | .newarray a => decide (decode cc pc = .ok (.newarray a, 2)) && ck_nx t i 2 && decide (rx_at info 0 < 3) && decide (newarray.typeOf a = rx_tg (rx_at info 0))
    | .multianewarray n k => decide (decode cc pc = .ok (.multianewarray n 2, 4)) && decide (k = 2) && ck_nx t i 4
    | .invokevirtual n => decide (decode cc pc = .ok (.invokevirtual n, 3)) && ck_nx t i 3 && ck_k 0 (rx_at info 0) (rx_at info 1)
    | .invokespecial n => decide (decode cc pc = .ok (.invokespecial n, 3)) && ck_nx t i 3 && (match rx_at info 2 with
      | 12 => true
      | _ => ck_k 3 (rx_at info 0) (rx_at info 1))
    | .invokestatic n => decide (decode cc pc = .ok (.invokestatic n, 3)) && ck_nx t i 3 && (match rx_at info 2 with
      | 1 => ck_k 1 (rx_at info 0) (rx_at info 1)
      | 2 => ck_k 1 (rx_at info 0) (rx_at info 1)
      | _ => true)
    | .ireturn => decide (decode cc pc = .ok (.ireturn, 1))
    | .return_ => decide (decode cc pc = .ok (.return_, 1))
    | ins => decide (decode cc pc = .ok (ins, 1)) && ck_nx t i 1
theorem dk_all {cc : ByteArray} {t : List (List rI)} {n : Nat} (hn : 16 * t.length ≤ n) (h : ∀ i, i < n → dk_i cc t i = true) (i : Nat) : dk_i cc t i = true := by
  by_cases hi : i < n
  · exact h i hi
  · have h1 : rx_e t i = rx_d := by
      unfold rx_e
      have h2 : t.getD (i / 16) [] = [] := by
        rw [List.getD_eq_getElem?_getD, List.getElem?_eq_none (by omega)]
        rfl
      rw [h2]
      rfl
    unfold dk_i
    rw [h1]
    rfl
end
section
/-! PART 06: the check, method by method -/
set_option maxRecDepth 100000 in
theorem cw_0 : rw_0 = (lw_tbl.drop 0).take 32 := rfl
set_option maxRecDepth 100000 in
theorem cw_1 : rw_1 = (lw_tbl.drop 32).take 32 := rfl
set_option maxRecDepth 100000 in
theorem cw_2 : rw_2 = (lw_tbl.drop 64).take 32 := rfl
set_option maxRecDepth 100000 in
theorem cw_3 : rw_3 = (lw_tbl.drop 96).take 32 := rfl
set_option maxRecDepth 100000 in
theorem cw_4 : rw_4 = (lw_tbl.drop 128).take 32 := rfl
set_option maxRecDepth 100000 in
theorem cw_5 : rw_5 = (lw_tbl.drop 160).take 32 := rfl
set_option maxRecDepth 100000 in
theorem cw_6 : rw_6 = (lw_tbl.drop 192).take 32 := rfl
set_option maxRecDepth 100000 in
theorem cw_7 : rw_7 = (lw_tbl.drop 224).take 32 := rfl
set_option maxRecDepth 100000 in
theorem cw_8 : rw_8 = (lw_tbl.drop 256).take 32 := rfl
set_option maxRecDepth 100000 in
theorem cw_9 : rw_9 = (lw_tbl.drop 288).take 32 := rfl
set_option maxRecDepth 100000 in
theorem cw_10 : rw_10 = (lw_tbl.drop 320).take 32 := rfl
set_option maxRecDepth 100000 in
theorem cw_11 : rw_11 = (lw_tbl.drop 352).take 32 := rfl
set_option maxRecDepth 100000 in
theorem cw_12 : rw_12 = (lw_tbl.drop 384).take 32 := rfl
set_option maxRecDepth 100000 in
theorem cw_13 : rw_13 = (lw_tbl.drop 416).take 32 := rfl
set_option maxRecDepth 100000 in
theorem cw_14 : rw_14 = (lw_tbl.drop 448).take 32 := rfl
set_option maxRecDepth 100000 in
theorem cw_15 : rw_15 = (lw_tbl.drop 480).take 32 := rfl
set_option maxRecDepth 100000 in
theorem cw_16 : rw_16 = (lw_tbl.drop 512).take 32 := rfl
set_option maxRecDepth 100000 in
theorem cw_17 : rw_17 = (lw_tbl.drop 544).take 32 := rfl
set_option maxRecDepth 100000 in
theorem cw_18 : rw_18 = (lw_tbl.drop 576).take 32 := rfl
set_option maxRecDepth 100000 in
theorem cw_19 : rw_19 = (lw_tbl.drop 608).take 32 := rfl
set_option maxRecDepth 100000 in
theorem cw_20 : rw_20 = (lw_tbl.drop 640).take 32 := rfl
set_option maxRecDepth 100000 in
theorem cw_21 : rw_21 = (lw_tbl.drop 672).take 32 := rfl
set_option maxRecDepth 100000 in
theorem cw_22 : rw_22 = (lw_tbl.drop 704).take 32 := rfl
set_option maxRecDepth 100000 in
theorem cw_23 : rw_23 = (lw_tbl.drop 736).take 32 := rfl
set_option maxRecDepth 100000 in
theorem cw_24 : rw_24 = (lw_tbl.drop 768).take 32 := rfl
set_option maxRecDepth 100000 in
theorem cw_25 : rw_25 = (lw_tbl.drop 800).take 32 := rfl
set_option maxRecDepth 100000 in
theorem cw_26 : rw_26 = (lw_tbl.drop 832).take 32 := rfl
set_option maxRecDepth 100000 in
theorem cw_27 : rw_27 = (lw_tbl.drop 864).take 32 := rfl
set_option maxRecDepth 100000 in
theorem cw_28 : rw_28 = (lw_tbl.drop 896).take 32 := rfl
set_option maxRecDepth 100000 in
theorem cw_29 : rw_29 = (lw_tbl.drop 928).take 32 := rfl
set_option maxRecDepth 100000 in
theorem cw_30 : rw_30 = (lw_tbl.drop 960).take 32 := rfl
set_option maxRecDepth 100000 in
theorem cw_31 : rw_31 = (lw_tbl.drop 992).take 32 := rfl
set_option maxRecDepth 100000 in
theorem cw_32 : rw_32 = (lw_tbl.drop 1024).take 32 := rfl
set_option maxRecDepth 100000 in
theorem cw_33 : rw_33 = (lw_tbl.drop 1056).take 32 := rfl
set_option maxRecDepth 100000 in
theorem cw_34 : rw_34 = (lw_tbl.drop 1088).take 32 := rfl
set_option maxRecDepth 100000 in
theorem cw_35 : rw_35 = (lw_tbl.drop 1120).take 32 := rfl
theorem cw_in : ∀ l ∈ rx_wt, ∀ w ∈ l, w ∈ lw_tbl := by
  intro l hl
  have key : ∀ n, ∀ w ∈ (lw_tbl.drop n).take 32, w ∈ lw_tbl := fun n w hw => List.mem_of_mem_drop (List.mem_of_mem_take hw)
  simp only [rx_wt, List.mem_cons, List.not_mem_nil, or_false] at hl
  rcases hl with rfl | rfl | rfl | rfl | rfl | rfl | rfl | rfl | rfl | rfl | rfl | rfl | rfl | rfl | rfl | rfl | rfl | rfl | rfl | rfl | rfl | rfl | rfl | rfl | rfl | rfl | rfl | rfl | rfl | rfl | rfl | rfl | rfl | rfl | rfl | rfl
  · rw [cw_0]; exact key _
  · rw [cw_1]; exact key _
  · rw [cw_2]; exact key _
  · rw [cw_3]; exact key _
  · rw [cw_4]; exact key _
  · rw [cw_5]; exact key _
  · rw [cw_6]; exact key _
  · rw [cw_7]; exact key _
  · rw [cw_8]; exact key _
  · rw [cw_9]; exact key _
  · rw [cw_10]; exact key _
  · rw [cw_11]; exact key _
  · rw [cw_12]; exact key _
  · rw [cw_13]; exact key _
  · rw [cw_14]; exact key _
  · rw [cw_15]; exact key _
  · rw [cw_16]; exact key _
  · rw [cw_17]; exact key _
  · rw [cw_18]; exact key _
  · rw [cw_19]; exact key _
  · rw [cw_20]; exact key _
  · rw [cw_21]; exact key _
  · rw [cw_22]; exact key _
  · rw [cw_23]; exact key _
  · rw [cw_24]; exact key _
  · rw [cw_25]; exact key _
  · rw [cw_26]; exact key _
  · rw [cw_27]; exact key _
  · rw [cw_28]; exact key _
  · rw [cw_29]; exact key _
  · rw [cw_30]; exact key _
  · rw [cw_31]; exact key _
  · rw [cw_32]; exact key _
  · rw [cw_33]; exact key _
  · rw [cw_34]; exact key _
  · rw [cw_35]; exact key _
theorem wk_0_0 : wk_l "TrailStore$Batch" "<init>" rt_0_0 := ⟨trivial, ⟨rfl, rfl⟩, trivial, trivial, trivial, ⟨⟨rfl, rfl⟩, Or.inr ⟨rfl, rfl, rfl⟩⟩, trivial, trivial, trivial, ⟨⟨rfl, rfl⟩, Or.inr ⟨rfl, rfl, rfl⟩⟩, trivial, trivial, trivial, ⟨⟨rfl, rfl⟩, Or.inr ⟨rfl, rfl, rfl⟩⟩, trivial, trivial, trivial⟩
theorem wk_0_1 : wk_l "TrailStore$Batch" "<init>" rt_0_1 := ⟨trivial, ⟨rfl, rfl⟩, ⟨⟨rfl, rfl⟩, Or.inr ⟨rfl, rfl, rfl⟩⟩, trivial, trivial⟩
theorem wk_0 : ∀ l ∈ rt_0, wk_l "TrailStore$Batch" "<init>" l := by
  intro l hl
  simp only [rt_0, List.mem_cons, List.not_mem_nil, or_false] at hl
  rcases hl with rfl | rfl
  · exact wk_0_0
  · exact wk_0_1
theorem dk_0_0 : (List.range 32).all (fun i => dk_i prog_2_method_1_code rt_0 (0 + i)) = true := by decide +kernel
theorem dk_0 : ∀ i, i < 32 → dk_i prog_2_method_1_code rt_0 i = true := by
  intro i hi
  by_cases h0 : i < 32
  · have := List.all_eq_true.mp dk_0_0 (i - 0) (List.mem_range.mpr (by omega))
    rwa [show 0 + (i - 0) = i by omega] at this
  exact absurd hi (by omega)
theorem mk_0 : mk_m 0 := ⟨⟨rfl, rfl⟩, ⟨rfl, rfl⟩, by decide +kernel, ⟨⟨rfl, rfl⟩, rfl, rfl⟩⟩
theorem wk_1_0 : wk_l "TrailStore$Batch" "add" rt_1_0 := ⟨trivial, ⟨rfl, rfl⟩, trivial, trivial, trivial, trivial, trivial, trivial, trivial, trivial, trivial, trivial, trivial, ⟨rfl, rfl⟩, trivial, ⟨rfl, rfl⟩, trivial⟩
theorem wk_1_1 : wk_l "TrailStore$Batch" "add" rt_1_1 := ⟨trivial, trivial, trivial, ⟨rfl, rfl⟩, trivial, ⟨rfl, rfl⟩, trivial, trivial, trivial, ⟨rfl, rfl⟩, trivial, ⟨rfl, rfl⟩, trivial, trivial, trivial, trivial, trivial⟩
theorem wk_1_2 : wk_l "TrailStore$Batch" "add" rt_1_2 := ⟨trivial, trivial, trivial, trivial, ⟨rfl, rfl⟩, trivial, ⟨rfl, rfl⟩, trivial, trivial, trivial, trivial, trivial, trivial, trivial, trivial, trivial, trivial⟩
theorem wk_1_3 : wk_l "TrailStore$Batch" "add" rt_1_3 := ⟨trivial, ⟨rfl, rfl⟩, trivial, trivial, ⟨⟨rfl, rfl⟩, Or.inl rfl⟩, trivial, trivial⟩
theorem wk_1 : ∀ l ∈ rt_1, wk_l "TrailStore$Batch" "add" l := by
  intro l hl
  simp only [rt_1, List.mem_cons, List.not_mem_nil, or_false] at hl
  rcases hl with rfl | rfl | rfl | rfl
  · exact wk_1_0
  · exact wk_1_1
  · exact wk_1_2
  · exact wk_1_3
theorem dk_1_0 : (List.range 48).all (fun i => dk_i prog_2_method_2_code rt_1 (0 + i)) = true := by decide +kernel
theorem dk_1_1 : (List.range 16).all (fun i => dk_i prog_2_method_2_code rt_1 (48 + i)) = true := by decide +kernel
theorem dk_1 : ∀ i, i < 64 → dk_i prog_2_method_2_code rt_1 i = true := by
  intro i hi
  by_cases h0 : i < 48
  · have := List.all_eq_true.mp dk_1_0 (i - 0) (List.mem_range.mpr (by omega))
    rwa [show 0 + (i - 0) = i by omega] at this
  by_cases h1 : i < 64
  · have := List.all_eq_true.mp dk_1_1 (i - 48) (List.mem_range.mpr (by omega))
    rwa [show 48 + (i - 48) = i by omega] at this
  exact absurd hi (by omega)
theorem mk_1 : mk_m 1 := ⟨⟨rfl, rfl⟩, ⟨rfl, rfl⟩, by decide +kernel, ⟨⟨rfl, rfl⟩, ⟨rfl, rfl⟩⟩⟩
theorem wk_2_0 : wk_l "TrailStore$Batch" "isFirstOfKey" rt_2_0 := ⟨trivial, trivial, trivial, trivial, trivial, trivial, ⟨rfl, rfl⟩, trivial, trivial, trivial, ⟨rfl, rfl⟩, trivial, trivial, trivial, trivial, trivial, trivial⟩
theorem wk_2_1 : wk_l "TrailStore$Batch" "isFirstOfKey" rt_2_1 := ⟨trivial, trivial, trivial, trivial, trivial⟩
theorem wk_2 : ∀ l ∈ rt_2, wk_l "TrailStore$Batch" "isFirstOfKey" l := by
  intro l hl
  simp only [rt_2, List.mem_cons, List.not_mem_nil, or_false] at hl
  rcases hl with rfl | rfl
  · exact wk_2_0
  · exact wk_2_1
theorem dk_2_0 : (List.range 32).all (fun i => dk_i prog_2_method_3_code rt_2 (0 + i)) = true := by decide +kernel
theorem dk_2 : ∀ i, i < 32 → dk_i prog_2_method_3_code rt_2 i = true := by
  intro i hi
  by_cases h0 : i < 32
  · have := List.all_eq_true.mp dk_2_0 (i - 0) (List.mem_range.mpr (by omega))
    rwa [show 0 + (i - 0) = i by omega] at this
  exact absurd hi (by omega)
theorem mk_2 : mk_m 2 := ⟨⟨rfl, rfl⟩, ⟨rfl, rfl⟩, by decide +kernel, ⟨⟨rfl, rfl⟩, ⟨rfl, rfl⟩⟩⟩
theorem wk_3_0 : wk_l "TrailStore$Batch" "size" rt_3_0 := ⟨trivial, trivial, trivial, trivial, trivial, trivial, ⟨rfl, rfl⟩, trivial, trivial, trivial, trivial, ⟨rfl, rfl⟩, trivial, trivial, trivial, trivial, trivial⟩
theorem wk_3_1 : wk_l "TrailStore$Batch" "size" rt_3_1 := ⟨trivial, trivial, trivial, trivial, trivial, trivial⟩
theorem wk_3 : ∀ l ∈ rt_3, wk_l "TrailStore$Batch" "size" l := by
  intro l hl
  simp only [rt_3, List.mem_cons, List.not_mem_nil, or_false] at hl
  rcases hl with rfl | rfl
  · exact wk_3_0
  · exact wk_3_1
theorem dk_3_0 : (List.range 32).all (fun i => dk_i prog_2_method_4_code rt_3 (0 + i)) = true := by decide +kernel
theorem dk_3 : ∀ i, i < 32 → dk_i prog_2_method_4_code rt_3 i = true := by
  intro i hi
  by_cases h0 : i < 32
  · have := List.all_eq_true.mp dk_3_0 (i - 0) (List.mem_range.mpr (by omega))
    rwa [show 0 + (i - 0) = i by omega] at this
  exact absurd hi (by omega)
theorem mk_3 : mk_m 3 := ⟨⟨rfl, rfl⟩, ⟨rfl, rfl⟩, by decide +kernel, ⟨⟨rfl, rfl⟩, ⟨rfl, rfl⟩⟩⟩
theorem wk_4_0 : wk_l "TrailStore$Disk" "<init>" rt_4_0 := ⟨trivial, ⟨rfl, rfl⟩, trivial, trivial, ⟨⟨rfl, rfl⟩, Or.inr ⟨rfl, rfl, rfl⟩⟩, trivial, trivial, trivial, trivial, trivial, trivial, trivial, ⟨⟨rfl, rfl⟩, Or.inr ⟨rfl, rfl, rfl⟩⟩, trivial, trivial, trivial, trivial⟩
theorem wk_4_1 : wk_l "TrailStore$Disk" "<init>" rt_4_1 := ⟨⟨⟨rfl, rfl⟩, Or.inr ⟨rfl, rfl, rfl⟩⟩, trivial, trivial, trivial, ⟨⟨rfl, rfl⟩, Or.inr ⟨rfl, rfl, rfl⟩⟩, trivial, trivial, trivial, ⟨⟨rfl, rfl⟩, Or.inr ⟨rfl, rfl, rfl⟩⟩, trivial, trivial⟩
theorem wk_4 : ∀ l ∈ rt_4, wk_l "TrailStore$Disk" "<init>" l := by
  intro l hl
  simp only [rt_4, List.mem_cons, List.not_mem_nil, or_false] at hl
  rcases hl with rfl | rfl
  · exact wk_4_0
  · exact wk_4_1
theorem dk_4_0 : (List.range 32).all (fun i => dk_i prog_3_method_1_code rt_4 (0 + i)) = true := by decide +kernel
theorem dk_4 : ∀ i, i < 32 → dk_i prog_3_method_1_code rt_4 i = true := by
  intro i hi
  by_cases h0 : i < 32
  · have := List.all_eq_true.mp dk_4_0 (i - 0) (List.mem_range.mpr (by omega))
    rwa [show 0 + (i - 0) = i by omega] at this
  exact absurd hi (by omega)
theorem mk_4 : mk_m 4 := ⟨⟨rfl, rfl⟩, ⟨rfl, rfl⟩, by decide +kernel, ⟨⟨rfl, rfl⟩, rfl, rfl⟩⟩
theorem wk_5_0 : wk_l "TrailStore$Disk" "cellOf" rt_5_0 := ⟨trivial, trivial, trivial, trivial, trivial, trivial, ⟨rfl, rfl⟩, trivial, trivial, trivial, trivial, trivial, trivial, trivial, trivial, trivial, trivial⟩
theorem wk_5_1 : wk_l "TrailStore$Disk" "cellOf" rt_5_1 := ⟨trivial, trivial, trivial, trivial, trivial, ⟨rfl, rfl⟩, trivial, trivial, trivial, trivial, trivial, trivial, trivial, trivial, trivial, trivial, trivial⟩
theorem wk_5_2 : wk_l "TrailStore$Disk" "cellOf" rt_5_2 := ⟨trivial, trivial, ⟨rfl, rfl⟩, trivial, trivial, trivial, trivial, trivial, trivial⟩
theorem wk_5 : ∀ l ∈ rt_5, wk_l "TrailStore$Disk" "cellOf" l := by
  intro l hl
  simp only [rt_5, List.mem_cons, List.not_mem_nil, or_false] at hl
  rcases hl with rfl | rfl | rfl
  · exact wk_5_0
  · exact wk_5_1
  · exact wk_5_2
theorem dk_5_0 : (List.range 48).all (fun i => dk_i prog_3_method_2_code rt_5 (0 + i)) = true := by decide +kernel
theorem dk_5 : ∀ i, i < 48 → dk_i prog_3_method_2_code rt_5 i = true := by
  intro i hi
  by_cases h0 : i < 48
  · have := List.all_eq_true.mp dk_5_0 (i - 0) (List.mem_range.mpr (by omega))
    rwa [show 0 + (i - 0) = i by omega] at this
  exact absurd hi (by omega)
theorem mk_5 : mk_m 5 := ⟨⟨rfl, rfl⟩, ⟨rfl, rfl⟩, by decide +kernel, ⟨⟨rfl, rfl⟩, ⟨rfl, rfl⟩⟩⟩
theorem wk_6_0 : wk_l "TrailStore$Disk" "logCell" rt_6_0 := ⟨trivial, trivial, ⟨rfl, rfl⟩, trivial, trivial, trivial, trivial, trivial, trivial, ⟨rfl, rfl⟩, trivial, trivial, trivial, trivial, trivial⟩
theorem wk_6 : ∀ l ∈ rt_6, wk_l "TrailStore$Disk" "logCell" l := by
  intro l hl
  simp only [rt_6, List.mem_cons, List.not_mem_nil, or_false] at hl
  subst hl
  exact wk_6_0
theorem dk_6_0 : (List.range 16).all (fun i => dk_i prog_3_method_3_code rt_6 (0 + i)) = true := by decide +kernel
theorem dk_6 : ∀ i, i < 16 → dk_i prog_3_method_3_code rt_6 i = true := by
  intro i hi
  by_cases h0 : i < 16
  · have := List.all_eq_true.mp dk_6_0 (i - 0) (List.mem_range.mpr (by omega))
    rwa [show 0 + (i - 0) = i by omega] at this
  exact absurd hi (by omega)
theorem mk_6 : mk_m 6 := ⟨⟨rfl, rfl⟩, ⟨rfl, rfl⟩, by decide +kernel, ⟨⟨rfl, rfl⟩, ⟨rfl, rfl⟩⟩⟩
theorem wk_7_0 : wk_l "TrailStore$Disk" "tableCell" rt_7_0 := ⟨trivial, ⟨rfl, rfl⟩, trivial, trivial, trivial, trivial, trivial, trivial⟩
theorem wk_7 : ∀ l ∈ rt_7, wk_l "TrailStore$Disk" "tableCell" l := by
  intro l hl
  simp only [rt_7, List.mem_cons, List.not_mem_nil, or_false] at hl
  subst hl
  exact wk_7_0
theorem dk_7_0 : (List.range 16).all (fun i => dk_i prog_3_method_4_code rt_7 (0 + i)) = true := by decide +kernel
theorem dk_7 : ∀ i, i < 16 → dk_i prog_3_method_4_code rt_7 i = true := by
  intro i hi
  by_cases h0 : i < 16
  · have := List.all_eq_true.mp dk_7_0 (i - 0) (List.mem_range.mpr (by omega))
    rwa [show 0 + (i - 0) = i by omega] at this
  exact absurd hi (by omega)
theorem mk_7 : mk_m 7 := ⟨⟨rfl, rfl⟩, ⟨rfl, rfl⟩, by decide +kernel, ⟨⟨rfl, rfl⟩, ⟨rfl, rfl⟩⟩⟩
theorem wk_8_0 : wk_l "TrailStore$Disk" "rootCell" rt_8_0 := ⟨trivial, ⟨rfl, rfl⟩, trivial, trivial, trivial, trivial, trivial, trivial, trivial, trivial, trivial, trivial⟩
theorem wk_8 : ∀ l ∈ rt_8, wk_l "TrailStore$Disk" "rootCell" l := by
  intro l hl
  simp only [rt_8, List.mem_cons, List.not_mem_nil, or_false] at hl
  subst hl
  exact wk_8_0
theorem dk_8_0 : (List.range 16).all (fun i => dk_i prog_3_method_5_code rt_8 (0 + i)) = true := by decide +kernel
theorem dk_8 : ∀ i, i < 16 → dk_i prog_3_method_5_code rt_8 i = true := by
  intro i hi
  by_cases h0 : i < 16
  · have := List.all_eq_true.mp dk_8_0 (i - 0) (List.mem_range.mpr (by omega))
    rwa [show 0 + (i - 0) = i by omega] at this
  exact absurd hi (by omega)
theorem mk_8 : mk_m 8 := ⟨⟨rfl, rfl⟩, ⟨rfl, rfl⟩, by decide +kernel, ⟨⟨rfl, rfl⟩, ⟨rfl, rfl⟩⟩⟩
theorem wk_9_0 : wk_l "TrailStore$Disk" "byteAt" rt_9_0 := ⟨trivial, trivial, trivial, trivial, ⟨rfl, rfl⟩, trivial, trivial, trivial, trivial, trivial, ⟨rfl, rfl⟩, trivial, trivial, trivial, trivial, trivial, trivial⟩
theorem wk_9 : ∀ l ∈ rt_9, wk_l "TrailStore$Disk" "byteAt" l := by
  intro l hl
  simp only [rt_9, List.mem_cons, List.not_mem_nil, or_false] at hl
  subst hl
  exact wk_9_0
theorem dk_9_0 : (List.range 16).all (fun i => dk_i prog_3_method_6_code rt_9 (0 + i)) = true := by decide +kernel
theorem dk_9 : ∀ i, i < 16 → dk_i prog_3_method_6_code rt_9 i = true := by
  intro i hi
  by_cases h0 : i < 16
  · have := List.all_eq_true.mp dk_9_0 (i - 0) (List.mem_range.mpr (by omega))
    rwa [show 0 + (i - 0) = i by omega] at this
  exact absurd hi (by omega)
theorem mk_9 : mk_m 9 := ⟨⟨rfl, rfl⟩, ⟨rfl, rfl⟩, by decide +kernel, ⟨⟨rfl, rfl⟩, ⟨rfl, rfl⟩⟩⟩
theorem wk_10_0 : wk_l "TrailStore$Disk" "numberAt" rt_10_0 := ⟨trivial, trivial, ⟨rfl, rfl⟩, trivial, trivial, trivial, trivial, trivial, trivial, ⟨rfl, rfl⟩, trivial, trivial, trivial, trivial, trivial, trivial, trivial⟩
theorem wk_10_1 : wk_l "TrailStore$Disk" "numberAt" rt_10_1 := ⟨trivial, ⟨rfl, rfl⟩, trivial, trivial, trivial, trivial, trivial, trivial, trivial, ⟨rfl, rfl⟩, trivial, trivial, trivial⟩
theorem wk_10 : ∀ l ∈ rt_10, wk_l "TrailStore$Disk" "numberAt" l := by
  intro l hl
  simp only [rt_10, List.mem_cons, List.not_mem_nil, or_false] at hl
  rcases hl with rfl | rfl
  · exact wk_10_0
  · exact wk_10_1
theorem dk_10_0 : (List.range 32).all (fun i => dk_i prog_3_method_7_code rt_10 (0 + i)) = true := by decide +kernel
theorem dk_10 : ∀ i, i < 32 → dk_i prog_3_method_7_code rt_10 i = true := by
  intro i hi
  by_cases h0 : i < 32
  · have := List.all_eq_true.mp dk_10_0 (i - 0) (List.mem_range.mpr (by omega))
    rwa [show 0 + (i - 0) = i by omega] at this
  exact absurd hi (by omega)
theorem mk_10 : mk_m 10 := ⟨⟨rfl, rfl⟩, ⟨rfl, rfl⟩, by decide +kernel, ⟨⟨rfl, rfl⟩, ⟨rfl, rfl⟩⟩⟩
theorem wk_11_0 : wk_l "TrailStore$Disk" "logByte" rt_11_0 := ⟨trivial, ⟨rfl, rfl⟩, trivial, trivial, ⟨rfl, rfl⟩, trivial, trivial, trivial, trivial, trivial⟩
theorem wk_11 : ∀ l ∈ rt_11, wk_l "TrailStore$Disk" "logByte" l := by
  intro l hl
  simp only [rt_11, List.mem_cons, List.not_mem_nil, or_false] at hl
  subst hl
  exact wk_11_0
theorem dk_11_0 : (List.range 16).all (fun i => dk_i prog_3_method_8_code rt_11 (0 + i)) = true := by decide +kernel
theorem dk_11 : ∀ i, i < 16 → dk_i prog_3_method_8_code rt_11 i = true := by
  intro i hi
  by_cases h0 : i < 16
  · have := List.all_eq_true.mp dk_11_0 (i - 0) (List.mem_range.mpr (by omega))
    rwa [show 0 + (i - 0) = i by omega] at this
  exact absurd hi (by omega)
theorem mk_11 : mk_m 11 := ⟨⟨rfl, rfl⟩, ⟨rfl, rfl⟩, by decide +kernel, ⟨⟨rfl, rfl⟩, ⟨rfl, rfl⟩⟩⟩
theorem wk_12_0 : wk_l "TrailStore$Disk" "logNumber" rt_12_0 := ⟨trivial, trivial, ⟨rfl, rfl⟩, trivial, trivial, trivial, trivial, trivial, trivial, ⟨rfl, rfl⟩, trivial, trivial, trivial, trivial, trivial, trivial, trivial⟩
theorem wk_12_1 : wk_l "TrailStore$Disk" "logNumber" rt_12_1 := ⟨trivial, ⟨rfl, rfl⟩, trivial, trivial, trivial, trivial, trivial, trivial, trivial, ⟨rfl, rfl⟩, trivial, trivial, trivial⟩
theorem wk_12 : ∀ l ∈ rt_12, wk_l "TrailStore$Disk" "logNumber" l := by
  intro l hl
  simp only [rt_12, List.mem_cons, List.not_mem_nil, or_false] at hl
  rcases hl with rfl | rfl
  · exact wk_12_0
  · exact wk_12_1
theorem dk_12_0 : (List.range 32).all (fun i => dk_i prog_3_method_9_code rt_12 (0 + i)) = true := by decide +kernel
theorem dk_12 : ∀ i, i < 32 → dk_i prog_3_method_9_code rt_12 i = true := by
  intro i hi
  by_cases h0 : i < 32
  · have := List.all_eq_true.mp dk_12_0 (i - 0) (List.mem_range.mpr (by omega))
    rwa [show 0 + (i - 0) = i by omega] at this
  exact absurd hi (by omega)
theorem mk_12 : mk_m 12 := ⟨⟨rfl, rfl⟩, ⟨rfl, rfl⟩, by decide +kernel, ⟨⟨rfl, rfl⟩, ⟨rfl, rfl⟩⟩⟩
theorem wk_13_0 : wk_l "TrailStore$Disk" "recordSize" rt_13_0 := ⟨trivial, trivial, trivial, trivial, trivial, ⟨rfl, rfl⟩, trivial, trivial, trivial⟩
theorem wk_13 : ∀ l ∈ rt_13, wk_l "TrailStore$Disk" "recordSize" l := by
  intro l hl
  simp only [rt_13, List.mem_cons, List.not_mem_nil, or_false] at hl
  subst hl
  exact wk_13_0
theorem dk_13_0 : (List.range 16).all (fun i => dk_i prog_3_method_10_code rt_13 (0 + i)) = true := by decide +kernel
theorem dk_13 : ∀ i, i < 16 → dk_i prog_3_method_10_code rt_13 i = true := by
  intro i hi
  by_cases h0 : i < 16
  · have := List.all_eq_true.mp dk_13_0 (i - 0) (List.mem_range.mpr (by omega))
    rwa [show 0 + (i - 0) = i by omega] at this
  exact absurd hi (by omega)
theorem mk_13 : mk_m 13 := ⟨⟨rfl, rfl⟩, ⟨rfl, rfl⟩, by decide +kernel, ⟨⟨rfl, rfl⟩, ⟨rfl, rfl⟩⟩⟩
theorem wk_14_0 : wk_l "TrailStore$Disk" "copyValue" rt_14_0 := ⟨trivial, trivial, trivial, trivial, ⟨rfl, rfl⟩, trivial, trivial, ⟨rfl, rfl⟩, trivial, trivial, trivial, trivial, trivial, trivial, trivial, trivial, trivial⟩
theorem wk_14_1 : wk_l "TrailStore$Disk" "copyValue" rt_14_1 := ⟨trivial, trivial, trivial, trivial, trivial, trivial, ⟨rfl, rfl⟩, trivial, trivial, trivial, trivial, trivial, trivial, trivial⟩
theorem wk_14 : ∀ l ∈ rt_14, wk_l "TrailStore$Disk" "copyValue" l := by
  intro l hl
  simp only [rt_14, List.mem_cons, List.not_mem_nil, or_false] at hl
  rcases hl with rfl | rfl
  · exact wk_14_0
  · exact wk_14_1
theorem dk_14_0 : (List.range 32).all (fun i => dk_i prog_3_method_11_code rt_14 (0 + i)) = true := by decide +kernel
theorem dk_14 : ∀ i, i < 32 → dk_i prog_3_method_11_code rt_14 i = true := by
  intro i hi
  by_cases h0 : i < 32
  · have := List.all_eq_true.mp dk_14_0 (i - 0) (List.mem_range.mpr (by omega))
    rwa [show 0 + (i - 0) = i by omega] at this
  exact absurd hi (by omega)
theorem mk_14 : mk_m 14 := ⟨⟨rfl, rfl⟩, ⟨rfl, rfl⟩, by decide +kernel, ⟨⟨rfl, rfl⟩, ⟨rfl, rfl⟩⟩⟩
theorem wk_15_0 : wk_l "TrailStore$Disk" "sameValue" rt_15_0 := ⟨trivial, trivial, ⟨rfl, rfl⟩, trivial, trivial, trivial, trivial, ⟨rfl, rfl⟩, trivial, trivial, trivial, trivial, trivial, trivial, trivial, trivial, trivial⟩
theorem wk_15_1 : wk_l "TrailStore$Disk" "sameValue" rt_15_1 := ⟨trivial, trivial, trivial, trivial, trivial, trivial, trivial, trivial, ⟨rfl, rfl⟩, trivial, trivial, trivial, trivial, ⟨rfl, rfl⟩, trivial, trivial, trivial⟩
theorem wk_15_2 : wk_l "TrailStore$Disk" "sameValue" rt_15_2 := ⟨trivial, trivial, trivial, trivial, trivial, trivial, trivial, trivial⟩
theorem wk_15 : ∀ l ∈ rt_15, wk_l "TrailStore$Disk" "sameValue" l := by
  intro l hl
  simp only [rt_15, List.mem_cons, List.not_mem_nil, or_false] at hl
  rcases hl with rfl | rfl | rfl
  · exact wk_15_0
  · exact wk_15_1
  · exact wk_15_2
theorem dk_15_0 : (List.range 48).all (fun i => dk_i prog_3_method_12_code rt_15 (0 + i)) = true := by decide +kernel
theorem dk_15 : ∀ i, i < 48 → dk_i prog_3_method_12_code rt_15 i = true := by
  intro i hi
  by_cases h0 : i < 48
  · have := List.all_eq_true.mp dk_15_0 (i - 0) (List.mem_range.mpr (by omega))
    rwa [show 0 + (i - 0) = i by omega] at this
  exact absurd hi (by omega)
theorem mk_15 : mk_m 15 := ⟨⟨rfl, rfl⟩, ⟨rfl, rfl⟩, by decide +kernel, ⟨⟨rfl, rfl⟩, ⟨rfl, rfl⟩⟩⟩
theorem wk_16_0 : wk_l "TrailStore$Disk" "write" rt_16_0 := ⟨trivial, ⟨rfl, rfl⟩, trivial, trivial, trivial, trivial, ⟨rfl, rfl⟩, trivial, trivial, trivial, trivial, trivial, trivial, trivial, trivial, trivial, trivial⟩
theorem wk_16_1 : wk_l "TrailStore$Disk" "write" rt_16_1 := ⟨trivial, trivial, ⟨rfl, rfl⟩, trivial, trivial, trivial, ⟨rfl, rfl⟩, trivial, trivial, trivial, trivial, trivial, ⟨rfl, rfl⟩, trivial, ⟨rfl, rfl⟩, trivial, trivial⟩
theorem wk_16_2 : wk_l "TrailStore$Disk" "write" rt_16_2 := ⟨⟨rfl, rfl⟩, trivial, trivial, trivial, ⟨rfl, rfl⟩, trivial, ⟨rfl, rfl⟩, trivial, trivial, trivial, trivial, ⟨rfl, rfl⟩, trivial, trivial, ⟨⟨rfl, rfl⟩, Or.inl rfl⟩, trivial, trivial⟩
theorem wk_16_3 : wk_l "TrailStore$Disk" "write" rt_16_3 := ⟨trivial, trivial, trivial, trivial, trivial, trivial, trivial, ⟨rfl, rfl⟩, trivial, ⟨rfl, rfl⟩, trivial, ⟨rfl, rfl⟩, trivial, trivial, trivial, trivial, trivial⟩
theorem wk_16_4 : wk_l "TrailStore$Disk" "write" rt_16_4 := ⟨trivial, ⟨rfl, rfl⟩, trivial, trivial, ⟨⟨rfl, rfl⟩, Or.inl rfl⟩, trivial, ⟨rfl, rfl⟩, trivial, trivial, trivial, trivial, trivial, trivial, trivial, trivial, trivial, trivial⟩
theorem wk_16_5 : wk_l "TrailStore$Disk" "write" rt_16_5 := ⟨⟨rfl, rfl⟩, trivial, trivial, trivial, trivial, ⟨rfl, rfl⟩, trivial, trivial, trivial, ⟨rfl, rfl⟩, trivial, trivial, ⟨⟨rfl, rfl⟩, Or.inl rfl⟩, trivial, trivial, ⟨rfl, rfl⟩, trivial⟩
theorem wk_16_6 : wk_l "TrailStore$Disk" "write" rt_16_6 := ⟨trivial, trivial, trivial, trivial, ⟨⟨rfl, rfl⟩, Or.inl rfl⟩, trivial, trivial⟩
theorem wk_16 : ∀ l ∈ rt_16, wk_l "TrailStore$Disk" "write" l := by
  intro l hl
  simp only [rt_16, List.mem_cons, List.not_mem_nil, or_false] at hl
  rcases hl with rfl | rfl | rfl | rfl | rfl | rfl | rfl
  · exact wk_16_0
  · exact wk_16_1
  · exact wk_16_2
  · exact wk_16_3
  · exact wk_16_4
  · exact wk_16_5
  · exact wk_16_6
theorem dk_16_0 : (List.range 48).all (fun i => dk_i prog_3_method_13_code rt_16 (0 + i)) = true := by decide +kernel
theorem dk_16_1 : (List.range 48).all (fun i => dk_i prog_3_method_13_code rt_16 (48 + i)) = true := by decide +kernel
theorem dk_16_2 : (List.range 16).all (fun i => dk_i prog_3_method_13_code rt_16 (96 + i)) = true := by decide +kernel
theorem dk_16 : ∀ i, i < 112 → dk_i prog_3_method_13_code rt_16 i = true := by
  intro i hi
  by_cases h0 : i < 48
  · have := List.all_eq_true.mp dk_16_0 (i - 0) (List.mem_range.mpr (by omega))
    rwa [show 0 + (i - 0) = i by omega] at this
  by_cases h1 : i < 96
  · have := List.all_eq_true.mp dk_16_1 (i - 48) (List.mem_range.mpr (by omega))
    rwa [show 48 + (i - 48) = i by omega] at this
  by_cases h2 : i < 112
  · have := List.all_eq_true.mp dk_16_2 (i - 96) (List.mem_range.mpr (by omega))
    rwa [show 96 + (i - 96) = i by omega] at this
  exact absurd hi (by omega)
theorem mk_16 : mk_m 16 := ⟨⟨rfl, rfl⟩, ⟨rfl, rfl⟩, by decide +kernel, ⟨⟨rfl, rfl⟩, ⟨rfl, rfl⟩⟩⟩
theorem wk_17_0 : wk_l "TrailStore$Disk" "makeLasting" rt_17_0 := ⟨trivial, ⟨rfl, rfl⟩, trivial, trivial, trivial, ⟨⟨rfl, rfl⟩, Or.inl rfl⟩, trivial, trivial, ⟨⟨rfl, rfl⟩, Or.inl rfl⟩, trivial, trivial⟩
theorem wk_17 : ∀ l ∈ rt_17, wk_l "TrailStore$Disk" "makeLasting" l := by
  intro l hl
  simp only [rt_17, List.mem_cons, List.not_mem_nil, or_false] at hl
  subst hl
  exact wk_17_0
theorem dk_17_0 : (List.range 16).all (fun i => dk_i prog_3_method_14_code rt_17 (0 + i)) = true := by decide +kernel
theorem dk_17 : ∀ i, i < 16 → dk_i prog_3_method_14_code rt_17 i = true := by
  intro i hi
  by_cases h0 : i < 16
  · have := List.all_eq_true.mp dk_17_0 (i - 0) (List.mem_range.mpr (by omega))
    rwa [show 0 + (i - 0) = i by omega] at this
  exact absurd hi (by omega)
theorem mk_17 : mk_m 17 := ⟨⟨rfl, rfl⟩, ⟨rfl, rfl⟩, by decide +kernel, ⟨⟨rfl, rfl⟩, ⟨rfl, rfl⟩⟩⟩
theorem wk_18_0 : wk_l "TrailStore$Disk" "takeBack" rt_18_0 := ⟨trivial, ⟨rfl, rfl⟩, trivial, trivial, trivial, trivial, trivial, trivial, trivial, trivial, trivial, trivial, ⟨rfl, rfl⟩, trivial, ⟨rfl, rfl⟩, trivial, trivial⟩
theorem wk_18_1 : wk_l "TrailStore$Disk" "takeBack" rt_18_1 := ⟨trivial, trivial, ⟨⟨rfl, rfl⟩, Or.inl rfl⟩, trivial, ⟨rfl, rfl⟩, trivial, trivial, trivial, trivial, trivial, trivial, trivial, ⟨rfl, rfl⟩, trivial, trivial, trivial, trivial⟩
theorem wk_18_2 : wk_l "TrailStore$Disk" "takeBack" rt_18_2 := ⟨trivial, trivial, trivial, trivial, trivial, trivial, trivial, ⟨rfl, rfl⟩, trivial, trivial, ⟨rfl, rfl⟩, trivial, ⟨rfl, rfl⟩, trivial, trivial, trivial, trivial⟩
theorem wk_18_3 : wk_l "TrailStore$Disk" "takeBack" rt_18_3 := ⟨trivial, trivial, trivial, ⟨rfl, rfl⟩, trivial, trivial, trivial, trivial, trivial, trivial, trivial, ⟨⟨rfl, rfl⟩, Or.inl rfl⟩, trivial, trivial, ⟨⟨rfl, rfl⟩, Or.inl rfl⟩, trivial, trivial⟩
theorem wk_18_4 : wk_l "TrailStore$Disk" "takeBack" rt_18_4 := ⟨trivial, ⟨⟨rfl, rfl⟩, Or.inl rfl⟩, trivial, trivial, ⟨⟨rfl, rfl⟩, Or.inl rfl⟩, trivial, trivial⟩
theorem wk_18 : ∀ l ∈ rt_18, wk_l "TrailStore$Disk" "takeBack" l := by
  intro l hl
  simp only [rt_18, List.mem_cons, List.not_mem_nil, or_false] at hl
  rcases hl with rfl | rfl | rfl | rfl | rfl
  · exact wk_18_0
  · exact wk_18_1
  · exact wk_18_2
  · exact wk_18_3
  · exact wk_18_4
theorem dk_18_0 : (List.range 48).all (fun i => dk_i prog_3_method_15_code rt_18 (0 + i)) = true := by decide +kernel
theorem dk_18_1 : (List.range 32).all (fun i => dk_i prog_3_method_15_code rt_18 (48 + i)) = true := by decide +kernel
theorem dk_18 : ∀ i, i < 80 → dk_i prog_3_method_15_code rt_18 i = true := by
  intro i hi
  by_cases h0 : i < 48
  · have := List.all_eq_true.mp dk_18_0 (i - 0) (List.mem_range.mpr (by omega))
    rwa [show 0 + (i - 0) = i by omega] at this
  by_cases h1 : i < 80
  · have := List.all_eq_true.mp dk_18_1 (i - 48) (List.mem_range.mpr (by omega))
    rwa [show 48 + (i - 48) = i by omega] at this
  exact absurd hi (by omega)
theorem mk_18 : mk_m 18 := ⟨⟨rfl, rfl⟩, ⟨rfl, rfl⟩, by decide +kernel, ⟨⟨rfl, rfl⟩, ⟨rfl, rfl⟩⟩⟩
theorem wk_19_0 : wk_l "TrailStore$Disk" "isInside" rt_19_0 := ⟨trivial, trivial, trivial, trivial, ⟨rfl, rfl⟩, trivial, trivial, trivial, trivial, trivial, trivial, trivial, trivial, trivial, ⟨rfl, rfl⟩, trivial, trivial⟩
theorem wk_19_1 : wk_l "TrailStore$Disk" "isInside" rt_19_1 := ⟨trivial, trivial, trivial, trivial, ⟨rfl, rfl⟩, trivial, trivial, trivial, trivial, trivial, trivial, trivial⟩
theorem wk_19 : ∀ l ∈ rt_19, wk_l "TrailStore$Disk" "isInside" l := by
  intro l hl
  simp only [rt_19, List.mem_cons, List.not_mem_nil, or_false] at hl
  rcases hl with rfl | rfl
  · exact wk_19_0
  · exact wk_19_1
theorem dk_19_0 : (List.range 32).all (fun i => dk_i prog_3_method_16_code rt_19 (0 + i)) = true := by decide +kernel
theorem dk_19 : ∀ i, i < 32 → dk_i prog_3_method_16_code rt_19 i = true := by
  intro i hi
  by_cases h0 : i < 32
  · have := List.all_eq_true.mp dk_19_0 (i - 0) (List.mem_range.mpr (by omega))
    rwa [show 0 + (i - 0) = i by omega] at this
  exact absurd hi (by omega)
theorem mk_19 : mk_m 19 := ⟨⟨rfl, rfl⟩, ⟨rfl, rfl⟩, by decide +kernel, ⟨⟨rfl, rfl⟩, ⟨rfl, rfl⟩⟩⟩
theorem wk_20_0 : wk_l "TrailStore$Disk" "cellBehind" rt_20_0 := ⟨trivial, trivial, trivial, trivial, ⟨rfl, rfl⟩, trivial, trivial, trivial, trivial, trivial, trivial, trivial, trivial⟩
theorem wk_20 : ∀ l ∈ rt_20, wk_l "TrailStore$Disk" "cellBehind" l := by
  intro l hl
  simp only [rt_20, List.mem_cons, List.not_mem_nil, or_false] at hl
  subst hl
  exact wk_20_0
theorem dk_20_0 : (List.range 16).all (fun i => dk_i prog_3_method_17_code rt_20 (0 + i)) = true := by decide +kernel
theorem dk_20 : ∀ i, i < 16 → dk_i prog_3_method_17_code rt_20 i = true := by
  intro i hi
  by_cases h0 : i < 16
  · have := List.all_eq_true.mp dk_20_0 (i - 0) (List.mem_range.mpr (by omega))
    rwa [show 0 + (i - 0) = i by omega] at this
  exact absurd hi (by omega)
theorem mk_20 : mk_m 20 := ⟨⟨rfl, rfl⟩, ⟨rfl, rfl⟩, by decide +kernel, ⟨⟨rfl, rfl⟩, ⟨rfl, rfl⟩⟩⟩
theorem wk_21_0 : wk_l "TrailStore$Entries" "<init>" rt_21_0 := ⟨trivial, ⟨rfl, rfl⟩, trivial, trivial, trivial, ⟨⟨rfl, rfl⟩, Or.inr ⟨rfl, rfl, rfl⟩⟩, trivial, trivial, trivial, ⟨⟨rfl, rfl⟩, Or.inr ⟨rfl, rfl, rfl⟩⟩, trivial, trivial, trivial, ⟨⟨rfl, rfl⟩, Or.inr ⟨rfl, rfl, rfl⟩⟩, trivial, trivial⟩
theorem wk_21 : ∀ l ∈ rt_21, wk_l "TrailStore$Entries" "<init>" l := by
  intro l hl
  simp only [rt_21, List.mem_cons, List.not_mem_nil, or_false] at hl
  subst hl
  exact wk_21_0
theorem dk_21_0 : (List.range 16).all (fun i => dk_i prog_4_method_1_code rt_21 (0 + i)) = true := by decide +kernel
theorem dk_21 : ∀ i, i < 16 → dk_i prog_4_method_1_code rt_21 i = true := by
  intro i hi
  by_cases h0 : i < 16
  · have := List.all_eq_true.mp dk_21_0 (i - 0) (List.mem_range.mpr (by omega))
    rwa [show 0 + (i - 0) = i by omega] at this
  exact absurd hi (by omega)
theorem mk_21 : mk_m 21 := ⟨⟨rfl, rfl⟩, ⟨rfl, rfl⟩, by decide +kernel, ⟨⟨rfl, rfl⟩, rfl, rfl⟩⟩
theorem wk_22_0 : wk_l "TrailStore$Entries" "clear" rt_22_0 := ⟨trivial, trivial, trivial, trivial, trivial, trivial, ⟨rfl, rfl⟩, trivial, trivial, trivial, trivial, trivial, trivial, trivial, ⟨⟨rfl, rfl⟩, Or.inl rfl⟩, trivial, trivial⟩
theorem wk_22 : ∀ l ∈ rt_22, wk_l "TrailStore$Entries" "clear" l := by
  intro l hl
  simp only [rt_22, List.mem_cons, List.not_mem_nil, or_false] at hl
  subst hl
  exact wk_22_0
theorem dk_22_0 : (List.range 16).all (fun i => dk_i prog_4_method_2_code rt_22 (0 + i)) = true := by decide +kernel
theorem dk_22 : ∀ i, i < 16 → dk_i prog_4_method_2_code rt_22 i = true := by
  intro i hi
  by_cases h0 : i < 16
  · have := List.all_eq_true.mp dk_22_0 (i - 0) (List.mem_range.mpr (by omega))
    rwa [show 0 + (i - 0) = i by omega] at this
  exact absurd hi (by omega)
theorem mk_22 : mk_m 22 := ⟨⟨rfl, rfl⟩, ⟨rfl, rfl⟩, by decide +kernel, ⟨⟨rfl, rfl⟩, ⟨rfl, rfl⟩⟩⟩
theorem wk_23_0 : wk_l "TrailStore$Entries" "has" rt_23_0 := ⟨trivial, rfl, trivial, trivial, ⟨rfl, rfl⟩, trivial, trivial, trivial, trivial, trivial, trivial, trivial, trivial⟩
theorem wk_23 : ∀ l ∈ rt_23, wk_l "TrailStore$Entries" "has" l := by
  intro l hl
  simp only [rt_23, List.mem_cons, List.not_mem_nil, or_false] at hl
  subst hl
  exact wk_23_0
theorem dk_23_0 : (List.range 16).all (fun i => dk_i prog_4_method_3_code rt_23 (0 + i)) = true := by decide +kernel
theorem dk_23 : ∀ i, i < 16 → dk_i prog_4_method_3_code rt_23 i = true := by
  intro i hi
  by_cases h0 : i < 16
  · have := List.all_eq_true.mp dk_23_0 (i - 0) (List.mem_range.mpr (by omega))
    rwa [show 0 + (i - 0) = i by omega] at this
  exact absurd hi (by omega)
theorem mk_23 : mk_m 23 := ⟨⟨rfl, rfl⟩, ⟨rfl, rfl⟩, by decide +kernel, ⟨⟨rfl, rfl⟩, ⟨rfl, rfl⟩⟩⟩
theorem wk_24_0 : wk_l "TrailStore$Entries" "set" rt_24_0 := ⟨trivial, rfl, trivial, trivial, trivial, ⟨rfl, rfl⟩, trivial, trivial, trivial, trivial, trivial, ⟨rfl, rfl⟩, trivial, trivial, ⟨⟨rfl, rfl⟩, Or.inl rfl⟩, trivial, trivial⟩
theorem wk_24_1 : wk_l "TrailStore$Entries" "set" rt_24_1 := ⟨⟨rfl, rfl⟩, trivial, trivial, trivial, trivial, ⟨rfl, rfl⟩, trivial, trivial, trivial, trivial, ⟨rfl, rfl⟩, trivial, trivial, trivial, trivial, trivial⟩
theorem wk_24 : ∀ l ∈ rt_24, wk_l "TrailStore$Entries" "set" l := by
  intro l hl
  simp only [rt_24, List.mem_cons, List.not_mem_nil, or_false] at hl
  rcases hl with rfl | rfl
  · exact wk_24_0
  · exact wk_24_1
theorem dk_24_0 : (List.range 32).all (fun i => dk_i prog_4_method_4_code rt_24 (0 + i)) = true := by decide +kernel
theorem dk_24 : ∀ i, i < 32 → dk_i prog_4_method_4_code rt_24 i = true := by
  intro i hi
  by_cases h0 : i < 32
  · have := List.all_eq_true.mp dk_24_0 (i - 0) (List.mem_range.mpr (by omega))
    rwa [show 0 + (i - 0) = i by omega] at this
  exact absurd hi (by omega)
theorem mk_24 : mk_m 24 := ⟨⟨rfl, rfl⟩, ⟨rfl, rfl⟩, by decide +kernel, ⟨⟨rfl, rfl⟩, ⟨rfl, rfl⟩⟩⟩
theorem wk_25_0 : wk_l "TrailStore$Entries" "dropRemovals" rt_25_0 := ⟨trivial, trivial, trivial, trivial, trivial, trivial, ⟨rfl, rfl⟩, trivial, trivial, trivial, trivial, trivial, ⟨rfl, rfl⟩, trivial, trivial, trivial, trivial⟩
theorem wk_25_1 : wk_l "TrailStore$Entries" "dropRemovals" rt_25_1 := ⟨trivial, trivial, ⟨rfl, rfl⟩, trivial, trivial, ⟨⟨rfl, rfl⟩, Or.inl rfl⟩, trivial, trivial, trivial, trivial⟩
theorem wk_25 : ∀ l ∈ rt_25, wk_l "TrailStore$Entries" "dropRemovals" l := by
  intro l hl
  simp only [rt_25, List.mem_cons, List.not_mem_nil, or_false] at hl
  rcases hl with rfl | rfl
  · exact wk_25_0
  · exact wk_25_1
theorem dk_25_0 : (List.range 32).all (fun i => dk_i prog_4_method_5_code rt_25 (0 + i)) = true := by decide +kernel
theorem dk_25 : ∀ i, i < 32 → dk_i prog_4_method_5_code rt_25 i = true := by
  intro i hi
  by_cases h0 : i < 32
  · have := List.all_eq_true.mp dk_25_0 (i - 0) (List.mem_range.mpr (by omega))
    rwa [show 0 + (i - 0) = i by omega] at this
  exact absurd hi (by omega)
theorem mk_25 : mk_m 25 := ⟨⟨rfl, rfl⟩, ⟨rfl, rfl⟩, by decide +kernel, ⟨⟨rfl, rfl⟩, ⟨rfl, rfl⟩⟩⟩
theorem wk_26_0 : wk_l "TrailStore$Entries" "countWith" rt_26_0 := ⟨trivial, ⟨rfl, rfl⟩, trivial, trivial, trivial, trivial, trivial, ⟨rfl, rfl⟩, trivial, trivial, trivial, ⟨rfl, rfl⟩, trivial, trivial, ⟨rfl, rfl⟩, trivial, trivial⟩
theorem wk_26_1 : wk_l "TrailStore$Entries" "countWith" rt_26_1 := ⟨trivial, trivial, ⟨rfl, rfl⟩, trivial, trivial, trivial, trivial, trivial, trivial, trivial⟩
theorem wk_26 : ∀ l ∈ rt_26, wk_l "TrailStore$Entries" "countWith" l := by
  intro l hl
  simp only [rt_26, List.mem_cons, List.not_mem_nil, or_false] at hl
  rcases hl with rfl | rfl
  · exact wk_26_0
  · exact wk_26_1
theorem dk_26_0 : (List.range 32).all (fun i => dk_i prog_4_method_6_code rt_26 (0 + i)) = true := by decide +kernel
theorem dk_26 : ∀ i, i < 32 → dk_i prog_4_method_6_code rt_26 i = true := by
  intro i hi
  by_cases h0 : i < 32
  · have := List.all_eq_true.mp dk_26_0 (i - 0) (List.mem_range.mpr (by omega))
    rwa [show 0 + (i - 0) = i by omega] at this
  exact absurd hi (by omega)
theorem mk_26 : mk_m 26 := ⟨⟨rfl, rfl⟩, ⟨rfl, rfl⟩, by decide +kernel, ⟨⟨rfl, rfl⟩, ⟨rfl, rfl⟩⟩⟩
theorem wk_27_0 : wk_l "TrailStore$Found" "<init>" rt_27_0 := ⟨trivial, ⟨rfl, rfl⟩, trivial, trivial⟩
theorem wk_27 : ∀ l ∈ rt_27, wk_l "TrailStore$Found" "<init>" l := by
  intro l hl
  simp only [rt_27, List.mem_cons, List.not_mem_nil, or_false] at hl
  subst hl
  exact wk_27_0
theorem dk_27_0 : (List.range 16).all (fun i => dk_i prog_5_method_1_code rt_27 (0 + i)) = true := by decide +kernel
theorem dk_27 : ∀ i, i < 16 → dk_i prog_5_method_1_code rt_27 i = true := by
  intro i hi
  by_cases h0 : i < 16
  · have := List.all_eq_true.mp dk_27_0 (i - 0) (List.mem_range.mpr (by omega))
    rwa [show 0 + (i - 0) = i by omega] at this
  exact absurd hi (by omega)
theorem mk_27 : mk_m 27 := ⟨⟨rfl, rfl⟩, ⟨rfl, rfl⟩, by decide +kernel, ⟨⟨rfl, rfl⟩, rfl, rfl⟩⟩
theorem wk_28_0 : wk_l "TrailStore$Found" "clear" rt_28_0 := ⟨trivial, trivial, ⟨⟨rfl, rfl⟩, Or.inl rfl⟩, trivial, trivial, ⟨⟨rfl, rfl⟩, Or.inl rfl⟩, trivial, trivial, ⟨⟨rfl, rfl⟩, Or.inl rfl⟩, trivial, trivial, ⟨⟨rfl, rfl⟩, Or.inl rfl⟩, trivial, trivial, ⟨⟨rfl, rfl⟩, Or.inl rfl⟩, trivial, trivial⟩
theorem wk_28_1 : wk_l "TrailStore$Found" "clear" rt_28_1 := ⟨trivial, ⟨⟨rfl, rfl⟩, Or.inl rfl⟩, trivial, trivial⟩
theorem wk_28 : ∀ l ∈ rt_28, wk_l "TrailStore$Found" "clear" l := by
  intro l hl
  simp only [rt_28, List.mem_cons, List.not_mem_nil, or_false] at hl
  rcases hl with rfl | rfl
  · exact wk_28_0
  · exact wk_28_1
theorem dk_28_0 : (List.range 32).all (fun i => dk_i prog_5_method_2_code rt_28 (0 + i)) = true := by decide +kernel
theorem dk_28 : ∀ i, i < 32 → dk_i prog_5_method_2_code rt_28 i = true := by
  intro i hi
  by_cases h0 : i < 32
  · have := List.all_eq_true.mp dk_28_0 (i - 0) (List.mem_range.mpr (by omega))
    rwa [show 0 + (i - 0) = i by omega] at this
  exact absurd hi (by omega)
theorem mk_28 : mk_m 28 := ⟨⟨rfl, rfl⟩, ⟨rfl, rfl⟩, by decide +kernel, ⟨⟨rfl, rfl⟩, ⟨rfl, rfl⟩⟩⟩
theorem wk_29_0 : wk_l "TrailStore$Keeper" "<init>" rt_29_0 := ⟨trivial, ⟨rfl, rfl⟩, trivial, ⟨⟨rfl, rfl⟩, ⟨rfl, rfl⟩, ⟨rfl, rfl⟩⟩, trivial, ⟨rfl, rfl⟩, ⟨⟨rfl, rfl⟩, Or.inr ⟨rfl, rfl, rfl⟩⟩, trivial, ⟨⟨rfl, rfl⟩, ⟨rfl, rfl⟩, ⟨rfl, rfl⟩⟩, trivial, ⟨rfl, rfl⟩, ⟨⟨rfl, rfl⟩, Or.inr ⟨rfl, rfl, rfl⟩⟩, trivial, trivial, trivial, ⟨⟨rfl, rfl⟩, Or.inr ⟨rfl, rfl, rfl⟩⟩, trivial⟩
theorem wk_29_1 : wk_l "TrailStore$Keeper" "<init>" rt_29_1 := ⟨trivial, trivial, trivial, ⟨⟨rfl, rfl⟩, Or.inr ⟨rfl, rfl, rfl⟩⟩, trivial, trivial, trivial, ⟨⟨rfl, rfl⟩, Or.inr ⟨rfl, rfl, rfl⟩⟩, trivial, trivial, trivial, ⟨⟨rfl, rfl⟩, Or.inr ⟨rfl, rfl, rfl⟩⟩, trivial, trivial, ⟨⟨rfl, rfl⟩, Or.inr ⟨rfl, rfl, rfl⟩⟩, trivial, trivial⟩
theorem wk_29_2 : wk_l "TrailStore$Keeper" "<init>" rt_29_2 := ⟨trivial, ⟨⟨rfl, rfl⟩, Or.inr ⟨rfl, rfl, rfl⟩⟩, trivial, trivial⟩
theorem wk_29 : ∀ l ∈ rt_29, wk_l "TrailStore$Keeper" "<init>" l := by
  intro l hl
  simp only [rt_29, List.mem_cons, List.not_mem_nil, or_false] at hl
  rcases hl with rfl | rfl | rfl
  · exact wk_29_0
  · exact wk_29_1
  · exact wk_29_2
theorem dk_29_0 : (List.range 48).all (fun i => dk_i prog_6_method_1_code rt_29 (0 + i)) = true := by decide +kernel
theorem dk_29 : ∀ i, i < 48 → dk_i prog_6_method_1_code rt_29 i = true := by
  intro i hi
  by_cases h0 : i < 48
  · have := List.all_eq_true.mp dk_29_0 (i - 0) (List.mem_range.mpr (by omega))
    rwa [show 0 + (i - 0) = i by omega] at this
  exact absurd hi (by omega)
theorem mk_29 : mk_m 29 := ⟨⟨rfl, rfl⟩, ⟨rfl, rfl⟩, by decide +kernel, ⟨⟨rfl, rfl⟩, rfl, rfl⟩⟩
theorem wk_30_0 : wk_l "TrailStore$Keeper" "startUp" rt_30_0 := ⟨trivial, ⟨rfl, rfl⟩, trivial, ⟨⟨rfl, rfl⟩, Or.inl rfl⟩, trivial, ⟨rfl, rfl⟩, ⟨rfl, rfl⟩, trivial, trivial, ⟨rfl, rfl⟩, trivial, ⟨rfl, rfl⟩, trivial, ⟨rfl, rfl⟩, ⟨rfl, rfl⟩, ⟨rfl, rfl⟩, trivial⟩
theorem wk_30_1 : wk_l "TrailStore$Keeper" "startUp" rt_30_1 := ⟨trivial, ⟨rfl, rfl⟩, trivial, trivial, ⟨rfl, rfl⟩, trivial, ⟨rfl, rfl⟩, ⟨rfl, rfl⟩, trivial, trivial, trivial⟩
theorem wk_30 : ∀ l ∈ rt_30, wk_l "TrailStore$Keeper" "startUp" l := by
  intro l hl
  simp only [rt_30, List.mem_cons, List.not_mem_nil, or_false] at hl
  rcases hl with rfl | rfl
  · exact wk_30_0
  · exact wk_30_1
theorem dk_30_0 : (List.range 32).all (fun i => dk_i prog_6_method_2_code rt_30 (0 + i)) = true := by decide +kernel
theorem dk_30 : ∀ i, i < 32 → dk_i prog_6_method_2_code rt_30 i = true := by
  intro i hi
  by_cases h0 : i < 32
  · have := List.all_eq_true.mp dk_30_0 (i - 0) (List.mem_range.mpr (by omega))
    rwa [show 0 + (i - 0) = i by omega] at this
  exact absurd hi (by omega)
theorem mk_30 : mk_m 30 := ⟨⟨rfl, rfl⟩, ⟨rfl, rfl⟩, by decide +kernel, ⟨⟨rfl, rfl⟩, ⟨rfl, rfl⟩⟩⟩
theorem wk_31_0 : wk_l "TrailStore$Keeper" "store" rt_31_0 := ⟨trivial, ⟨rfl, rfl⟩, trivial, trivial, trivial, trivial, ⟨rfl, rfl⟩, ⟨rfl, rfl⟩, trivial, ⟨rfl, rfl⟩, trivial, trivial, trivial, ⟨rfl, rfl⟩, trivial, trivial, trivial⟩
theorem wk_31_1 : wk_l "TrailStore$Keeper" "store" rt_31_1 := ⟨⟨rfl, rfl⟩, trivial, trivial, ⟨rfl, rfl⟩, ⟨rfl, rfl⟩, trivial, trivial, trivial, trivial, trivial, trivial, trivial, trivial, trivial, trivial, trivial, trivial⟩
theorem wk_31_2 : wk_l "TrailStore$Keeper" "store" rt_31_2 := ⟨⟨rfl, rfl⟩, ⟨rfl, rfl⟩, trivial, trivial, trivial, trivial, ⟨rfl, rfl⟩, trivial, trivial, trivial, trivial, trivial, ⟨rfl, rfl⟩, trivial, trivial, trivial, trivial⟩
theorem wk_31_3 : wk_l "TrailStore$Keeper" "store" rt_31_3 := ⟨trivial, ⟨rfl, rfl⟩, ⟨rfl, rfl⟩, trivial, ⟨rfl, rfl⟩, trivial, trivial, trivial, ⟨rfl, rfl⟩, trivial, trivial, ⟨rfl, rfl⟩, trivial, ⟨rfl, rfl⟩, trivial, trivial⟩
theorem wk_31 : ∀ l ∈ rt_31, wk_l "TrailStore$Keeper" "store" l := by
  intro l hl
  simp only [rt_31, List.mem_cons, List.not_mem_nil, or_false] at hl
  rcases hl with rfl | rfl | rfl | rfl
  · exact wk_31_0
  · exact wk_31_1
  · exact wk_31_2
  · exact wk_31_3
theorem dk_31_0 : (List.range 48).all (fun i => dk_i prog_6_method_3_code rt_31 (0 + i)) = true := by decide +kernel
theorem dk_31_1 : (List.range 16).all (fun i => dk_i prog_6_method_3_code rt_31 (48 + i)) = true := by decide +kernel
theorem dk_31 : ∀ i, i < 64 → dk_i prog_6_method_3_code rt_31 i = true := by
  intro i hi
  by_cases h0 : i < 48
  · have := List.all_eq_true.mp dk_31_0 (i - 0) (List.mem_range.mpr (by omega))
    rwa [show 0 + (i - 0) = i by omega] at this
  by_cases h1 : i < 64
  · have := List.all_eq_true.mp dk_31_1 (i - 48) (List.mem_range.mpr (by omega))
    rwa [show 48 + (i - 48) = i by omega] at this
  exact absurd hi (by omega)
theorem mk_31 : mk_m 31 := ⟨⟨rfl, rfl⟩, ⟨rfl, rfl⟩, by decide +kernel, ⟨⟨rfl, rfl⟩, ⟨rfl, rfl⟩⟩⟩
theorem wk_32_0 : wk_l "TrailStore$Keeper" "appendAll" rt_32_0 := ⟨trivial, trivial, trivial, trivial, ⟨rfl, rfl⟩, trivial, trivial, trivial, ⟨rfl, rfl⟩, trivial, trivial, trivial, trivial, trivial, trivial, trivial, trivial⟩
theorem wk_32_1 : wk_l "TrailStore$Keeper" "appendAll" rt_32_1 := ⟨trivial, trivial, ⟨rfl, rfl⟩, trivial, trivial, trivial, trivial, trivial, ⟨rfl, rfl⟩, trivial, trivial, trivial, ⟨rfl, rfl⟩, trivial, trivial, trivial, trivial⟩
theorem wk_32_2 : wk_l "TrailStore$Keeper" "appendAll" rt_32_2 := ⟨⟨rfl, rfl⟩, trivial, trivial, ⟨rfl, rfl⟩, trivial, trivial, trivial, trivial⟩
theorem wk_32 : ∀ l ∈ rt_32, wk_l "TrailStore$Keeper" "appendAll" l := by
  intro l hl
  simp only [rt_32, List.mem_cons, List.not_mem_nil, or_false] at hl
  rcases hl with rfl | rfl | rfl
  · exact wk_32_0
  · exact wk_32_1
  · exact wk_32_2
theorem dk_32_0 : (List.range 48).all (fun i => dk_i prog_6_method_4_code rt_32 (0 + i)) = true := by decide +kernel
theorem dk_32 : ∀ i, i < 48 → dk_i prog_6_method_4_code rt_32 i = true := by
  intro i hi
  by_cases h0 : i < 48
  · have := List.all_eq_true.mp dk_32_0 (i - 0) (List.mem_range.mpr (by omega))
    rwa [show 0 + (i - 0) = i by omega] at this
  exact absurd hi (by omega)
theorem mk_32 : mk_m 32 := ⟨⟨rfl, rfl⟩, ⟨rfl, rfl⟩, by decide +kernel, ⟨⟨rfl, rfl⟩, ⟨rfl, rfl⟩⟩⟩
theorem wk_33_0 : wk_l "TrailStore$Keeper" "hasRoom" rt_33_0 := ⟨trivial, ⟨rfl, rfl⟩, ⟨rfl, rfl⟩, trivial, trivial, trivial, trivial, trivial, ⟨rfl, rfl⟩, ⟨rfl, rfl⟩, trivial, trivial, ⟨rfl, rfl⟩, ⟨rfl, rfl⟩, trivial, trivial, trivial⟩
theorem wk_33_1 : wk_l "TrailStore$Keeper" "hasRoom" rt_33_1 := ⟨trivial, trivial, trivial, trivial⟩
theorem wk_33 : ∀ l ∈ rt_33, wk_l "TrailStore$Keeper" "hasRoom" l := by
  intro l hl
  simp only [rt_33, List.mem_cons, List.not_mem_nil, or_false] at hl
  rcases hl with rfl | rfl
  · exact wk_33_0
  · exact wk_33_1
theorem dk_33_0 : (List.range 32).all (fun i => dk_i prog_6_method_5_code rt_33 (0 + i)) = true := by decide +kernel
theorem dk_33 : ∀ i, i < 32 → dk_i prog_6_method_5_code rt_33 i = true := by
  intro i hi
  by_cases h0 : i < 32
  · have := List.all_eq_true.mp dk_33_0 (i - 0) (List.mem_range.mpr (by omega))
    rwa [show 0 + (i - 0) = i by omega] at this
  exact absurd hi (by omega)
theorem mk_33 : mk_m 33 := ⟨⟨rfl, rfl⟩, ⟨rfl, rfl⟩, by decide +kernel, ⟨⟨rfl, rfl⟩, ⟨rfl, rfl⟩⟩⟩
theorem wk_34_0 : wk_l "TrailStore$Keeper" "append" rt_34_0 := ⟨trivial, ⟨rfl, rfl⟩, trivial, ⟨rfl, rfl⟩, trivial, ⟨rfl, rfl⟩, ⟨rfl, rfl⟩, trivial, trivial, trivial, trivial, ⟨rfl, rfl⟩, trivial, ⟨rfl, rfl⟩, trivial, trivial, trivial⟩
theorem wk_34_1 : wk_l "TrailStore$Keeper" "append" rt_34_1 := ⟨⟨rfl, rfl⟩, trivial, trivial, trivial, ⟨rfl, rfl⟩, trivial, ⟨rfl, rfl⟩, trivial, ⟨rfl, rfl⟩, ⟨rfl, rfl⟩, trivial, trivial, ⟨rfl, rfl⟩, trivial, trivial, trivial, trivial⟩
theorem wk_34_2 : wk_l "TrailStore$Keeper" "append" rt_34_2 := ⟨⟨rfl, rfl⟩, trivial, ⟨rfl, rfl⟩, trivial, trivial, trivial, trivial, trivial, ⟨rfl, rfl⟩, trivial, trivial, trivial, trivial, trivial, ⟨rfl, rfl⟩, trivial, trivial⟩
theorem wk_34_3 : wk_l "TrailStore$Keeper" "append" rt_34_3 := ⟨trivial, trivial, trivial, trivial, ⟨rfl, rfl⟩, trivial, trivial, ⟨rfl, rfl⟩, ⟨rfl, rfl⟩, ⟨rfl, rfl⟩, trivial, ⟨rfl, rfl⟩, trivial, trivial, ⟨rfl, rfl⟩, ⟨rfl, rfl⟩, trivial⟩
theorem wk_34_4 : wk_l "TrailStore$Keeper" "append" rt_34_4 := ⟨⟨rfl, rfl⟩, trivial, ⟨rfl, rfl⟩, trivial, ⟨rfl, rfl⟩, trivial, ⟨rfl, rfl⟩, ⟨rfl, rfl⟩, ⟨rfl, rfl⟩, trivial, ⟨rfl, rfl⟩, trivial, trivial, ⟨rfl, rfl⟩, trivial, ⟨rfl, rfl⟩, trivial⟩
theorem wk_34_5 : wk_l "TrailStore$Keeper" "append" rt_34_5 := ⟨⟨rfl, rfl⟩, trivial, trivial, trivial, trivial, trivial, ⟨rfl, rfl⟩, ⟨rfl, rfl⟩, trivial, ⟨rfl, rfl⟩, ⟨rfl, rfl⟩, ⟨rfl, rfl⟩, trivial, ⟨rfl, rfl⟩, trivial, ⟨rfl, rfl⟩, trivial⟩
theorem wk_34_6 : wk_l "TrailStore$Keeper" "append" rt_34_6 := ⟨trivial, trivial, trivial, trivial, ⟨⟨rfl, rfl⟩, Or.inl rfl⟩, trivial, ⟨rfl, rfl⟩, trivial, ⟨rfl, rfl⟩, trivial, trivial, ⟨⟨rfl, rfl⟩, Or.inl rfl⟩, trivial, trivial⟩
theorem wk_34 : ∀ l ∈ rt_34, wk_l "TrailStore$Keeper" "append" l := by
  intro l hl
  simp only [rt_34, List.mem_cons, List.not_mem_nil, or_false] at hl
  rcases hl with rfl | rfl | rfl | rfl | rfl | rfl | rfl
  · exact wk_34_0
  · exact wk_34_1
  · exact wk_34_2
  · exact wk_34_3
  · exact wk_34_4
  · exact wk_34_5
  · exact wk_34_6
theorem dk_34_0 : (List.range 48).all (fun i => dk_i prog_6_method_6_code rt_34 (0 + i)) = true := by decide +kernel
theorem dk_34_1 : (List.range 48).all (fun i => dk_i prog_6_method_6_code rt_34 (48 + i)) = true := by decide +kernel
theorem dk_34_2 : (List.range 16).all (fun i => dk_i prog_6_method_6_code rt_34 (96 + i)) = true := by decide +kernel
theorem dk_34 : ∀ i, i < 112 → dk_i prog_6_method_6_code rt_34 i = true := by
  intro i hi
  by_cases h0 : i < 48
  · have := List.all_eq_true.mp dk_34_0 (i - 0) (List.mem_range.mpr (by omega))
    rwa [show 0 + (i - 0) = i by omega] at this
  by_cases h1 : i < 96
  · have := List.all_eq_true.mp dk_34_1 (i - 48) (List.mem_range.mpr (by omega))
    rwa [show 48 + (i - 48) = i by omega] at this
  by_cases h2 : i < 112
  · have := List.all_eq_true.mp dk_34_2 (i - 96) (List.mem_range.mpr (by omega))
    rwa [show 96 + (i - 96) = i by omega] at this
  exact absurd hi (by omega)
theorem mk_34 : mk_m 34 := ⟨⟨rfl, rfl⟩, ⟨rfl, rfl⟩, by decide +kernel, ⟨⟨rfl, rfl⟩, ⟨rfl, rfl⟩⟩⟩
theorem wk_35_0 : wk_l "TrailStore$Keeper" "makeCheckpoint" rt_35_0 := ⟨trivial, ⟨rfl, rfl⟩, ⟨rfl, rfl⟩, trivial, ⟨rfl, rfl⟩, ⟨rfl, rfl⟩, ⟨rfl, rfl⟩, trivial, trivial, trivial, ⟨rfl, rfl⟩, ⟨rfl, rfl⟩, ⟨⟨rfl, rfl⟩, Or.inl rfl⟩, trivial, trivial, trivial, trivial⟩
theorem wk_35_1 : wk_l "TrailStore$Keeper" "makeCheckpoint" rt_35_1 := ⟨⟨rfl, rfl⟩, ⟨rfl, rfl⟩, trivial, ⟨rfl, rfl⟩, trivial, ⟨rfl, rfl⟩, trivial, ⟨rfl, rfl⟩, trivial, trivial, trivial, trivial, trivial, trivial, trivial, trivial, trivial⟩
theorem wk_35_2 : wk_l "TrailStore$Keeper" "makeCheckpoint" rt_35_2 := ⟨trivial, trivial, trivial, trivial, trivial, trivial, ⟨rfl, rfl⟩, trivial, ⟨rfl, rfl⟩, trivial, trivial, ⟨rfl, rfl⟩, trivial, trivial, ⟨rfl, rfl⟩, ⟨rfl, rfl⟩, trivial⟩
theorem wk_35_3 : wk_l "TrailStore$Keeper" "makeCheckpoint" rt_35_3 := ⟨trivial, trivial, trivial, trivial, ⟨rfl, rfl⟩, ⟨rfl, rfl⟩, trivial, trivial, trivial, ⟨rfl, rfl⟩, trivial, ⟨rfl, rfl⟩, trivial, ⟨rfl, rfl⟩, ⟨rfl, rfl⟩, trivial, trivial⟩
theorem wk_35_4 : wk_l "TrailStore$Keeper" "makeCheckpoint" rt_35_4 := ⟨trivial, trivial, trivial, trivial, trivial, trivial, trivial, trivial, ⟨rfl, rfl⟩, ⟨rfl, rfl⟩, ⟨rfl, rfl⟩, trivial, ⟨rfl, rfl⟩, ⟨rfl, rfl⟩, trivial, ⟨rfl, rfl⟩, trivial⟩
theorem wk_35_5 : wk_l "TrailStore$Keeper" "makeCheckpoint" rt_35_5 := ⟨trivial, ⟨rfl, rfl⟩, ⟨rfl, rfl⟩, ⟨⟨rfl, rfl⟩, Or.inl rfl⟩, trivial, ⟨rfl, rfl⟩, trivial, ⟨rfl, rfl⟩, ⟨rfl, rfl⟩, ⟨⟨rfl, rfl⟩, Or.inl rfl⟩, trivial, ⟨rfl, rfl⟩, trivial, ⟨rfl, rfl⟩, ⟨rfl, rfl⟩, trivial, trivial⟩
theorem wk_35 : ∀ l ∈ rt_35, wk_l "TrailStore$Keeper" "makeCheckpoint" l := by
  intro l hl
  simp only [rt_35, List.mem_cons, List.not_mem_nil, or_false] at hl
  rcases hl with rfl | rfl | rfl | rfl | rfl | rfl
  · exact wk_35_0
  · exact wk_35_1
  · exact wk_35_2
  · exact wk_35_3
  · exact wk_35_4
  · exact wk_35_5
theorem dk_35_0 : (List.range 48).all (fun i => dk_i prog_6_method_7_code rt_35 (0 + i)) = true := by decide +kernel
theorem dk_35_1 : (List.range 48).all (fun i => dk_i prog_6_method_7_code rt_35 (48 + i)) = true := by decide +kernel
theorem dk_35 : ∀ i, i < 96 → dk_i prog_6_method_7_code rt_35 i = true := by
  intro i hi
  by_cases h0 : i < 48
  · have := List.all_eq_true.mp dk_35_0 (i - 0) (List.mem_range.mpr (by omega))
    rwa [show 0 + (i - 0) = i by omega] at this
  by_cases h1 : i < 96
  · have := List.all_eq_true.mp dk_35_1 (i - 48) (List.mem_range.mpr (by omega))
    rwa [show 48 + (i - 48) = i by omega] at this
  exact absurd hi (by omega)
theorem mk_35 : mk_m 35 := ⟨⟨rfl, rfl⟩, ⟨rfl, rfl⟩, by decide +kernel, ⟨⟨rfl, rfl⟩, ⟨rfl, rfl⟩⟩⟩
theorem wk_36_0 : wk_l "TrailStore$Keeper" "writeTable" rt_36_0 := ⟨trivial, ⟨rfl, rfl⟩, trivial, trivial, ⟨rfl, rfl⟩, trivial, trivial, trivial, ⟨rfl, rfl⟩, trivial, trivial, trivial, trivial, trivial, trivial, trivial, trivial⟩
theorem wk_36_1 : wk_l "TrailStore$Keeper" "writeTable" rt_36_1 := ⟨trivial, trivial, trivial, trivial, ⟨rfl, rfl⟩, trivial, trivial, trivial, trivial, ⟨rfl, rfl⟩, trivial, trivial, trivial, trivial, trivial, ⟨rfl, rfl⟩, trivial⟩
theorem wk_36_2 : wk_l "TrailStore$Keeper" "writeTable" rt_36_2 := ⟨trivial, trivial, trivial, trivial, ⟨rfl, rfl⟩, trivial, trivial, trivial, trivial, trivial, ⟨rfl, rfl⟩, trivial, trivial, trivial, trivial, ⟨rfl, rfl⟩, trivial⟩
theorem wk_36_3 : wk_l "TrailStore$Keeper" "writeTable" rt_36_3 := ⟨trivial, trivial, ⟨rfl, rfl⟩, trivial, ⟨rfl, rfl⟩, trivial, trivial, trivial, trivial, ⟨rfl, rfl⟩, trivial, trivial, ⟨rfl, rfl⟩, trivial, trivial, ⟨rfl, rfl⟩, trivial⟩
theorem wk_36_4 : wk_l "TrailStore$Keeper" "writeTable" rt_36_4 := ⟨trivial, trivial, trivial, trivial, trivial, trivial, ⟨rfl, rfl⟩, trivial, trivial, trivial, trivial, ⟨rfl, rfl⟩, trivial, trivial, trivial, trivial, trivial⟩
theorem wk_36_5 : wk_l "TrailStore$Keeper" "writeTable" rt_36_5 := ⟨trivial, ⟨rfl, rfl⟩, trivial, trivial, ⟨rfl, rfl⟩, trivial, trivial, trivial, ⟨rfl, rfl⟩, trivial, trivial, trivial, trivial, ⟨rfl, rfl⟩, trivial, trivial, trivial⟩
theorem wk_36_6 : wk_l "TrailStore$Keeper" "writeTable" rt_36_6 := ⟨⟨rfl, rfl⟩, ⟨rfl, rfl⟩, ⟨rfl, rfl⟩, trivial, ⟨rfl, rfl⟩, trivial, trivial, ⟨rfl, rfl⟩, trivial, ⟨rfl, rfl⟩, trivial, trivial, ⟨rfl, rfl⟩, ⟨rfl, rfl⟩, ⟨rfl, rfl⟩, trivial, trivial⟩
theorem wk_36_7 : wk_l "TrailStore$Keeper" "writeTable" rt_36_7 := ⟨⟨rfl, rfl⟩, trivial, trivial, ⟨rfl, rfl⟩, trivial, ⟨rfl, rfl⟩, trivial, ⟨rfl, rfl⟩, trivial, ⟨rfl, rfl⟩, trivial, trivial, ⟨rfl, rfl⟩, trivial, trivial, ⟨rfl, rfl⟩, trivial⟩
theorem wk_36_8 : wk_l "TrailStore$Keeper" "writeTable" rt_36_8 := ⟨trivial, trivial, trivial, trivial, ⟨⟨rfl, rfl⟩, Or.inl rfl⟩, trivial, ⟨rfl, rfl⟩, trivial, ⟨rfl, rfl⟩, trivial, trivial, ⟨⟨rfl, rfl⟩, Or.inl rfl⟩, trivial, ⟨rfl, rfl⟩, trivial, trivial, trivial⟩
theorem wk_36_9 : wk_l "TrailStore$Keeper" "writeTable" rt_36_9 := ⟨trivial, ⟨rfl, rfl⟩, trivial, trivial⟩
theorem wk_36 : ∀ l ∈ rt_36, wk_l "TrailStore$Keeper" "writeTable" l := by
  intro l hl
  simp only [rt_36, List.mem_cons, List.not_mem_nil, or_false] at hl
  rcases hl with rfl | rfl | rfl | rfl | rfl | rfl | rfl | rfl | rfl | rfl
  · exact wk_36_0
  · exact wk_36_1
  · exact wk_36_2
  · exact wk_36_3
  · exact wk_36_4
  · exact wk_36_5
  · exact wk_36_6
  · exact wk_36_7
  · exact wk_36_8
  · exact wk_36_9
theorem dk_36_0 : (List.range 48).all (fun i => dk_i prog_6_method_8_code rt_36 (0 + i)) = true := by decide +kernel
theorem dk_36_1 : (List.range 48).all (fun i => dk_i prog_6_method_8_code rt_36 (48 + i)) = true := by decide +kernel
theorem dk_36_2 : (List.range 48).all (fun i => dk_i prog_6_method_8_code rt_36 (96 + i)) = true := by decide +kernel
theorem dk_36_3 : (List.range 16).all (fun i => dk_i prog_6_method_8_code rt_36 (144 + i)) = true := by decide +kernel
theorem dk_36 : ∀ i, i < 160 → dk_i prog_6_method_8_code rt_36 i = true := by
  intro i hi
  by_cases h0 : i < 48
  · have := List.all_eq_true.mp dk_36_0 (i - 0) (List.mem_range.mpr (by omega))
    rwa [show 0 + (i - 0) = i by omega] at this
  by_cases h1 : i < 96
  · have := List.all_eq_true.mp dk_36_1 (i - 48) (List.mem_range.mpr (by omega))
    rwa [show 48 + (i - 48) = i by omega] at this
  by_cases h2 : i < 144
  · have := List.all_eq_true.mp dk_36_2 (i - 96) (List.mem_range.mpr (by omega))
    rwa [show 96 + (i - 96) = i by omega] at this
  by_cases h3 : i < 160
  · have := List.all_eq_true.mp dk_36_3 (i - 144) (List.mem_range.mpr (by omega))
    rwa [show 144 + (i - 144) = i by omega] at this
  exact absurd hi (by omega)
theorem mk_36 : mk_m 36 := ⟨⟨rfl, rfl⟩, ⟨rfl, rfl⟩, by decide +kernel, ⟨⟨rfl, rfl⟩, ⟨rfl, rfl⟩⟩⟩
theorem wk_37_0 : wk_l "TrailStore$Keeper" "leastFreePlace" rt_37_0 := ⟨trivial, trivial, trivial, trivial, trivial, trivial, ⟨rfl, rfl⟩, trivial, trivial, trivial, trivial, trivial, trivial, trivial, trivial, trivial, trivial⟩
theorem wk_37 : ∀ l ∈ rt_37, wk_l "TrailStore$Keeper" "leastFreePlace" l := by
  intro l hl
  simp only [rt_37, List.mem_cons, List.not_mem_nil, or_false] at hl
  subst hl
  exact wk_37_0
theorem dk_37_0 : (List.range 16).all (fun i => dk_i prog_6_method_9_code rt_37 (0 + i)) = true := by decide +kernel
theorem dk_37 : ∀ i, i < 16 → dk_i prog_6_method_9_code rt_37 i = true := by
  intro i hi
  by_cases h0 : i < 16
  · have := List.all_eq_true.mp dk_37_0 (i - 0) (List.mem_range.mpr (by omega))
    rwa [show 0 + (i - 0) = i by omega] at this
  exact absurd hi (by omega)
theorem mk_37 : mk_m 37 := ⟨⟨rfl, rfl⟩, ⟨rfl, rfl⟩, by decide +kernel, ⟨⟨rfl, rfl⟩, ⟨rfl, rfl⟩⟩⟩
theorem wk_38_0 : wk_l "TrailStore$Keeper" "writeRoot" rt_38_0 := ⟨trivial, ⟨rfl, rfl⟩, trivial, ⟨rfl, rfl⟩, trivial, trivial, ⟨⟨rfl, rfl⟩, Or.inl rfl⟩, trivial, trivial, trivial, trivial, trivial, trivial, ⟨rfl, rfl⟩, trivial, trivial, trivial⟩
theorem wk_38_1 : wk_l "TrailStore$Keeper" "writeRoot" rt_38_1 := ⟨trivial, trivial, trivial, trivial, ⟨rfl, rfl⟩, trivial, trivial, ⟨rfl, rfl⟩, ⟨rfl, rfl⟩, ⟨rfl, rfl⟩, trivial, ⟨rfl, rfl⟩, trivial, trivial, ⟨rfl, rfl⟩, ⟨rfl, rfl⟩, trivial⟩
theorem wk_38_2 : wk_l "TrailStore$Keeper" "writeRoot" rt_38_2 := ⟨⟨rfl, rfl⟩, trivial, ⟨rfl, rfl⟩, trivial, trivial, ⟨rfl, rfl⟩, ⟨rfl, rfl⟩, ⟨rfl, rfl⟩, trivial, ⟨rfl, rfl⟩, trivial, trivial, ⟨rfl, rfl⟩, ⟨rfl, rfl⟩, ⟨rfl, rfl⟩, trivial, trivial⟩
theorem wk_38_3 : wk_l "TrailStore$Keeper" "writeRoot" rt_38_3 := ⟨⟨rfl, rfl⟩, trivial, trivial, ⟨rfl, rfl⟩, ⟨rfl, rfl⟩, ⟨rfl, rfl⟩, trivial, ⟨rfl, rfl⟩, trivial, trivial, ⟨rfl, rfl⟩, ⟨rfl, rfl⟩, trivial, trivial, trivial, trivial, trivial⟩
theorem wk_38_4 : wk_l "TrailStore$Keeper" "writeRoot" rt_38_4 := ⟨trivial, trivial, ⟨rfl, rfl⟩, ⟨rfl, rfl⟩, trivial, trivial, ⟨rfl, rfl⟩, trivial, trivial, trivial, trivial, ⟨rfl, rfl⟩, ⟨rfl, rfl⟩, trivial, trivial, trivial, trivial⟩
theorem wk_38_5 : wk_l "TrailStore$Keeper" "writeRoot" rt_38_5 := ⟨trivial, trivial, trivial, trivial, ⟨rfl, rfl⟩, trivial, trivial, ⟨rfl, rfl⟩, ⟨rfl, rfl⟩, ⟨rfl, rfl⟩, trivial, ⟨rfl, rfl⟩, trivial, ⟨rfl, rfl⟩, ⟨rfl, rfl⟩, ⟨rfl, rfl⟩, trivial⟩
theorem wk_38_6 : wk_l "TrailStore$Keeper" "writeRoot" rt_38_6 := ⟨trivial, trivial, ⟨rfl, rfl⟩, trivial, trivial, trivial, trivial, ⟨rfl, rfl⟩, trivial, trivial, ⟨rfl, rfl⟩, trivial, ⟨rfl, rfl⟩, trivial, trivial, ⟨rfl, rfl⟩, trivial⟩
theorem wk_38_7 : wk_l "TrailStore$Keeper" "writeRoot" rt_38_7 := ⟨trivial, trivial, ⟨rfl, rfl⟩, trivial, ⟨rfl, rfl⟩, trivial, trivial, trivial, trivial, ⟨rfl, rfl⟩, trivial, trivial, ⟨rfl, rfl⟩, trivial, trivial⟩
theorem wk_38 : ∀ l ∈ rt_38, wk_l "TrailStore$Keeper" "writeRoot" l := by
  intro l hl
  simp only [rt_38, List.mem_cons, List.not_mem_nil, or_false] at hl
  rcases hl with rfl | rfl | rfl | rfl | rfl | rfl | rfl | rfl
  · exact wk_38_0
  · exact wk_38_1
  · exact wk_38_2
  · exact wk_38_3
  · exact wk_38_4
  · exact wk_38_5
  · exact wk_38_6
  · exact wk_38_7
theorem dk_38_0 : (List.range 48).all (fun i => dk_i prog_6_method_10_code rt_38 (0 + i)) = true := by decide +kernel
theorem dk_38_1 : (List.range 48).all (fun i => dk_i prog_6_method_10_code rt_38 (48 + i)) = true := by decide +kernel
theorem dk_38_2 : (List.range 32).all (fun i => dk_i prog_6_method_10_code rt_38 (96 + i)) = true := by decide +kernel
theorem dk_38 : ∀ i, i < 128 → dk_i prog_6_method_10_code rt_38 i = true := by
  intro i hi
  by_cases h0 : i < 48
  · have := List.all_eq_true.mp dk_38_0 (i - 0) (List.mem_range.mpr (by omega))
    rwa [show 0 + (i - 0) = i by omega] at this
  by_cases h1 : i < 96
  · have := List.all_eq_true.mp dk_38_1 (i - 48) (List.mem_range.mpr (by omega))
    rwa [show 48 + (i - 48) = i by omega] at this
  by_cases h2 : i < 128
  · have := List.all_eq_true.mp dk_38_2 (i - 96) (List.mem_range.mpr (by omega))
    rwa [show 96 + (i - 96) = i by omega] at this
  exact absurd hi (by omega)
theorem mk_38 : mk_m 38 := ⟨⟨rfl, rfl⟩, ⟨rfl, rfl⟩, by decide +kernel, ⟨⟨rfl, rfl⟩, ⟨rfl, rfl⟩⟩⟩
theorem wk_39_0 : wk_l "TrailStore$Keeper" "collectTail" rt_39_0 := ⟨trivial, ⟨rfl, rfl⟩, ⟨rfl, rfl⟩, trivial, ⟨rfl, rfl⟩, ⟨rfl, rfl⟩, trivial, trivial, ⟨rfl, rfl⟩, trivial, ⟨rfl, rfl⟩, ⟨rfl, rfl⟩, trivial, trivial, ⟨rfl, rfl⟩, ⟨rfl, rfl⟩, trivial⟩
theorem wk_39_1 : wk_l "TrailStore$Keeper" "collectTail" rt_39_1 := ⟨trivial, trivial, trivial, trivial, trivial, trivial, trivial, trivial, trivial, trivial, ⟨rfl, rfl⟩, ⟨rfl, rfl⟩, trivial, trivial, ⟨rfl, rfl⟩, trivial, trivial⟩
theorem wk_39_2 : wk_l "TrailStore$Keeper" "collectTail" rt_39_2 := ⟨trivial, trivial, ⟨rfl, rfl⟩, trivial, trivial, ⟨rfl, rfl⟩, trivial, ⟨rfl, rfl⟩, trivial, trivial, ⟨rfl, rfl⟩, trivial, trivial, ⟨rfl, rfl⟩, ⟨rfl, rfl⟩, trivial, trivial⟩
theorem wk_39_3 : wk_l "TrailStore$Keeper" "collectTail" rt_39_3 := ⟨⟨rfl, rfl⟩, ⟨rfl, rfl⟩, trivial, trivial, trivial, ⟨rfl, rfl⟩, ⟨rfl, rfl⟩, trivial, trivial, trivial, ⟨rfl, rfl⟩, ⟨rfl, rfl⟩, trivial, ⟨rfl, rfl⟩, trivial, trivial, trivial⟩
theorem wk_39_4 : wk_l "TrailStore$Keeper" "collectTail" rt_39_4 := ⟨⟨rfl, rfl⟩, ⟨rfl, rfl⟩, ⟨rfl, rfl⟩, trivial, trivial, trivial, trivial, trivial, trivial, trivial, trivial, trivial, trivial, ⟨rfl, rfl⟩, trivial, trivial, trivial⟩
theorem wk_39_5 : wk_l "TrailStore$Keeper" "collectTail" rt_39_5 := ⟨trivial, trivial, trivial, trivial, ⟨rfl, rfl⟩, trivial, ⟨rfl, rfl⟩, trivial, trivial, ⟨rfl, rfl⟩, ⟨rfl, rfl⟩, ⟨rfl, rfl⟩, trivial, trivial, trivial, trivial, trivial⟩
theorem wk_39_6 : wk_l "TrailStore$Keeper" "collectTail" rt_39_6 := ⟨trivial, trivial, trivial, ⟨rfl, rfl⟩, ⟨rfl, rfl⟩, trivial, ⟨rfl, rfl⟩, trivial, ⟨⟨rfl, rfl⟩, Or.inl rfl⟩, trivial, trivial, trivial, ⟨rfl, rfl⟩, trivial, ⟨rfl, rfl⟩, ⟨rfl, rfl⟩, trivial⟩
theorem wk_39_7 : wk_l "TrailStore$Keeper" "collectTail" rt_39_7 := ⟨trivial, trivial, trivial⟩
theorem wk_39 : ∀ l ∈ rt_39, wk_l "TrailStore$Keeper" "collectTail" l := by
  intro l hl
  simp only [rt_39, List.mem_cons, List.not_mem_nil, or_false] at hl
  rcases hl with rfl | rfl | rfl | rfl | rfl | rfl | rfl | rfl
  · exact wk_39_0
  · exact wk_39_1
  · exact wk_39_2
  · exact wk_39_3
  · exact wk_39_4
  · exact wk_39_5
  · exact wk_39_6
  · exact wk_39_7
theorem dk_39_0 : (List.range 48).all (fun i => dk_i prog_6_method_11_code rt_39 (0 + i)) = true := by decide +kernel
theorem dk_39_1 : (List.range 48).all (fun i => dk_i prog_6_method_11_code rt_39 (48 + i)) = true := by decide +kernel
theorem dk_39_2 : (List.range 32).all (fun i => dk_i prog_6_method_11_code rt_39 (96 + i)) = true := by decide +kernel
theorem dk_39 : ∀ i, i < 128 → dk_i prog_6_method_11_code rt_39 i = true := by
  intro i hi
  by_cases h0 : i < 48
  · have := List.all_eq_true.mp dk_39_0 (i - 0) (List.mem_range.mpr (by omega))
    rwa [show 0 + (i - 0) = i by omega] at this
  by_cases h1 : i < 96
  · have := List.all_eq_true.mp dk_39_1 (i - 48) (List.mem_range.mpr (by omega))
    rwa [show 48 + (i - 48) = i by omega] at this
  by_cases h2 : i < 128
  · have := List.all_eq_true.mp dk_39_2 (i - 96) (List.mem_range.mpr (by omega))
    rwa [show 96 + (i - 96) = i by omega] at this
  exact absurd hi (by omega)
theorem mk_39 : mk_m 39 := ⟨⟨rfl, rfl⟩, ⟨rfl, rfl⟩, by decide +kernel, ⟨⟨rfl, rfl⟩, ⟨rfl, rfl⟩⟩⟩
theorem wk_40_0 : wk_l "TrailStore$Keeper" "setNumber" rt_40_0 := ⟨trivial, trivial, trivial, trivial, trivial, trivial, trivial, trivial, trivial, trivial, trivial, trivial, trivial, trivial, trivial, trivial, trivial⟩
theorem wk_40_1 : wk_l "TrailStore$Keeper" "setNumber" rt_40_1 := ⟨trivial, trivial, trivial, trivial, trivial, trivial, trivial, trivial, trivial, trivial, trivial, trivial, trivial, trivial, trivial, trivial, trivial⟩
theorem wk_40_2 : wk_l "TrailStore$Keeper" "setNumber" rt_40_2 := ⟨trivial, trivial⟩
theorem wk_40 : ∀ l ∈ rt_40, wk_l "TrailStore$Keeper" "setNumber" l := by
  intro l hl
  simp only [rt_40, List.mem_cons, List.not_mem_nil, or_false] at hl
  rcases hl with rfl | rfl | rfl
  · exact wk_40_0
  · exact wk_40_1
  · exact wk_40_2
theorem dk_40_0 : (List.range 48).all (fun i => dk_i prog_6_method_12_code rt_40 (0 + i)) = true := by decide +kernel
theorem dk_40 : ∀ i, i < 48 → dk_i prog_6_method_12_code rt_40 i = true := by
  intro i hi
  by_cases h0 : i < 48
  · have := List.all_eq_true.mp dk_40_0 (i - 0) (List.mem_range.mpr (by omega))
    rwa [show 0 + (i - 0) = i by omega] at this
  exact absurd hi (by omega)
theorem mk_40 : mk_m 40 := ⟨⟨rfl, rfl⟩, ⟨rfl, rfl⟩, by decide +kernel, ⟨rfl, rfl⟩⟩
theorem wk_41_0 : wk_l "TrailStore$View" "<init>" rt_41_0 := ⟨trivial, ⟨rfl, rfl⟩, trivial, ⟨⟨rfl, rfl⟩, ⟨rfl, rfl⟩, ⟨rfl, rfl⟩⟩, trivial, ⟨rfl, rfl⟩, ⟨⟨rfl, rfl⟩, Or.inr ⟨rfl, rfl, rfl⟩⟩, trivial, trivial, trivial, ⟨⟨rfl, rfl⟩, Or.inr ⟨rfl, rfl, rfl⟩⟩, trivial, trivial, ⟨⟨rfl, rfl⟩, Or.inr ⟨rfl, rfl, rfl⟩⟩, trivial, trivial⟩
theorem wk_41 : ∀ l ∈ rt_41, wk_l "TrailStore$View" "<init>" l := by
  intro l hl
  simp only [rt_41, List.mem_cons, List.not_mem_nil, or_false] at hl
  subst hl
  exact wk_41_0
theorem dk_41_0 : (List.range 16).all (fun i => dk_i prog_7_method_1_code rt_41 (0 + i)) = true := by decide +kernel
theorem dk_41 : ∀ i, i < 16 → dk_i prog_7_method_1_code rt_41 i = true := by
  intro i hi
  by_cases h0 : i < 16
  · have := List.all_eq_true.mp dk_41_0 (i - 0) (List.mem_range.mpr (by omega))
    rwa [show 0 + (i - 0) = i by omega] at this
  exact absurd hi (by omega)
theorem mk_41 : mk_m 41 := ⟨⟨rfl, rfl⟩, ⟨rfl, rfl⟩, by decide +kernel, ⟨⟨rfl, rfl⟩, rfl, rfl⟩⟩
theorem wk_42_0 : wk_l "TrailStore$View" "load" rt_42_0 := ⟨trivial, ⟨rfl, rfl⟩, trivial, ⟨rfl, rfl⟩, ⟨rfl, rfl⟩, trivial, trivial, ⟨rfl, rfl⟩, ⟨⟨rfl, rfl⟩, Or.inl rfl⟩, trivial, trivial, ⟨rfl, rfl⟩, ⟨⟨rfl, rfl⟩, Or.inl rfl⟩, trivial, ⟨rfl, rfl⟩, trivial, trivial⟩
theorem wk_42_1 : wk_l "TrailStore$View" "load" rt_42_1 := ⟨trivial, ⟨rfl, rfl⟩, trivial, trivial, ⟨rfl, rfl⟩, trivial, trivial, trivial, trivial, trivial, ⟨rfl, rfl⟩, ⟨rfl, rfl⟩, trivial, trivial, trivial, trivial, trivial⟩
theorem wk_42_2 : wk_l "TrailStore$View" "load" rt_42_2 := ⟨⟨rfl, rfl⟩, trivial, trivial, trivial, ⟨rfl, rfl⟩, trivial, ⟨rfl, rfl⟩, trivial, trivial, trivial, trivial, ⟨rfl, rfl⟩, trivial, trivial, ⟨rfl, rfl⟩, ⟨rfl, rfl⟩, trivial⟩
theorem wk_42_3 : wk_l "TrailStore$View" "load" rt_42_3 := ⟨trivial, trivial, trivial, trivial, trivial, ⟨rfl, rfl⟩, trivial, ⟨rfl, rfl⟩, trivial, trivial, trivial, trivial, trivial, trivial, trivial, trivial, trivial⟩
theorem wk_42_4 : wk_l "TrailStore$View" "load" rt_42_4 := ⟨trivial, trivial, trivial, trivial, trivial, trivial, ⟨rfl, rfl⟩, trivial, trivial, trivial, ⟨rfl, rfl⟩, trivial, trivial, trivial, trivial⟩
theorem wk_42 : ∀ l ∈ rt_42, wk_l "TrailStore$View" "load" l := by
  intro l hl
  simp only [rt_42, List.mem_cons, List.not_mem_nil, or_false] at hl
  rcases hl with rfl | rfl | rfl | rfl | rfl
  · exact wk_42_0
  · exact wk_42_1
  · exact wk_42_2
  · exact wk_42_3
  · exact wk_42_4
theorem dk_42_0 : (List.range 48).all (fun i => dk_i prog_7_method_2_code rt_42 (0 + i)) = true := by decide +kernel
theorem dk_42_1 : (List.range 32).all (fun i => dk_i prog_7_method_2_code rt_42 (48 + i)) = true := by decide +kernel
theorem dk_42 : ∀ i, i < 80 → dk_i prog_7_method_2_code rt_42 i = true := by
  intro i hi
  by_cases h0 : i < 48
  · have := List.all_eq_true.mp dk_42_0 (i - 0) (List.mem_range.mpr (by omega))
    rwa [show 0 + (i - 0) = i by omega] at this
  by_cases h1 : i < 80
  · have := List.all_eq_true.mp dk_42_1 (i - 48) (List.mem_range.mpr (by omega))
    rwa [show 48 + (i - 48) = i by omega] at this
  exact absurd hi (by omega)
theorem mk_42 : mk_m 42 := ⟨⟨rfl, rfl⟩, ⟨rfl, rfl⟩, by decide +kernel, ⟨⟨rfl, rfl⟩, ⟨rfl, rfl⟩⟩⟩
theorem wk_43_0 : wk_l "TrailStore$View" "loadRoot" rt_43_0 := ⟨trivial, trivial, ⟨⟨rfl, rfl⟩, Or.inl rfl⟩, trivial, trivial, ⟨⟨rfl, rfl⟩, Or.inl rfl⟩, trivial, trivial, ⟨⟨rfl, rfl⟩, Or.inl rfl⟩, trivial, trivial, ⟨⟨rfl, rfl⟩, Or.inl rfl⟩, trivial, trivial, ⟨⟨rfl, rfl⟩, Or.inl rfl⟩, trivial, trivial⟩
theorem wk_43_1 : wk_l "TrailStore$View" "loadRoot" rt_43_1 := ⟨trivial, ⟨⟨rfl, rfl⟩, Or.inl rfl⟩, trivial, trivial, trivial, trivial, trivial, trivial, ⟨rfl, rfl⟩, trivial, ⟨rfl, rfl⟩, trivial, trivial, ⟨rfl, rfl⟩, trivial, ⟨rfl, rfl⟩, trivial⟩
theorem wk_43_2 : wk_l "TrailStore$View" "loadRoot" rt_43_2 := ⟨trivial, trivial, trivial, ⟨rfl, rfl⟩, trivial, trivial, trivial, ⟨rfl, rfl⟩, trivial, trivial, trivial, ⟨rfl, rfl⟩, trivial, trivial, trivial, ⟨rfl, rfl⟩, trivial⟩
theorem wk_43_3 : wk_l "TrailStore$View" "loadRoot" rt_43_3 := ⟨trivial, trivial, trivial, trivial⟩
theorem wk_43 : ∀ l ∈ rt_43, wk_l "TrailStore$View" "loadRoot" l := by
  intro l hl
  simp only [rt_43, List.mem_cons, List.not_mem_nil, or_false] at hl
  rcases hl with rfl | rfl | rfl | rfl
  · exact wk_43_0
  · exact wk_43_1
  · exact wk_43_2
  · exact wk_43_3
theorem dk_43_0 : (List.range 48).all (fun i => dk_i prog_7_method_3_code rt_43 (0 + i)) = true := by decide +kernel
theorem dk_43_1 : (List.range 16).all (fun i => dk_i prog_7_method_3_code rt_43 (48 + i)) = true := by decide +kernel
theorem dk_43 : ∀ i, i < 64 → dk_i prog_7_method_3_code rt_43 i = true := by
  intro i hi
  by_cases h0 : i < 48
  · have := List.all_eq_true.mp dk_43_0 (i - 0) (List.mem_range.mpr (by omega))
    rwa [show 0 + (i - 0) = i by omega] at this
  by_cases h1 : i < 64
  · have := List.all_eq_true.mp dk_43_1 (i - 48) (List.mem_range.mpr (by omega))
    rwa [show 48 + (i - 48) = i by omega] at this
  exact absurd hi (by omega)
theorem mk_43 : mk_m 43 := ⟨⟨rfl, rfl⟩, ⟨rfl, rfl⟩, by decide +kernel, ⟨⟨rfl, rfl⟩, ⟨rfl, rfl⟩⟩⟩
theorem wk_44_0 : wk_l "TrailStore$View" "loadRootAt" rt_44_0 := ⟨trivial, trivial, ⟨rfl, rfl⟩, trivial, ⟨rfl, rfl⟩, ⟨⟨rfl, rfl⟩, Or.inl rfl⟩, trivial, trivial, ⟨rfl, rfl⟩, trivial, trivial, trivial, ⟨rfl, rfl⟩, ⟨⟨rfl, rfl⟩, Or.inl rfl⟩, trivial, trivial, trivial⟩
theorem wk_44_1 : wk_l "TrailStore$View" "loadRootAt" rt_44_1 := ⟨⟨rfl, rfl⟩, trivial, trivial, trivial, ⟨rfl, rfl⟩, ⟨⟨rfl, rfl⟩, Or.inl rfl⟩, trivial, trivial, ⟨rfl, rfl⟩, trivial, trivial, trivial, ⟨rfl, rfl⟩, ⟨⟨rfl, rfl⟩, Or.inl rfl⟩, trivial, trivial, trivial⟩
theorem wk_44_2 : wk_l "TrailStore$View" "loadRootAt" rt_44_2 := ⟨⟨rfl, rfl⟩, trivial, trivial, trivial, ⟨rfl, rfl⟩, ⟨⟨rfl, rfl⟩, Or.inl rfl⟩, trivial, trivial, ⟨rfl, rfl⟩, trivial, trivial, trivial, ⟨rfl, rfl⟩, trivial, ⟨rfl, rfl⟩, ⟨⟨rfl, rfl⟩, Or.inl rfl⟩, trivial⟩
theorem wk_44_3 : wk_l "TrailStore$View" "loadRootAt" rt_44_3 := ⟨trivial, trivial, trivial, trivial, ⟨rfl, rfl⟩, trivial, trivial, ⟨rfl, rfl⟩, trivial, trivial, ⟨rfl, rfl⟩, trivial, trivial, trivial, trivial, trivial, trivial⟩
theorem wk_44_4 : wk_l "TrailStore$View" "loadRootAt" rt_44_4 := ⟨⟨rfl, rfl⟩, trivial, trivial, trivial, trivial, trivial⟩
theorem wk_44 : ∀ l ∈ rt_44, wk_l "TrailStore$View" "loadRootAt" l := by
  intro l hl
  simp only [rt_44, List.mem_cons, List.not_mem_nil, or_false] at hl
  rcases hl with rfl | rfl | rfl | rfl | rfl
  · exact wk_44_0
  · exact wk_44_1
  · exact wk_44_2
  · exact wk_44_3
  · exact wk_44_4
theorem dk_44_0 : (List.range 48).all (fun i => dk_i prog_7_method_4_code rt_44 (0 + i)) = true := by decide +kernel
theorem dk_44_1 : (List.range 32).all (fun i => dk_i prog_7_method_4_code rt_44 (48 + i)) = true := by decide +kernel
theorem dk_44 : ∀ i, i < 80 → dk_i prog_7_method_4_code rt_44 i = true := by
  intro i hi
  by_cases h0 : i < 48
  · have := List.all_eq_true.mp dk_44_0 (i - 0) (List.mem_range.mpr (by omega))
    rwa [show 0 + (i - 0) = i by omega] at this
  by_cases h1 : i < 80
  · have := List.all_eq_true.mp dk_44_1 (i - 48) (List.mem_range.mpr (by omega))
    rwa [show 48 + (i - 48) = i by omega] at this
  exact absurd hi (by omega)
theorem mk_44 : mk_m 44 := ⟨⟨rfl, rfl⟩, ⟨rfl, rfl⟩, by decide +kernel, ⟨⟨rfl, rfl⟩, ⟨rfl, rfl⟩⟩⟩
theorem wk_45_0 : wk_l "TrailStore$View" "isRecord" rt_45_0 := ⟨trivial, ⟨rfl, rfl⟩, trivial, ⟨rfl, rfl⟩, trivial, trivial, trivial, trivial, ⟨rfl, rfl⟩, trivial, trivial, trivial, ⟨rfl, rfl⟩, trivial, trivial, trivial, trivial⟩
theorem wk_45_1 : wk_l "TrailStore$View" "isRecord" rt_45_1 := ⟨trivial, trivial, trivial, trivial, trivial, trivial, trivial, trivial, trivial, trivial, trivial, trivial, trivial, trivial, trivial, trivial, trivial⟩
theorem wk_45_2 : wk_l "TrailStore$View" "isRecord" rt_45_2 := ⟨⟨rfl, rfl⟩, trivial, trivial, trivial, ⟨rfl, rfl⟩, rfl, trivial, trivial, ⟨rfl, rfl⟩, trivial, trivial, trivial, ⟨rfl, rfl⟩, trivial, trivial, ⟨rfl, rfl⟩, trivial⟩
theorem wk_45_3 : wk_l "TrailStore$View" "isRecord" rt_45_3 := ⟨trivial, trivial, trivial, ⟨rfl, rfl⟩, trivial, trivial, trivial, ⟨rfl, rfl⟩, trivial, trivial, trivial, ⟨rfl, rfl⟩, trivial, trivial, trivial, trivial, trivial⟩
theorem wk_45_4 : wk_l "TrailStore$View" "isRecord" rt_45_4 := ⟨trivial, trivial, trivial⟩
theorem wk_45 : ∀ l ∈ rt_45, wk_l "TrailStore$View" "isRecord" l := by
  intro l hl
  simp only [rt_45, List.mem_cons, List.not_mem_nil, or_false] at hl
  rcases hl with rfl | rfl | rfl | rfl | rfl
  · exact wk_45_0
  · exact wk_45_1
  · exact wk_45_2
  · exact wk_45_3
  · exact wk_45_4
theorem dk_45_0 : (List.range 48).all (fun i => dk_i prog_7_method_5_code rt_45 (0 + i)) = true := by decide +kernel
theorem dk_45_1 : (List.range 32).all (fun i => dk_i prog_7_method_5_code rt_45 (48 + i)) = true := by decide +kernel
theorem dk_45 : ∀ i, i < 80 → dk_i prog_7_method_5_code rt_45 i = true := by
  intro i hi
  by_cases h0 : i < 48
  · have := List.all_eq_true.mp dk_45_0 (i - 0) (List.mem_range.mpr (by omega))
    rwa [show 0 + (i - 0) = i by omega] at this
  by_cases h1 : i < 80
  · have := List.all_eq_true.mp dk_45_1 (i - 48) (List.mem_range.mpr (by omega))
    rwa [show 48 + (i - 48) = i by omega] at this
  exact absurd hi (by omega)
theorem mk_45 : mk_m 45 := ⟨⟨rfl, rfl⟩, ⟨rfl, rfl⟩, by decide +kernel, ⟨⟨rfl, rfl⟩, ⟨rfl, rfl⟩⟩⟩
theorem wk_46_0 : wk_l "TrailStore$View" "takeRecordsBefore" rt_46_0 := ⟨trivial, ⟨rfl, rfl⟩, trivial, trivial, trivial, trivial, trivial, ⟨rfl, rfl⟩, trivial, ⟨rfl, rfl⟩, ⟨rfl, rfl⟩, trivial, trivial, trivial, trivial, ⟨rfl, rfl⟩, trivial⟩
theorem wk_46_1 : wk_l "TrailStore$View" "takeRecordsBefore" rt_46_1 := ⟨trivial, ⟨rfl, rfl⟩, trivial, ⟨rfl, rfl⟩, trivial, trivial, ⟨rfl, rfl⟩, trivial, trivial, trivial, ⟨rfl, rfl⟩, ⟨rfl, rfl⟩, trivial, trivial, ⟨rfl, rfl⟩, trivial, trivial⟩
theorem wk_46_2 : wk_l "TrailStore$View" "takeRecordsBefore" rt_46_2 := ⟨⟨rfl, rfl⟩, trivial, ⟨rfl, rfl⟩, ⟨rfl, rfl⟩, trivial, ⟨⟨rfl, rfl⟩, Or.inl rfl⟩, trivial, trivial, trivial, trivial, ⟨⟨rfl, rfl⟩, Or.inl rfl⟩, trivial, trivial⟩
theorem wk_46 : ∀ l ∈ rt_46, wk_l "TrailStore$View" "takeRecordsBefore" l := by
  intro l hl
  simp only [rt_46, List.mem_cons, List.not_mem_nil, or_false] at hl
  rcases hl with rfl | rfl | rfl
  · exact wk_46_0
  · exact wk_46_1
  · exact wk_46_2
theorem dk_46_0 : (List.range 48).all (fun i => dk_i prog_7_method_6_code rt_46 (0 + i)) = true := by decide +kernel
theorem dk_46 : ∀ i, i < 48 → dk_i prog_7_method_6_code rt_46 i = true := by
  intro i hi
  by_cases h0 : i < 48
  · have := List.all_eq_true.mp dk_46_0 (i - 0) (List.mem_range.mpr (by omega))
    rwa [show 0 + (i - 0) = i by omega] at this
  exact absurd hi (by omega)
theorem mk_46 : mk_m 46 := ⟨⟨rfl, rfl⟩, ⟨rfl, rfl⟩, by decide +kernel, ⟨⟨rfl, rfl⟩, ⟨rfl, rfl⟩⟩⟩
theorem wk_47_0 : wk_l "TrailStore$View" "tableStart" rt_47_0 := ⟨trivial, ⟨rfl, rfl⟩, trivial, ⟨rfl, rfl⟩, trivial, trivial, ⟨rfl, rfl⟩, trivial, trivial⟩
theorem wk_47 : ∀ l ∈ rt_47, wk_l "TrailStore$View" "tableStart" l := by
  intro l hl
  simp only [rt_47, List.mem_cons, List.not_mem_nil, or_false] at hl
  subst hl
  exact wk_47_0
theorem dk_47_0 : (List.range 16).all (fun i => dk_i prog_7_method_7_code rt_47 (0 + i)) = true := by decide +kernel
theorem dk_47 : ∀ i, i < 16 → dk_i prog_7_method_7_code rt_47 i = true := by
  intro i hi
  by_cases h0 : i < 16
  · have := List.all_eq_true.mp dk_47_0 (i - 0) (List.mem_range.mpr (by omega))
    rwa [show 0 + (i - 0) = i by omega] at this
  exact absurd hi (by omega)
theorem mk_47 : mk_m 47 := ⟨⟨rfl, rfl⟩, ⟨rfl, rfl⟩, by decide +kernel, ⟨⟨rfl, rfl⟩, ⟨rfl, rfl⟩⟩⟩
theorem wk_48_0 : wk_l "TrailStore$View" "placesInUse" rt_48_0 := ⟨trivial, trivial, trivial, trivial, trivial, trivial, ⟨rfl, rfl⟩, trivial, trivial, trivial, trivial, ⟨rfl, rfl⟩, trivial, trivial, trivial, trivial, trivial⟩
theorem wk_48_1 : wk_l "TrailStore$View" "placesInUse" rt_48_1 := ⟨trivial, trivial, trivial, trivial, trivial, trivial⟩
theorem wk_48 : ∀ l ∈ rt_48, wk_l "TrailStore$View" "placesInUse" l := by
  intro l hl
  simp only [rt_48, List.mem_cons, List.not_mem_nil, or_false] at hl
  rcases hl with rfl | rfl
  · exact wk_48_0
  · exact wk_48_1
theorem dk_48_0 : (List.range 32).all (fun i => dk_i prog_7_method_8_code rt_48 (0 + i)) = true := by decide +kernel
theorem dk_48 : ∀ i, i < 32 → dk_i prog_7_method_8_code rt_48 i = true := by
  intro i hi
  by_cases h0 : i < 32
  · have := List.all_eq_true.mp dk_48_0 (i - 0) (List.mem_range.mpr (by omega))
    rwa [show 0 + (i - 0) = i by omega] at this
  exact absurd hi (by omega)
theorem mk_48 : mk_m 48 := ⟨⟨rfl, rfl⟩, ⟨rfl, rfl⟩, by decide +kernel, ⟨⟨rfl, rfl⟩, ⟨rfl, rfl⟩⟩⟩
theorem wk_49_0 : wk_l "TrailStore$View" "tablesUpTo" rt_49_0 := ⟨trivial, trivial, trivial, trivial, ⟨rfl, rfl⟩, trivial, trivial, ⟨rfl, rfl⟩, trivial, trivial, ⟨rfl, rfl⟩, trivial, trivial, ⟨rfl, rfl⟩, trivial, trivial, trivial⟩
theorem wk_49_1 : wk_l "TrailStore$View" "tablesUpTo" rt_49_1 := ⟨trivial, trivial, trivial, trivial, trivial⟩
theorem wk_49 : ∀ l ∈ rt_49, wk_l "TrailStore$View" "tablesUpTo" l := by
  intro l hl
  simp only [rt_49, List.mem_cons, List.not_mem_nil, or_false] at hl
  rcases hl with rfl | rfl
  · exact wk_49_0
  · exact wk_49_1
theorem dk_49_0 : (List.range 32).all (fun i => dk_i prog_7_method_9_code rt_49 (0 + i)) = true := by decide +kernel
theorem dk_49 : ∀ i, i < 32 → dk_i prog_7_method_9_code rt_49 i = true := by
  intro i hi
  by_cases h0 : i < 32
  · have := List.all_eq_true.mp dk_49_0 (i - 0) (List.mem_range.mpr (by omega))
    rwa [show 0 + (i - 0) = i by omega] at this
  exact absurd hi (by omega)
theorem mk_49 : mk_m 49 := ⟨⟨rfl, rfl⟩, ⟨rfl, rfl⟩, by decide +kernel, ⟨⟨rfl, rfl⟩, ⟨rfl, rfl⟩⟩⟩
theorem wk_50_0 : wk_l "TrailStore$View" "find" rt_50_0 := ⟨trivial, ⟨rfl, rfl⟩, trivial, ⟨rfl, rfl⟩, trivial, ⟨rfl, rfl⟩, trivial, trivial, trivial, ⟨rfl, rfl⟩, ⟨rfl, rfl⟩, trivial, trivial, ⟨⟨rfl, rfl⟩, Or.inl rfl⟩, trivial, trivial, trivial⟩
theorem wk_50_1 : wk_l "TrailStore$View" "find" rt_50_1 := ⟨⟨rfl, rfl⟩, ⟨rfl, rfl⟩, trivial, trivial, ⟨⟨rfl, rfl⟩, Or.inl rfl⟩, trivial, trivial, ⟨rfl, rfl⟩, ⟨rfl, rfl⟩, trivial, trivial, ⟨⟨rfl, rfl⟩, Or.inl rfl⟩, trivial, trivial, ⟨⟨rfl, rfl⟩, Or.inl rfl⟩, trivial, trivial⟩
theorem wk_50_2 : wk_l "TrailStore$View" "find" rt_50_2 := ⟨trivial, rfl, trivial, trivial, trivial, trivial, ⟨rfl, rfl⟩, trivial, trivial⟩
theorem wk_50 : ∀ l ∈ rt_50, wk_l "TrailStore$View" "find" l := by
  intro l hl
  simp only [rt_50, List.mem_cons, List.not_mem_nil, or_false] at hl
  rcases hl with rfl | rfl | rfl
  · exact wk_50_0
  · exact wk_50_1
  · exact wk_50_2
theorem dk_50_0 : (List.range 48).all (fun i => dk_i prog_7_method_10_code rt_50 (0 + i)) = true := by decide +kernel
theorem dk_50 : ∀ i, i < 48 → dk_i prog_7_method_10_code rt_50 i = true := by
  intro i hi
  by_cases h0 : i < 48
  · have := List.all_eq_true.mp dk_50_0 (i - 0) (List.mem_range.mpr (by omega))
    rwa [show 0 + (i - 0) = i by omega] at this
  exact absurd hi (by omega)
theorem mk_50 : mk_m 50 := ⟨⟨rfl, rfl⟩, ⟨rfl, rfl⟩, by decide +kernel, ⟨⟨rfl, rfl⟩, ⟨rfl, rfl⟩⟩⟩
theorem wk_51_0 : wk_l "TrailStore$View" "findInTables" rt_51_0 := ⟨trivial, ⟨rfl, rfl⟩, trivial, trivial, trivial, trivial, trivial, ⟨rfl, rfl⟩, trivial, trivial, ⟨rfl, rfl⟩, trivial, trivial, trivial, ⟨rfl, rfl⟩, trivial, trivial⟩
theorem wk_51_1 : wk_l "TrailStore$View" "findInTables" rt_51_1 := ⟨trivial, ⟨rfl, rfl⟩, trivial, trivial, trivial, ⟨rfl, rfl⟩, trivial, trivial, trivial, trivial, trivial, trivial, ⟨rfl, rfl⟩, trivial, trivial, ⟨⟨rfl, rfl⟩, Or.inl rfl⟩, trivial⟩
theorem wk_51_2 : wk_l "TrailStore$View" "findInTables" rt_51_2 := ⟨trivial, trivial, trivial, ⟨rfl, rfl⟩, trivial, trivial, ⟨⟨rfl, rfl⟩, Or.inl rfl⟩, trivial, trivial, trivial, ⟨rfl, rfl⟩, trivial, trivial, trivial, trivial, trivial, trivial⟩
theorem wk_51_3 : wk_l "TrailStore$View" "findInTables" rt_51_3 := ⟨trivial, ⟨rfl, rfl⟩, trivial, trivial, trivial, ⟨rfl, rfl⟩, ⟨⟨rfl, rfl⟩, Or.inl rfl⟩, trivial, trivial, ⟨rfl, rfl⟩, trivial, trivial, trivial, ⟨rfl, rfl⟩, ⟨⟨rfl, rfl⟩, Or.inl rfl⟩, trivial, trivial⟩
theorem wk_51_4 : wk_l "TrailStore$View" "findInTables" rt_51_4 := ⟨trivial, ⟨rfl, rfl⟩, trivial, trivial, trivial, ⟨rfl, rfl⟩, ⟨⟨rfl, rfl⟩, Or.inl rfl⟩, trivial, trivial, trivial, trivial⟩
theorem wk_51 : ∀ l ∈ rt_51, wk_l "TrailStore$View" "findInTables" l := by
  intro l hl
  simp only [rt_51, List.mem_cons, List.not_mem_nil, or_false] at hl
  rcases hl with rfl | rfl | rfl | rfl | rfl
  · exact wk_51_0
  · exact wk_51_1
  · exact wk_51_2
  · exact wk_51_3
  · exact wk_51_4
theorem dk_51_0 : (List.range 48).all (fun i => dk_i prog_7_method_11_code rt_51 (0 + i)) = true := by decide +kernel
theorem dk_51_1 : (List.range 32).all (fun i => dk_i prog_7_method_11_code rt_51 (48 + i)) = true := by decide +kernel
theorem dk_51 : ∀ i, i < 80 → dk_i prog_7_method_11_code rt_51 i = true := by
  intro i hi
  by_cases h0 : i < 48
  · have := List.all_eq_true.mp dk_51_0 (i - 0) (List.mem_range.mpr (by omega))
    rwa [show 0 + (i - 0) = i by omega] at this
  by_cases h1 : i < 80
  · have := List.all_eq_true.mp dk_51_1 (i - 48) (List.mem_range.mpr (by omega))
    rwa [show 48 + (i - 48) = i by omega] at this
  exact absurd hi (by omega)
theorem mk_51 : mk_m 51 := ⟨⟨rfl, rfl⟩, ⟨rfl, rfl⟩, by decide +kernel, ⟨⟨rfl, rfl⟩, ⟨rfl, rfl⟩⟩⟩
theorem wk_52_0 : wk_l "TrailStore$View" "entryCell" rt_52_0 := ⟨trivial, trivial, trivial, ⟨rfl, rfl⟩, trivial, trivial, trivial, ⟨rfl, rfl⟩, trivial, trivial, trivial, trivial, trivial, trivial, trivial, trivial, trivial⟩
theorem wk_52_1 : wk_l "TrailStore$View" "entryCell" rt_52_1 := ⟨trivial, trivial, trivial, trivial, trivial, trivial, trivial, trivial, trivial, trivial, trivial, trivial, trivial, trivial, trivial, trivial, trivial⟩
theorem wk_52_2 : wk_l "TrailStore$View" "entryCell" rt_52_2 := ⟨trivial, trivial, ⟨rfl, rfl⟩, trivial, ⟨rfl, rfl⟩, trivial, trivial, trivial, trivial, trivial, trivial, trivial, trivial, trivial, trivial, trivial, trivial⟩
theorem wk_52_3 : wk_l "TrailStore$View" "entryCell" rt_52_3 := ⟨trivial, trivial, trivial, trivial, trivial, trivial, trivial, trivial, trivial, trivial, trivial, trivial⟩
theorem wk_52 : ∀ l ∈ rt_52, wk_l "TrailStore$View" "entryCell" l := by
  intro l hl
  simp only [rt_52, List.mem_cons, List.not_mem_nil, or_false] at hl
  rcases hl with rfl | rfl | rfl | rfl
  · exact wk_52_0
  · exact wk_52_1
  · exact wk_52_2
  · exact wk_52_3
theorem dk_52_0 : (List.range 48).all (fun i => dk_i prog_7_method_12_code rt_52 (0 + i)) = true := by decide +kernel
theorem dk_52_1 : (List.range 16).all (fun i => dk_i prog_7_method_12_code rt_52 (48 + i)) = true := by decide +kernel
theorem dk_52 : ∀ i, i < 64 → dk_i prog_7_method_12_code rt_52 i = true := by
  intro i hi
  by_cases h0 : i < 48
  · have := List.all_eq_true.mp dk_52_0 (i - 0) (List.mem_range.mpr (by omega))
    rwa [show 0 + (i - 0) = i by omega] at this
  by_cases h1 : i < 64
  · have := List.all_eq_true.mp dk_52_1 (i - 48) (List.mem_range.mpr (by omega))
    rwa [show 48 + (i - 48) = i by omega] at this
  exact absurd hi (by omega)
theorem mk_52 : mk_m 52 := ⟨⟨rfl, rfl⟩, ⟨rfl, rfl⟩, by decide +kernel, ⟨⟨rfl, rfl⟩, ⟨rfl, rfl⟩⟩⟩
theorem wk_53_0 : wk_l "TrailStore$View" "filterBits" rt_53_0 := ⟨trivial, trivial, trivial, trivial, trivial, trivial, trivial, trivial, trivial, trivial, trivial, trivial, trivial, trivial, trivial, trivial, trivial⟩
theorem wk_53_1 : wk_l "TrailStore$View" "filterBits" rt_53_1 := ⟨trivial, trivial, trivial⟩
theorem wk_53 : ∀ l ∈ rt_53, wk_l "TrailStore$View" "filterBits" l := by
  intro l hl
  simp only [rt_53, List.mem_cons, List.not_mem_nil, or_false] at hl
  rcases hl with rfl | rfl
  · exact wk_53_0
  · exact wk_53_1
theorem dk_53_0 : (List.range 32).all (fun i => dk_i prog_7_method_13_code rt_53 (0 + i)) = true := by decide +kernel
theorem dk_53 : ∀ i, i < 32 → dk_i prog_7_method_13_code rt_53 i = true := by
  intro i hi
  by_cases h0 : i < 32
  · have := List.all_eq_true.mp dk_53_0 (i - 0) (List.mem_range.mpr (by omega))
    rwa [show 0 + (i - 0) = i by omega] at this
  exact absurd hi (by omega)
theorem mk_53 : mk_m 53 := ⟨⟨rfl, rfl⟩, ⟨rfl, rfl⟩, by decide +kernel, ⟨rfl, rfl⟩⟩
theorem wk_54_0 : wk_l "TrailStore$View" "gatherAll" rt_54_0 := ⟨trivial, trivial, ⟨rfl, rfl⟩, trivial, ⟨rfl, rfl⟩, trivial, trivial, trivial, trivial, trivial, trivial, ⟨rfl, rfl⟩, ⟨rfl, rfl⟩, trivial, trivial, trivial, trivial⟩
theorem wk_54_1 : wk_l "TrailStore$View" "gatherAll" rt_54_1 := ⟨trivial, trivial, trivial, ⟨rfl, rfl⟩, ⟨rfl, rfl⟩, trivial, trivial, trivial, ⟨rfl, rfl⟩, ⟨rfl, rfl⟩, trivial, trivial, trivial, ⟨rfl, rfl⟩, ⟨rfl, rfl⟩, trivial, trivial⟩
theorem wk_54_2 : wk_l "TrailStore$View" "gatherAll" rt_54_2 := ⟨trivial, ⟨rfl, rfl⟩, trivial, trivial, trivial, trivial⟩
theorem wk_54 : ∀ l ∈ rt_54, wk_l "TrailStore$View" "gatherAll" l := by
  intro l hl
  simp only [rt_54, List.mem_cons, List.not_mem_nil, or_false] at hl
  rcases hl with rfl | rfl | rfl
  · exact wk_54_0
  · exact wk_54_1
  · exact wk_54_2
theorem dk_54_0 : (List.range 48).all (fun i => dk_i prog_7_method_14_code rt_54 (0 + i)) = true := by decide +kernel
theorem dk_54 : ∀ i, i < 48 → dk_i prog_7_method_14_code rt_54 i = true := by
  intro i hi
  by_cases h0 : i < 48
  · have := List.all_eq_true.mp dk_54_0 (i - 0) (List.mem_range.mpr (by omega))
    rwa [show 0 + (i - 0) = i by omega] at this
  exact absurd hi (by omega)
theorem mk_54 : mk_m 54 := ⟨⟨rfl, rfl⟩, ⟨rfl, rfl⟩, by decide +kernel, ⟨⟨rfl, rfl⟩, ⟨rfl, rfl⟩⟩⟩
theorem wk_55_0 : wk_l "TrailStore$View" "gatherTables" rt_55_0 := ⟨trivial, ⟨rfl, rfl⟩, trivial, trivial, trivial, trivial, trivial, trivial, trivial, trivial, ⟨rfl, rfl⟩, trivial, trivial, ⟨rfl, rfl⟩, trivial, trivial, trivial⟩
theorem wk_55_1 : wk_l "TrailStore$View" "gatherTables" rt_55_1 := ⟨trivial, ⟨rfl, rfl⟩, trivial, trivial, trivial, trivial, trivial, trivial, trivial, trivial, trivial, trivial, trivial, trivial, trivial, trivial, trivial⟩
theorem wk_55_2 : wk_l "TrailStore$View" "gatherTables" rt_55_2 := ⟨trivial, trivial, ⟨rfl, rfl⟩, trivial, ⟨rfl, rfl⟩, trivial, ⟨rfl, rfl⟩, trivial, trivial, trivial, ⟨rfl, rfl⟩, trivial, ⟨rfl, rfl⟩, trivial, trivial, trivial, trivial⟩
theorem wk_55_3 : wk_l "TrailStore$View" "gatherTables" rt_55_3 := ⟨⟨rfl, rfl⟩, trivial, ⟨rfl, rfl⟩, trivial, trivial, trivial, ⟨rfl, rfl⟩, ⟨rfl, rfl⟩, trivial, trivial, trivial, trivial, trivial, trivial⟩
theorem wk_55 : ∀ l ∈ rt_55, wk_l "TrailStore$View" "gatherTables" l := by
  intro l hl
  simp only [rt_55, List.mem_cons, List.not_mem_nil, or_false] at hl
  rcases hl with rfl | rfl | rfl | rfl
  · exact wk_55_0
  · exact wk_55_1
  · exact wk_55_2
  · exact wk_55_3
theorem dk_55_0 : (List.range 48).all (fun i => dk_i prog_7_method_15_code rt_55 (0 + i)) = true := by decide +kernel
theorem dk_55_1 : (List.range 16).all (fun i => dk_i prog_7_method_15_code rt_55 (48 + i)) = true := by decide +kernel
theorem dk_55 : ∀ i, i < 64 → dk_i prog_7_method_15_code rt_55 i = true := by
  intro i hi
  by_cases h0 : i < 48
  · have := List.all_eq_true.mp dk_55_0 (i - 0) (List.mem_range.mpr (by omega))
    rwa [show 0 + (i - 0) = i by omega] at this
  by_cases h1 : i < 64
  · have := List.all_eq_true.mp dk_55_1 (i - 48) (List.mem_range.mpr (by omega))
    rwa [show 48 + (i - 48) = i by omega] at this
  exact absurd hi (by omega)
theorem mk_55 : mk_m 55 := ⟨⟨rfl, rfl⟩, ⟨rfl, rfl⟩, by decide +kernel, ⟨⟨rfl, rfl⟩, ⟨rfl, rfl⟩⟩⟩
theorem wk_56_0 : wk_l "TrailStore$View" "replaceNewest" rt_56_0 := ⟨trivial, ⟨rfl, rfl⟩, trivial, trivial, trivial, trivial, trivial, trivial, trivial, trivial, trivial, trivial, trivial, trivial, trivial, trivial, trivial⟩
theorem wk_56_1 : wk_l "TrailStore$View" "replaceNewest" rt_56_1 := ⟨trivial, ⟨rfl, rfl⟩, trivial, trivial, trivial, trivial, ⟨rfl, rfl⟩, trivial, trivial, ⟨rfl, rfl⟩, trivial, trivial, ⟨rfl, rfl⟩, trivial, trivial, trivial, trivial⟩
theorem wk_56_2 : wk_l "TrailStore$View" "replaceNewest" rt_56_2 := ⟨⟨rfl, rfl⟩, trivial, trivial, trivial, trivial, trivial, trivial, trivial, ⟨⟨rfl, rfl⟩, Or.inl rfl⟩, trivial, trivial⟩
theorem wk_56 : ∀ l ∈ rt_56, wk_l "TrailStore$View" "replaceNewest" l := by
  intro l hl
  simp only [rt_56, List.mem_cons, List.not_mem_nil, or_false] at hl
  rcases hl with rfl | rfl | rfl
  · exact wk_56_0
  · exact wk_56_1
  · exact wk_56_2
theorem dk_56_0 : (List.range 48).all (fun i => dk_i prog_7_method_16_code rt_56 (0 + i)) = true := by decide +kernel
theorem dk_56 : ∀ i, i < 48 → dk_i prog_7_method_16_code rt_56 i = true := by
  intro i hi
  by_cases h0 : i < 48
  · have := List.all_eq_true.mp dk_56_0 (i - 0) (List.mem_range.mpr (by omega))
    rwa [show 0 + (i - 0) = i by omega] at this
  exact absurd hi (by omega)
theorem mk_56 : mk_m 56 := ⟨⟨rfl, rfl⟩, ⟨rfl, rfl⟩, by decide +kernel, ⟨⟨rfl, rfl⟩, ⟨rfl, rfl⟩⟩⟩
theorem wk_57_0 : wk_l "TrailStore" "<init>" rt_57_0 := ⟨trivial, ⟨rfl, rfl⟩, trivial, ⟨⟨rfl, rfl⟩, ⟨rfl, rfl⟩, ⟨rfl, rfl⟩⟩, trivial, trivial, trivial, trivial, ⟨rfl, rfl⟩, ⟨rfl, rfl⟩, ⟨rfl, rfl⟩, ⟨⟨rfl, rfl⟩, Or.inr ⟨rfl, rfl, rfl⟩⟩, trivial, ⟨⟨rfl, rfl⟩, ⟨rfl, rfl⟩, ⟨rfl, rfl⟩⟩, trivial, trivial, trivial⟩
theorem wk_57_1 : wk_l "TrailStore" "<init>" rt_57_1 := ⟨⟨rfl, rfl⟩, ⟨rfl, rfl⟩, ⟨⟨rfl, rfl⟩, Or.inr ⟨rfl, rfl, rfl⟩⟩, trivial, ⟨⟨rfl, rfl⟩, ⟨rfl, rfl⟩, ⟨rfl, rfl⟩⟩, trivial, trivial, ⟨rfl, rfl⟩, trivial, ⟨rfl, rfl⟩, ⟨rfl, rfl⟩, ⟨⟨rfl, rfl⟩, Or.inr ⟨rfl, rfl, rfl⟩⟩, trivial, ⟨⟨rfl, rfl⟩, ⟨rfl, rfl⟩, ⟨rfl, rfl⟩⟩, trivial, trivial, trivial⟩
theorem wk_57_2 : wk_l "TrailStore" "<init>" rt_57_2 := ⟨⟨rfl, rfl⟩, ⟨rfl, rfl⟩, ⟨⟨rfl, rfl⟩, Or.inr ⟨rfl, rfl, rfl⟩⟩, trivial, ⟨⟨rfl, rfl⟩, ⟨rfl, rfl⟩, ⟨rfl, rfl⟩⟩, trivial, ⟨rfl, rfl⟩, ⟨⟨rfl, rfl⟩, Or.inr ⟨rfl, rfl, rfl⟩⟩, trivial, ⟨⟨rfl, rfl⟩, ⟨rfl, rfl⟩, ⟨rfl, rfl⟩⟩, trivial, ⟨rfl, rfl⟩, ⟨⟨rfl, rfl⟩, Or.inr ⟨rfl, rfl, rfl⟩⟩, trivial, ⟨⟨rfl, rfl⟩, ⟨rfl, rfl⟩, ⟨rfl, rfl⟩⟩, trivial, trivial⟩
theorem wk_57_3 : wk_l "TrailStore" "<init>" rt_57_3 := ⟨⟨rfl, rfl⟩, ⟨⟨rfl, rfl⟩, Or.inr ⟨rfl, rfl, rfl⟩⟩, trivial, trivial, trivial, ⟨⟨rfl, rfl⟩, Or.inr ⟨rfl, rfl, rfl⟩⟩, trivial, trivial, trivial, ⟨⟨rfl, rfl⟩, Or.inr ⟨rfl, rfl, rfl⟩⟩, trivial, ⟨⟨rfl, rfl⟩, ⟨rfl, rfl⟩, ⟨rfl, rfl⟩⟩, trivial, ⟨rfl, rfl⟩, ⟨⟨rfl, rfl⟩, Or.inr ⟨rfl, rfl, rfl⟩⟩, trivial, trivial⟩
theorem wk_57_4 : wk_l "TrailStore" "<init>" rt_57_4 := ⟨⟨⟨rfl, rfl⟩, ⟨rfl, rfl⟩, ⟨rfl, rfl⟩⟩, trivial, ⟨rfl, rfl⟩, ⟨⟨rfl, rfl⟩, Or.inr ⟨rfl, rfl, rfl⟩⟩, trivial, ⟨rfl, rfl⟩, ⟨rfl, rfl⟩, trivial, trivial, trivial⟩
theorem wk_57 : ∀ l ∈ rt_57, wk_l "TrailStore" "<init>" l := by
  intro l hl
  simp only [rt_57, List.mem_cons, List.not_mem_nil, or_false] at hl
  rcases hl with rfl | rfl | rfl | rfl | rfl
  · exact wk_57_0
  · exact wk_57_1
  · exact wk_57_2
  · exact wk_57_3
  · exact wk_57_4
theorem dk_57_0 : (List.range 48).all (fun i => dk_i prog_1_method_1_code rt_57 (0 + i)) = true := by decide +kernel
theorem dk_57_1 : (List.range 32).all (fun i => dk_i prog_1_method_1_code rt_57 (48 + i)) = true := by decide +kernel
theorem dk_57 : ∀ i, i < 80 → dk_i prog_1_method_1_code rt_57 i = true := by
  intro i hi
  by_cases h0 : i < 48
  · have := List.all_eq_true.mp dk_57_0 (i - 0) (List.mem_range.mpr (by omega))
    rwa [show 0 + (i - 0) = i by omega] at this
  by_cases h1 : i < 80
  · have := List.all_eq_true.mp dk_57_1 (i - 48) (List.mem_range.mpr (by omega))
    rwa [show 48 + (i - 48) = i by omega] at this
  exact absurd hi (by omega)
theorem mk_57 : mk_m 57 := ⟨⟨rfl, rfl⟩, ⟨rfl, rfl⟩, by decide +kernel, ⟨⟨rfl, rfl⟩, rfl, rfl⟩⟩
theorem wk_58_0 : wk_l "TrailStore" "type" rt_58_0 := ⟨trivial, ⟨rfl, rfl⟩, ⟨rfl, rfl⟩, trivial, trivial, trivial, trivial, trivial, trivial, trivial, trivial, trivial, trivial, ⟨rfl, rfl⟩, trivial, trivial, trivial⟩
theorem wk_58_1 : wk_l "TrailStore" "type" rt_58_1 := ⟨trivial, trivial, trivial, trivial, trivial, trivial, trivial, trivial, trivial, trivial, trivial, ⟨rfl, rfl⟩, trivial, ⟨rfl, rfl⟩, trivial, trivial, trivial⟩
theorem wk_58_2 : wk_l "TrailStore" "type" rt_58_2 := ⟨trivial, trivial, trivial, trivial, trivial, trivial, trivial, trivial, ⟨rfl, rfl⟩, trivial, trivial, ⟨⟨rfl, rfl⟩, Or.inl rfl⟩, trivial, trivial, trivial, ⟨rfl, rfl⟩, trivial⟩
theorem wk_58_3 : wk_l "TrailStore" "type" rt_58_3 := ⟨trivial, trivial⟩
theorem wk_58 : ∀ l ∈ rt_58, wk_l "TrailStore" "type" l := by
  intro l hl
  simp only [rt_58, List.mem_cons, List.not_mem_nil, or_false] at hl
  rcases hl with rfl | rfl | rfl | rfl
  · exact wk_58_0
  · exact wk_58_1
  · exact wk_58_2
  · exact wk_58_3
theorem dk_58_0 : (List.range 48).all (fun i => dk_i prog_1_method_2_code rt_58 (0 + i)) = true := by decide +kernel
theorem dk_58_1 : (List.range 16).all (fun i => dk_i prog_1_method_2_code rt_58 (48 + i)) = true := by decide +kernel
theorem dk_58 : ∀ i, i < 64 → dk_i prog_1_method_2_code rt_58 i = true := by
  intro i hi
  by_cases h0 : i < 48
  · have := List.all_eq_true.mp dk_58_0 (i - 0) (List.mem_range.mpr (by omega))
    rwa [show 0 + (i - 0) = i by omega] at this
  by_cases h1 : i < 64
  · have := List.all_eq_true.mp dk_58_1 (i - 48) (List.mem_range.mpr (by omega))
    rwa [show 48 + (i - 48) = i by omega] at this
  exact absurd hi (by omega)
theorem mk_58 : mk_m 58 := ⟨⟨rfl, rfl⟩, ⟨rfl, rfl⟩, by decide +kernel, ⟨⟨rfl, rfl⟩, ⟨rfl, rfl⟩⟩⟩
theorem wk_59_0 : wk_l "TrailStore" "put" rt_59_0 := ⟨trivial, ⟨rfl, rfl⟩, ⟨rfl, rfl⟩, trivial, trivial, trivial, trivial, ⟨rfl, rfl⟩, trivial, trivial, ⟨rfl, rfl⟩, ⟨rfl, rfl⟩, trivial, trivial, trivial, trivial, trivial⟩
theorem wk_59_1 : wk_l "TrailStore" "put" rt_59_1 := ⟨trivial, ⟨rfl, rfl⟩, trivial, trivial, trivial, ⟨rfl, rfl⟩, trivial, ⟨rfl, rfl⟩, ⟨rfl, rfl⟩, trivial, trivial, ⟨⟨rfl, rfl⟩, Or.inl rfl⟩, trivial, ⟨rfl, rfl⟩, trivial, trivial, trivial⟩
theorem wk_59_2 : wk_l "TrailStore" "put" rt_59_2 := ⟨⟨rfl, rfl⟩, ⟨rfl, rfl⟩, trivial, trivial, trivial, ⟨rfl, rfl⟩, trivial, ⟨rfl, rfl⟩, ⟨rfl, rfl⟩, ⟨rfl, rfl⟩, trivial, trivial⟩
theorem wk_59 : ∀ l ∈ rt_59, wk_l "TrailStore" "put" l := by
  intro l hl
  simp only [rt_59, List.mem_cons, List.not_mem_nil, or_false] at hl
  rcases hl with rfl | rfl | rfl
  · exact wk_59_0
  · exact wk_59_1
  · exact wk_59_2
theorem dk_59_0 : (List.range 48).all (fun i => dk_i prog_1_method_3_code rt_59 (0 + i)) = true := by decide +kernel
theorem dk_59 : ∀ i, i < 48 → dk_i prog_1_method_3_code rt_59 i = true := by
  intro i hi
  by_cases h0 : i < 48
  · have := List.all_eq_true.mp dk_59_0 (i - 0) (List.mem_range.mpr (by omega))
    rwa [show 0 + (i - 0) = i by omega] at this
  exact absurd hi (by omega)
theorem mk_59 : mk_m 59 := ⟨⟨rfl, rfl⟩, ⟨rfl, rfl⟩, by decide +kernel, ⟨⟨rfl, rfl⟩, ⟨rfl, rfl⟩⟩⟩
theorem wk_60_0 : wk_l "TrailStore" "remove" rt_60_0 := ⟨trivial, ⟨rfl, rfl⟩, ⟨rfl, rfl⟩, trivial, trivial, trivial, trivial, ⟨rfl, rfl⟩, trivial, trivial, ⟨rfl, rfl⟩, ⟨rfl, rfl⟩, trivial, trivial, trivial, trivial, trivial⟩
theorem wk_60_1 : wk_l "TrailStore" "remove" rt_60_1 := ⟨trivial, ⟨rfl, rfl⟩, trivial, trivial, trivial, ⟨rfl, rfl⟩, trivial, trivial, trivial, trivial, ⟨rfl, rfl⟩, trivial, trivial, trivial, ⟨rfl, rfl⟩, trivial, trivial⟩
theorem wk_60_2 : wk_l "TrailStore" "remove" rt_60_2 := ⟨⟨rfl, rfl⟩, trivial, ⟨rfl, rfl⟩, trivial, trivial, ⟨rfl, rfl⟩, ⟨rfl, rfl⟩, trivial, trivial, trivial, ⟨rfl, rfl⟩, trivial, ⟨rfl, rfl⟩, ⟨rfl, rfl⟩, ⟨rfl, rfl⟩, trivial, trivial⟩
theorem wk_60 : ∀ l ∈ rt_60, wk_l "TrailStore" "remove" l := by
  intro l hl
  simp only [rt_60, List.mem_cons, List.not_mem_nil, or_false] at hl
  rcases hl with rfl | rfl | rfl
  · exact wk_60_0
  · exact wk_60_1
  · exact wk_60_2
theorem dk_60_0 : (List.range 48).all (fun i => dk_i prog_1_method_4_code rt_60 (0 + i)) = true := by decide +kernel
theorem dk_60 : ∀ i, i < 48 → dk_i prog_1_method_4_code rt_60 i = true := by
  intro i hi
  by_cases h0 : i < 48
  · have := List.all_eq_true.mp dk_60_0 (i - 0) (List.mem_range.mpr (by omega))
    rwa [show 0 + (i - 0) = i by omega] at this
  exact absurd hi (by omega)
theorem mk_60 : mk_m 60 := ⟨⟨rfl, rfl⟩, ⟨rfl, rfl⟩, by decide +kernel, ⟨⟨rfl, rfl⟩, ⟨rfl, rfl⟩⟩⟩
theorem wk_61_0 : wk_l "TrailStore" "begin" rt_61_0 := ⟨trivial, ⟨rfl, rfl⟩, ⟨rfl, rfl⟩, trivial, trivial, trivial, trivial, ⟨rfl, rfl⟩, trivial, trivial, trivial, trivial, trivial, ⟨⟨rfl, rfl⟩, Or.inl rfl⟩, trivial, trivial, trivial⟩
theorem wk_61 : ∀ l ∈ rt_61, wk_l "TrailStore" "begin" l := by
  intro l hl
  simp only [rt_61, List.mem_cons, List.not_mem_nil, or_false] at hl
  subst hl
  exact wk_61_0
theorem dk_61_0 : (List.range 16).all (fun i => dk_i prog_1_method_5_code rt_61 (0 + i)) = true := by decide +kernel
theorem dk_61 : ∀ i, i < 16 → dk_i prog_1_method_5_code rt_61 i = true := by
  intro i hi
  by_cases h0 : i < 16
  · have := List.all_eq_true.mp dk_61_0 (i - 0) (List.mem_range.mpr (by omega))
    rwa [show 0 + (i - 0) = i by omega] at this
  exact absurd hi (by omega)
theorem mk_61 : mk_m 61 := ⟨⟨rfl, rfl⟩, ⟨rfl, rfl⟩, by decide +kernel, ⟨⟨rfl, rfl⟩, ⟨rfl, rfl⟩⟩⟩
theorem wk_62_0 : wk_l "TrailStore" "commit" rt_62_0 := ⟨trivial, ⟨rfl, rfl⟩, ⟨rfl, rfl⟩, trivial, trivial, trivial, trivial, ⟨rfl, rfl⟩, ⟨rfl, rfl⟩, trivial, trivial, trivial, ⟨rfl, rfl⟩, trivial, trivial, trivial, trivial⟩
theorem wk_62_1 : wk_l "TrailStore" "commit" rt_62_1 := ⟨⟨rfl, rfl⟩, trivial, ⟨rfl, rfl⟩, ⟨rfl, rfl⟩, ⟨rfl, rfl⟩, trivial, trivial⟩
theorem wk_62 : ∀ l ∈ rt_62, wk_l "TrailStore" "commit" l := by
  intro l hl
  simp only [rt_62, List.mem_cons, List.not_mem_nil, or_false] at hl
  rcases hl with rfl | rfl
  · exact wk_62_0
  · exact wk_62_1
theorem dk_62_0 : (List.range 32).all (fun i => dk_i prog_1_method_6_code rt_62 (0 + i)) = true := by decide +kernel
theorem dk_62 : ∀ i, i < 32 → dk_i prog_1_method_6_code rt_62 i = true := by
  intro i hi
  by_cases h0 : i < 32
  · have := List.all_eq_true.mp dk_62_0 (i - 0) (List.mem_range.mpr (by omega))
    rwa [show 0 + (i - 0) = i by omega] at this
  exact absurd hi (by omega)
theorem mk_62 : mk_m 62 := ⟨⟨rfl, rfl⟩, ⟨rfl, rfl⟩, by decide +kernel, ⟨⟨rfl, rfl⟩, ⟨rfl, rfl⟩⟩⟩
theorem wk_63_0 : wk_l "TrailStore" "cancel" rt_63_0 := ⟨trivial, ⟨rfl, rfl⟩, ⟨rfl, rfl⟩, trivial, trivial, trivial, trivial, trivial, ⟨rfl, rfl⟩, trivial, trivial, ⟨rfl, rfl⟩, ⟨rfl, rfl⟩, trivial, trivial, ⟨rfl, rfl⟩, trivial⟩
theorem wk_63_1 : wk_l "TrailStore" "cancel" rt_63_1 := ⟨trivial, trivial⟩
theorem wk_63 : ∀ l ∈ rt_63, wk_l "TrailStore" "cancel" l := by
  intro l hl
  simp only [rt_63, List.mem_cons, List.not_mem_nil, or_false] at hl
  rcases hl with rfl | rfl
  · exact wk_63_0
  · exact wk_63_1
theorem dk_63_0 : (List.range 32).all (fun i => dk_i prog_1_method_7_code rt_63 (0 + i)) = true := by decide +kernel
theorem dk_63 : ∀ i, i < 32 → dk_i prog_1_method_7_code rt_63 i = true := by
  intro i hi
  by_cases h0 : i < 32
  · have := List.all_eq_true.mp dk_63_0 (i - 0) (List.mem_range.mpr (by omega))
    rwa [show 0 + (i - 0) = i by omega] at this
  exact absurd hi (by omega)
theorem mk_63 : mk_m 63 := ⟨⟨rfl, rfl⟩, ⟨rfl, rfl⟩, by decide +kernel, ⟨⟨rfl, rfl⟩, ⟨rfl, rfl⟩⟩⟩
theorem wk_64_0 : wk_l "TrailStore" "get" rt_64_0 := ⟨trivial, ⟨rfl, rfl⟩, ⟨rfl, rfl⟩, trivial, trivial, trivial, trivial, trivial, ⟨⟨rfl, rfl⟩, Or.inl rfl⟩, trivial, ⟨rfl, rfl⟩, trivial, trivial, ⟨rfl, rfl⟩, ⟨rfl, rfl⟩, trivial, trivial⟩
theorem wk_64_1 : wk_l "TrailStore" "get" rt_64_1 := ⟨⟨rfl, rfl⟩, ⟨rfl, rfl⟩, trivial, trivial, trivial, trivial, trivial, trivial, ⟨rfl, rfl⟩, trivial, ⟨rfl, rfl⟩, ⟨rfl, rfl⟩, trivial, ⟨rfl, rfl⟩, ⟨rfl, rfl⟩, ⟨⟨rfl, rfl⟩, Or.inl rfl⟩, trivial⟩
theorem wk_64_2 : wk_l "TrailStore" "get" rt_64_2 := ⟨trivial, ⟨rfl, rfl⟩, trivial, trivial⟩
theorem wk_64 : ∀ l ∈ rt_64, wk_l "TrailStore" "get" l := by
  intro l hl
  simp only [rt_64, List.mem_cons, List.not_mem_nil, or_false] at hl
  rcases hl with rfl | rfl | rfl
  · exact wk_64_0
  · exact wk_64_1
  · exact wk_64_2
theorem dk_64_0 : (List.range 48).all (fun i => dk_i prog_1_method_8_code rt_64 (0 + i)) = true := by decide +kernel
theorem dk_64 : ∀ i, i < 48 → dk_i prog_1_method_8_code rt_64 i = true := by
  intro i hi
  by_cases h0 : i < 48
  · have := List.all_eq_true.mp dk_64_0 (i - 0) (List.mem_range.mpr (by omega))
    rwa [show 0 + (i - 0) = i by omega] at this
  exact absurd hi (by omega)
theorem mk_64 : mk_m 64 := ⟨⟨rfl, rfl⟩, ⟨rfl, rfl⟩, by decide +kernel, ⟨⟨rfl, rfl⟩, ⟨rfl, rfl⟩⟩⟩
theorem wk_65_0 : wk_l "TrailStore" "read" rt_65_0 := ⟨trivial, trivial, trivial, trivial, ⟨rfl, rfl⟩, trivial, trivial, trivial, trivial, ⟨rfl, rfl⟩, trivial, trivial, trivial, trivial, trivial, trivial⟩
theorem wk_65 : ∀ l ∈ rt_65, wk_l "TrailStore" "read" l := by
  intro l hl
  simp only [rt_65, List.mem_cons, List.not_mem_nil, or_false] at hl
  subst hl
  exact wk_65_0
theorem dk_65_0 : (List.range 16).all (fun i => dk_i prog_1_method_9_code rt_65 (0 + i)) = true := by decide +kernel
theorem dk_65 : ∀ i, i < 16 → dk_i prog_1_method_9_code rt_65 i = true := by
  intro i hi
  by_cases h0 : i < 16
  · have := List.all_eq_true.mp dk_65_0 (i - 0) (List.mem_range.mpr (by omega))
    rwa [show 0 + (i - 0) = i by omega] at this
  exact absurd hi (by omega)
theorem mk_65 : mk_m 65 := ⟨⟨rfl, rfl⟩, ⟨rfl, rfl⟩, by decide +kernel, ⟨⟨rfl, rfl⟩, ⟨rfl, rfl⟩⟩⟩
theorem wk_66_0 : wk_l "TrailStore" "next" rt_66_0 := ⟨trivial, ⟨rfl, rfl⟩, ⟨rfl, rfl⟩, trivial, trivial, trivial, trivial, ⟨rfl, rfl⟩, trivial, ⟨rfl, rfl⟩, ⟨rfl, rfl⟩, trivial, trivial, ⟨rfl, rfl⟩, trivial, trivial, trivial⟩
theorem wk_66_1 : wk_l "TrailStore" "next" rt_66_1 := ⟨trivial, trivial, trivial, ⟨rfl, rfl⟩, ⟨rfl, rfl⟩, trivial, trivial, trivial, trivial, trivial, trivial, trivial, trivial, trivial, trivial, trivial⟩
theorem wk_66 : ∀ l ∈ rt_66, wk_l "TrailStore" "next" l := by
  intro l hl
  simp only [rt_66, List.mem_cons, List.not_mem_nil, or_false] at hl
  rcases hl with rfl | rfl
  · exact wk_66_0
  · exact wk_66_1
theorem dk_66_0 : (List.range 32).all (fun i => dk_i prog_1_method_10_code rt_66 (0 + i)) = true := by decide +kernel
theorem dk_66 : ∀ i, i < 32 → dk_i prog_1_method_10_code rt_66 i = true := by
  intro i hi
  by_cases h0 : i < 32
  · have := List.all_eq_true.mp dk_66_0 (i - 0) (List.mem_range.mpr (by omega))
    rwa [show 0 + (i - 0) = i by omega] at this
  exact absurd hi (by omega)
theorem mk_66 : mk_m 66 := ⟨⟨rfl, rfl⟩, ⟨rfl, rfl⟩, by decide +kernel, ⟨⟨rfl, rfl⟩, ⟨rfl, rfl⟩⟩⟩
theorem wk_67_0 : wk_l "TrailStore" "sync" rt_67_0 := ⟨trivial, ⟨rfl, rfl⟩, ⟨rfl, rfl⟩, trivial, trivial, trivial, trivial, ⟨rfl, rfl⟩, ⟨rfl, rfl⟩, trivial, trivial, ⟨rfl, rfl⟩, ⟨rfl, rfl⟩, trivial, trivial, trivial⟩
theorem wk_67 : ∀ l ∈ rt_67, wk_l "TrailStore" "sync" l := by
  intro l hl
  simp only [rt_67, List.mem_cons, List.not_mem_nil, or_false] at hl
  subst hl
  exact wk_67_0
theorem dk_67_0 : (List.range 16).all (fun i => dk_i prog_1_method_11_code rt_67 (0 + i)) = true := by decide +kernel
theorem dk_67 : ∀ i, i < 16 → dk_i prog_1_method_11_code rt_67 i = true := by
  intro i hi
  by_cases h0 : i < 16
  · have := List.all_eq_true.mp dk_67_0 (i - 0) (List.mem_range.mpr (by omega))
    rwa [show 0 + (i - 0) = i by omega] at this
  exact absurd hi (by omega)
theorem mk_67 : mk_m 67 := ⟨⟨rfl, rfl⟩, ⟨rfl, rfl⟩, by decide +kernel, ⟨⟨rfl, rfl⟩, ⟨rfl, rfl⟩⟩⟩
theorem wk_68_0 : wk_l "TrailStore" "checkpoint" rt_68_0 := ⟨trivial, ⟨rfl, rfl⟩, ⟨rfl, rfl⟩, trivial, trivial, trivial, trivial, ⟨rfl, rfl⟩, ⟨rfl, rfl⟩, trivial, trivial, ⟨rfl, rfl⟩, ⟨rfl, rfl⟩, ⟨rfl, rfl⟩, trivial, trivial⟩
theorem wk_68 : ∀ l ∈ rt_68, wk_l "TrailStore" "checkpoint" l := by
  intro l hl
  simp only [rt_68, List.mem_cons, List.not_mem_nil, or_false] at hl
  subst hl
  exact wk_68_0
theorem dk_68_0 : (List.range 16).all (fun i => dk_i prog_1_method_12_code rt_68 (0 + i)) = true := by decide +kernel
theorem dk_68 : ∀ i, i < 16 → dk_i prog_1_method_12_code rt_68 i = true := by
  intro i hi
  by_cases h0 : i < 16
  · have := List.all_eq_true.mp dk_68_0 (i - 0) (List.mem_range.mpr (by omega))
    rwa [show 0 + (i - 0) = i by omega] at this
  exact absurd hi (by omega)
theorem mk_68 : mk_m 68 := ⟨⟨rfl, rfl⟩, ⟨rfl, rfl⟩, by decide +kernel, ⟨⟨rfl, rfl⟩, ⟨rfl, rfl⟩⟩⟩
theorem wk_69_0 : wk_l "TrailStore" "collect" rt_69_0 := ⟨trivial, ⟨rfl, rfl⟩, ⟨rfl, rfl⟩, trivial, trivial, trivial, trivial, trivial, trivial, trivial, trivial, trivial, trivial, trivial, trivial, trivial, trivial⟩
theorem wk_69_1 : wk_l "TrailStore" "collect" rt_69_1 := ⟨⟨rfl, rfl⟩, trivial, ⟨rfl, rfl⟩, ⟨rfl, rfl⟩, trivial, trivial⟩
theorem wk_69 : ∀ l ∈ rt_69, wk_l "TrailStore" "collect" l := by
  intro l hl
  simp only [rt_69, List.mem_cons, List.not_mem_nil, or_false] at hl
  rcases hl with rfl | rfl
  · exact wk_69_0
  · exact wk_69_1
theorem dk_69_0 : (List.range 32).all (fun i => dk_i prog_1_method_13_code rt_69 (0 + i)) = true := by decide +kernel
theorem dk_69 : ∀ i, i < 32 → dk_i prog_1_method_13_code rt_69 i = true := by
  intro i hi
  by_cases h0 : i < 32
  · have := List.all_eq_true.mp dk_69_0 (i - 0) (List.mem_range.mpr (by omega))
    rwa [show 0 + (i - 0) = i by omega] at this
  exact absurd hi (by omega)
theorem mk_69 : mk_m 69 := ⟨⟨rfl, rfl⟩, ⟨rfl, rfl⟩, by decide +kernel, ⟨⟨rfl, rfl⟩, ⟨rfl, rfl⟩⟩⟩
theorem wk_70_0 : wk_l "TrailStore" "crash" rt_70_0 := ⟨trivial, ⟨rfl, rfl⟩, ⟨rfl, rfl⟩, trivial, trivial, trivial, trivial, trivial, trivial, trivial, trivial, trivial, trivial, ⟨rfl, rfl⟩, ⟨rfl, rfl⟩, trivial, trivial⟩
theorem wk_70_1 : wk_l "TrailStore" "crash" rt_70_1 := ⟨trivial, trivial, trivial, ⟨rfl, rfl⟩, trivial, trivial, trivial⟩
theorem wk_70 : ∀ l ∈ rt_70, wk_l "TrailStore" "crash" l := by
  intro l hl
  simp only [rt_70, List.mem_cons, List.not_mem_nil, or_false] at hl
  rcases hl with rfl | rfl
  · exact wk_70_0
  · exact wk_70_1
theorem dk_70_0 : (List.range 32).all (fun i => dk_i prog_1_method_14_code rt_70 (0 + i)) = true := by decide +kernel
theorem dk_70 : ∀ i, i < 32 → dk_i prog_1_method_14_code rt_70 i = true := by
  intro i hi
  by_cases h0 : i < 32
  · have := List.all_eq_true.mp dk_70_0 (i - 0) (List.mem_range.mpr (by omega))
    rwa [show 0 + (i - 0) = i by omega] at this
  exact absurd hi (by omega)
theorem mk_70 : mk_m 70 := ⟨⟨rfl, rfl⟩, ⟨rfl, rfl⟩, by decide +kernel, ⟨⟨rfl, rfl⟩, ⟨rfl, rfl⟩⟩⟩
theorem wk_71_0 : wk_l "TrailStore" "fail" rt_71_0 := ⟨trivial, ⟨rfl, rfl⟩, ⟨rfl, rfl⟩, trivial, trivial, trivial, trivial, trivial, trivial, trivial, trivial, trivial, trivial, trivial, trivial, trivial, trivial⟩
theorem wk_71_1 : wk_l "TrailStore" "fail" rt_71_1 := ⟨trivial, trivial, trivial, ⟨rfl, rfl⟩, trivial, ⟨⟨rfl, rfl⟩, Or.inl rfl⟩, trivial, ⟨rfl, rfl⟩, trivial, ⟨⟨rfl, rfl⟩, Or.inl rfl⟩, trivial, ⟨rfl, rfl⟩, trivial, ⟨⟨rfl, rfl⟩, Or.inl rfl⟩, trivial, trivial, trivial⟩
theorem wk_71 : ∀ l ∈ rt_71, wk_l "TrailStore" "fail" l := by
  intro l hl
  simp only [rt_71, List.mem_cons, List.not_mem_nil, or_false] at hl
  rcases hl with rfl | rfl
  · exact wk_71_0
  · exact wk_71_1
theorem dk_71_0 : (List.range 32).all (fun i => dk_i prog_1_method_15_code rt_71 (0 + i)) = true := by decide +kernel
theorem dk_71 : ∀ i, i < 32 → dk_i prog_1_method_15_code rt_71 i = true := by
  intro i hi
  by_cases h0 : i < 32
  · have := List.all_eq_true.mp dk_71_0 (i - 0) (List.mem_range.mpr (by omega))
    rwa [show 0 + (i - 0) = i by omega] at this
  exact absurd hi (by omega)
theorem mk_71 : mk_m 71 := ⟨⟨rfl, rfl⟩, ⟨rfl, rfl⟩, by decide +kernel, ⟨⟨rfl, rfl⟩, ⟨rfl, rfl⟩⟩⟩
theorem wk_72_0 : wk_l "TrailStore" "spare" rt_72_0 := ⟨trivial, ⟨rfl, rfl⟩, ⟨rfl, rfl⟩, trivial, trivial, trivial, trivial, ⟨rfl, rfl⟩, ⟨rfl, rfl⟩, trivial, trivial, trivial, trivial, trivial, trivial, ⟨rfl, rfl⟩, trivial⟩
theorem wk_72_1 : wk_l "TrailStore" "spare" rt_72_1 := ⟨trivial, ⟨⟨rfl, rfl⟩, Or.inl rfl⟩, trivial, trivial, trivial⟩
theorem wk_72 : ∀ l ∈ rt_72, wk_l "TrailStore" "spare" l := by
  intro l hl
  simp only [rt_72, List.mem_cons, List.not_mem_nil, or_false] at hl
  rcases hl with rfl | rfl
  · exact wk_72_0
  · exact wk_72_1
theorem dk_72_0 : (List.range 32).all (fun i => dk_i prog_1_method_16_code rt_72 (0 + i)) = true := by decide +kernel
theorem dk_72 : ∀ i, i < 32 → dk_i prog_1_method_16_code rt_72 i = true := by
  intro i hi
  by_cases h0 : i < 32
  · have := List.all_eq_true.mp dk_72_0 (i - 0) (List.mem_range.mpr (by omega))
    rwa [show 0 + (i - 0) = i by omega] at this
  exact absurd hi (by omega)
theorem mk_72 : mk_m 72 := ⟨⟨rfl, rfl⟩, ⟨rfl, rfl⟩, by decide +kernel, ⟨⟨rfl, rfl⟩, ⟨rfl, rfl⟩⟩⟩
theorem wk_73_0 : wk_l "TrailStore" "open" rt_73_0 := ⟨trivial, ⟨rfl, rfl⟩, ⟨rfl, rfl⟩, trivial, trivial, trivial, trivial, ⟨rfl, rfl⟩, ⟨rfl, rfl⟩, trivial, ⟨rfl, rfl⟩, ⟨rfl, rfl⟩, trivial, trivial⟩
theorem wk_73 : ∀ l ∈ rt_73, wk_l "TrailStore" "open" l := by
  intro l hl
  simp only [rt_73, List.mem_cons, List.not_mem_nil, or_false] at hl
  subst hl
  exact wk_73_0
theorem dk_73_0 : (List.range 16).all (fun i => dk_i prog_1_method_17_code rt_73 (0 + i)) = true := by decide +kernel
theorem dk_73 : ∀ i, i < 16 → dk_i prog_1_method_17_code rt_73 i = true := by
  intro i hi
  by_cases h0 : i < 16
  · have := List.all_eq_true.mp dk_73_0 (i - 0) (List.mem_range.mpr (by omega))
    rwa [show 0 + (i - 0) = i by omega] at this
  exact absurd hi (by omega)
theorem mk_73 : mk_m 73 := ⟨⟨rfl, rfl⟩, ⟨rfl, rfl⟩, by decide +kernel, ⟨⟨rfl, rfl⟩, ⟨rfl, rfl⟩⟩⟩
theorem wk_74_0 : wk_l "TrailStore" "told" rt_74_0 := ⟨trivial, trivial, trivial, trivial, ⟨rfl, rfl⟩, ⟨rfl, rfl⟩, trivial, trivial, trivial, trivial, trivial, ⟨rfl, rfl⟩, ⟨rfl, rfl⟩, trivial, trivial, ⟨rfl, rfl⟩, trivial⟩
theorem wk_74_1 : wk_l "TrailStore" "told" rt_74_1 := ⟨⟨rfl, rfl⟩, trivial, trivial, trivial, trivial, trivial, trivial, ⟨rfl, rfl⟩, ⟨rfl, rfl⟩, trivial, trivial, ⟨rfl, rfl⟩, ⟨rfl, rfl⟩, trivial, trivial, ⟨rfl, rfl⟩, trivial⟩
theorem wk_74_2 : wk_l "TrailStore" "told" rt_74_2 := ⟨⟨rfl, rfl⟩, trivial, trivial, ⟨rfl, rfl⟩, ⟨rfl, rfl⟩, trivial, trivial, ⟨rfl, rfl⟩, ⟨rfl, rfl⟩, trivial, trivial, ⟨rfl, rfl⟩, ⟨rfl, rfl⟩, ⟨rfl, rfl⟩, trivial, trivial, trivial⟩
theorem wk_74_3 : wk_l "TrailStore" "told" rt_74_3 := ⟨⟨rfl, rfl⟩, ⟨rfl, rfl⟩, trivial, trivial, ⟨rfl, rfl⟩, ⟨rfl, rfl⟩, trivial, trivial, ⟨rfl, rfl⟩, trivial, trivial, ⟨rfl, rfl⟩, trivial, trivial, ⟨rfl, rfl⟩, trivial, trivial⟩
theorem wk_74_4 : wk_l "TrailStore" "told" rt_74_4 := ⟨trivial, ⟨rfl, rfl⟩, trivial, trivial, ⟨rfl, rfl⟩, ⟨rfl, rfl⟩, trivial, trivial, trivial, trivial, ⟨rfl, rfl⟩, ⟨rfl, rfl⟩, trivial, trivial, trivial, trivial⟩
theorem wk_74 : ∀ l ∈ rt_74, wk_l "TrailStore" "told" l := by
  intro l hl
  simp only [rt_74, List.mem_cons, List.not_mem_nil, or_false] at hl
  rcases hl with rfl | rfl | rfl | rfl | rfl
  · exact wk_74_0
  · exact wk_74_1
  · exact wk_74_2
  · exact wk_74_3
  · exact wk_74_4
theorem dk_74_0 : (List.range 48).all (fun i => dk_i prog_1_method_18_code rt_74 (0 + i)) = true := by decide +kernel
theorem dk_74_1 : (List.range 32).all (fun i => dk_i prog_1_method_18_code rt_74 (48 + i)) = true := by decide +kernel
theorem dk_74 : ∀ i, i < 80 → dk_i prog_1_method_18_code rt_74 i = true := by
  intro i hi
  by_cases h0 : i < 48
  · have := List.all_eq_true.mp dk_74_0 (i - 0) (List.mem_range.mpr (by omega))
    rwa [show 0 + (i - 0) = i by omega] at this
  by_cases h1 : i < 80
  · have := List.all_eq_true.mp dk_74_1 (i - 48) (List.mem_range.mpr (by omega))
    rwa [show 48 + (i - 48) = i by omega] at this
  exact absurd hi (by omega)
theorem mk_74 : mk_m 74 := ⟨⟨rfl, rfl⟩, ⟨rfl, rfl⟩, by decide +kernel, ⟨⟨rfl, rfl⟩, ⟨rfl, rfl⟩⟩⟩
theorem wk_75_0 : wk_l "TrailStore" "table" rt_75_0 := ⟨trivial, ⟨rfl, rfl⟩, ⟨rfl, rfl⟩, trivial, trivial, trivial, trivial, trivial, trivial, trivial, ⟨rfl, rfl⟩, ⟨rfl, rfl⟩, trivial, trivial, trivial, trivial, trivial⟩
theorem wk_75_1 : wk_l "TrailStore" "table" rt_75_1 := ⟨⟨rfl, rfl⟩, trivial, ⟨rfl, rfl⟩, trivial, trivial, ⟨rfl, rfl⟩, trivial, trivial, trivial, ⟨rfl, rfl⟩, trivial, trivial, trivial, trivial, ⟨rfl, rfl⟩, trivial, trivial⟩
theorem wk_75_2 : wk_l "TrailStore" "table" rt_75_2 := ⟨trivial, trivial, ⟨rfl, rfl⟩, trivial, trivial, trivial, trivial, ⟨rfl, rfl⟩, ⟨rfl, rfl⟩, trivial, trivial, trivial, trivial, ⟨rfl, rfl⟩, trivial, trivial, trivial⟩
theorem wk_75_3 : wk_l "TrailStore" "table" rt_75_3 := ⟨trivial, ⟨rfl, rfl⟩, trivial, trivial, ⟨rfl, rfl⟩, trivial, trivial, trivial, ⟨rfl, rfl⟩, trivial, trivial, ⟨rfl, rfl⟩, trivial, trivial, trivial, trivial, trivial⟩
theorem wk_75_4 : wk_l "TrailStore" "table" rt_75_4 := ⟨trivial, trivial, trivial, trivial, trivial, ⟨rfl, rfl⟩, trivial, trivial, ⟨rfl, rfl⟩, trivial, trivial, trivial, ⟨rfl, rfl⟩, trivial, trivial, trivial, trivial⟩
theorem wk_75 : ∀ l ∈ rt_75, wk_l "TrailStore" "table" l := by
  intro l hl
  simp only [rt_75, List.mem_cons, List.not_mem_nil, or_false] at hl
  rcases hl with rfl | rfl | rfl | rfl | rfl
  · exact wk_75_0
  · exact wk_75_1
  · exact wk_75_2
  · exact wk_75_3
  · exact wk_75_4
theorem dk_75_0 : (List.range 48).all (fun i => dk_i prog_1_method_19_code rt_75 (0 + i)) = true := by decide +kernel
theorem dk_75_1 : (List.range 32).all (fun i => dk_i prog_1_method_19_code rt_75 (48 + i)) = true := by decide +kernel
theorem dk_75 : ∀ i, i < 80 → dk_i prog_1_method_19_code rt_75 i = true := by
  intro i hi
  by_cases h0 : i < 48
  · have := List.all_eq_true.mp dk_75_0 (i - 0) (List.mem_range.mpr (by omega))
    rwa [show 0 + (i - 0) = i by omega] at this
  by_cases h1 : i < 80
  · have := List.all_eq_true.mp dk_75_1 (i - 48) (List.mem_range.mpr (by omega))
    rwa [show 48 + (i - 48) = i by omega] at this
  exact absurd hi (by omega)
theorem mk_75 : mk_m 75 := ⟨⟨rfl, rfl⟩, ⟨rfl, rfl⟩, by decide +kernel, ⟨⟨rfl, rfl⟩, ⟨rfl, rfl⟩⟩⟩
theorem wk_76_0 : wk_l "TrailStore" "entry" rt_76_0 := ⟨trivial, ⟨rfl, rfl⟩, ⟨rfl, rfl⟩, trivial, trivial, trivial, trivial, ⟨rfl, rfl⟩, trivial, trivial, ⟨rfl, rfl⟩, ⟨rfl, rfl⟩, trivial, ⟨rfl, rfl⟩, ⟨rfl, rfl⟩, trivial, trivial⟩
theorem wk_76_1 : wk_l "TrailStore" "entry" rt_76_1 := ⟨trivial, trivial, trivial, trivial, trivial, ⟨rfl, rfl⟩, ⟨rfl, rfl⟩, trivial, trivial, ⟨rfl, rfl⟩, ⟨rfl, rfl⟩, trivial, trivial, ⟨rfl, rfl⟩, ⟨rfl, rfl⟩, trivial, trivial⟩
theorem wk_76_2 : wk_l "TrailStore" "entry" rt_76_2 := ⟨trivial, ⟨rfl, rfl⟩, ⟨rfl, rfl⟩, trivial, trivial, trivial, trivial, trivial, trivial, trivial, trivial⟩
theorem wk_76 : ∀ l ∈ rt_76, wk_l "TrailStore" "entry" l := by
  intro l hl
  simp only [rt_76, List.mem_cons, List.not_mem_nil, or_false] at hl
  rcases hl with rfl | rfl | rfl
  · exact wk_76_0
  · exact wk_76_1
  · exact wk_76_2
theorem dk_76_0 : (List.range 48).all (fun i => dk_i prog_1_method_20_code rt_76 (0 + i)) = true := by decide +kernel
theorem dk_76 : ∀ i, i < 48 → dk_i prog_1_method_20_code rt_76 i = true := by
  intro i hi
  by_cases h0 : i < 48
  · have := List.all_eq_true.mp dk_76_0 (i - 0) (List.mem_range.mpr (by omega))
    rwa [show 0 + (i - 0) = i by omega] at this
  exact absurd hi (by omega)
theorem mk_76 : mk_m 76 := ⟨⟨rfl, rfl⟩, ⟨rfl, rfl⟩, by decide +kernel, ⟨⟨rfl, rfl⟩, ⟨rfl, rfl⟩⟩⟩
theorem wk_77_0 : wk_l "TrailStore" "cell" rt_77_0 := ⟨trivial, ⟨rfl, rfl⟩, trivial, trivial, ⟨rfl, rfl⟩, trivial, trivial, trivial, trivial, trivial, trivial, trivial, ⟨rfl, rfl⟩, trivial, ⟨rfl, rfl⟩, trivial, trivial⟩
theorem wk_77 : ∀ l ∈ rt_77, wk_l "TrailStore" "cell" l := by
  intro l hl
  simp only [rt_77, List.mem_cons, List.not_mem_nil, or_false] at hl
  subst hl
  exact wk_77_0
theorem dk_77_0 : (List.range 16).all (fun i => dk_i prog_1_method_21_code rt_77 (0 + i)) = true := by decide +kernel
theorem dk_77 : ∀ i, i < 16 → dk_i prog_1_method_21_code rt_77 i = true := by
  intro i hi
  by_cases h0 : i < 16
  · have := List.all_eq_true.mp dk_77_0 (i - 0) (List.mem_range.mpr (by omega))
    rwa [show 0 + (i - 0) = i by omega] at this
  exact absurd hi (by omega)
theorem mk_77 : mk_m 77 := ⟨⟨rfl, rfl⟩, ⟨rfl, rfl⟩, by decide +kernel, ⟨⟨rfl, rfl⟩, ⟨rfl, rfl⟩⟩⟩
theorem wk_78_0 : wk_l "TrailStore" "check" rt_78_0 := ⟨trivial, ⟨rfl, rfl⟩, ⟨rfl, rfl⟩, trivial, trivial, trivial, trivial, ⟨rfl, rfl⟩, trivial, ⟨rfl, rfl⟩, ⟨rfl, rfl⟩, trivial, ⟨rfl, rfl⟩, ⟨rfl, rfl⟩, trivial, trivial, trivial⟩
theorem wk_78_1 : wk_l "TrailStore" "check" rt_78_1 := ⟨⟨rfl, rfl⟩, trivial, ⟨rfl, rfl⟩, ⟨rfl, rfl⟩, trivial, ⟨rfl, rfl⟩, ⟨rfl, rfl⟩, trivial, ⟨rfl, rfl⟩, ⟨rfl, rfl⟩, trivial, trivial, trivial, ⟨rfl, rfl⟩, ⟨rfl, rfl⟩, trivial, trivial⟩
theorem wk_78_2 : wk_l "TrailStore" "check" rt_78_2 := ⟨⟨rfl, rfl⟩, ⟨rfl, rfl⟩, trivial, trivial, trivial, trivial, trivial, trivial, trivial, trivial, trivial, trivial, trivial, trivial, trivial, trivial, trivial⟩
theorem wk_78_3 : wk_l "TrailStore" "check" rt_78_3 := ⟨trivial, ⟨rfl, rfl⟩, trivial, trivial, trivial, ⟨rfl, rfl⟩, trivial, trivial, trivial, trivial, trivial, trivial, trivial, trivial, trivial, trivial, trivial⟩
theorem wk_78_4 : wk_l "TrailStore" "check" rt_78_4 := ⟨trivial, trivial, trivial, trivial⟩
theorem wk_78 : ∀ l ∈ rt_78, wk_l "TrailStore" "check" l := by
  intro l hl
  simp only [rt_78, List.mem_cons, List.not_mem_nil, or_false] at hl
  rcases hl with rfl | rfl | rfl | rfl | rfl
  · exact wk_78_0
  · exact wk_78_1
  · exact wk_78_2
  · exact wk_78_3
  · exact wk_78_4
theorem dk_78_0 : (List.range 48).all (fun i => dk_i prog_1_method_22_code rt_78 (0 + i)) = true := by decide +kernel
theorem dk_78_1 : (List.range 32).all (fun i => dk_i prog_1_method_22_code rt_78 (48 + i)) = true := by decide +kernel
theorem dk_78 : ∀ i, i < 80 → dk_i prog_1_method_22_code rt_78 i = true := by
  intro i hi
  by_cases h0 : i < 48
  · have := List.all_eq_true.mp dk_78_0 (i - 0) (List.mem_range.mpr (by omega))
    rwa [show 0 + (i - 0) = i by omega] at this
  by_cases h1 : i < 80
  · have := List.all_eq_true.mp dk_78_1 (i - 48) (List.mem_range.mpr (by omega))
    rwa [show 48 + (i - 48) = i by omega] at this
  exact absurd hi (by omega)
theorem mk_78 : mk_m 78 := ⟨⟨rfl, rfl⟩, ⟨rfl, rfl⟩, by decide +kernel, ⟨⟨rfl, rfl⟩, ⟨rfl, rfl⟩⟩⟩
theorem wk_79_0 : wk_l "TrailStore" "isKey" rt_79_0 := ⟨trivial, trivial, trivial, trivial, trivial, trivial, trivial, trivial, trivial, trivial⟩
theorem wk_79 : ∀ l ∈ rt_79, wk_l "TrailStore" "isKey" l := by
  intro l hl
  simp only [rt_79, List.mem_cons, List.not_mem_nil, or_false] at hl
  subst hl
  exact wk_79_0
theorem dk_79_0 : (List.range 16).all (fun i => dk_i prog_1_method_23_code rt_79 (0 + i)) = true := by decide +kernel
theorem dk_79 : ∀ i, i < 16 → dk_i prog_1_method_23_code rt_79 i = true := by
  intro i hi
  by_cases h0 : i < 16
  · have := List.all_eq_true.mp dk_79_0 (i - 0) (List.mem_range.mpr (by omega))
    rwa [show 0 + (i - 0) = i by omega] at this
  exact absurd hi (by omega)
theorem mk_79 : mk_m 79 := ⟨⟨rfl, rfl⟩, ⟨rfl, rfl⟩, by decide +kernel, ⟨rfl, rfl⟩⟩
theorem wk_80_0 : wk_l "TrailStore" "isThere" rt_80_0 := ⟨trivial, ⟨rfl, rfl⟩, trivial, trivial, ⟨rfl, rfl⟩, ⟨rfl, rfl⟩, trivial, ⟨rfl, rfl⟩, ⟨rfl, rfl⟩, trivial, trivial, trivial, trivial, trivial, trivial, trivial⟩
theorem wk_80 : ∀ l ∈ rt_80, wk_l "TrailStore" "isThere" l := by
  intro l hl
  simp only [rt_80, List.mem_cons, List.not_mem_nil, or_false] at hl
  subst hl
  exact wk_80_0
theorem dk_80_0 : (List.range 16).all (fun i => dk_i prog_1_method_24_code rt_80 (0 + i)) = true := by decide +kernel
theorem dk_80 : ∀ i, i < 16 → dk_i prog_1_method_24_code rt_80 i = true := by
  intro i hi
  by_cases h0 : i < 16
  · have := List.all_eq_true.mp dk_80_0 (i - 0) (List.mem_range.mpr (by omega))
    rwa [show 0 + (i - 0) = i by omega] at this
  exact absurd hi (by omega)
theorem mk_80 : mk_m 80 := ⟨⟨rfl, rfl⟩, ⟨rfl, rfl⟩, by decide +kernel, ⟨⟨rfl, rfl⟩, ⟨rfl, rfl⟩⟩⟩
theorem wk_81_0 : wk_l "TrailStore" "keysThere" rt_81_0 := ⟨trivial, ⟨rfl, rfl⟩, trivial, ⟨rfl, rfl⟩, ⟨rfl, rfl⟩, trivial, trivial, trivial, trivial, trivial, trivial, trivial, trivial, ⟨rfl, rfl⟩, ⟨rfl, rfl⟩, trivial, trivial⟩
theorem wk_81_1 : wk_l "TrailStore" "keysThere" rt_81_1 := ⟨trivial, trivial, trivial, trivial, trivial, trivial, trivial, trivial, trivial⟩
theorem wk_81 : ∀ l ∈ rt_81, wk_l "TrailStore" "keysThere" l := by
  intro l hl
  simp only [rt_81, List.mem_cons, List.not_mem_nil, or_false] at hl
  rcases hl with rfl | rfl
  · exact wk_81_0
  · exact wk_81_1
theorem dk_81_0 : (List.range 32).all (fun i => dk_i prog_1_method_25_code rt_81 (0 + i)) = true := by decide +kernel
theorem dk_81 : ∀ i, i < 32 → dk_i prog_1_method_25_code rt_81 i = true := by
  intro i hi
  by_cases h0 : i < 32
  · have := List.all_eq_true.mp dk_81_0 (i - 0) (List.mem_range.mpr (by omega))
    rwa [show 0 + (i - 0) = i by omega] at this
  exact absurd hi (by omega)
theorem mk_81 : mk_m 81 := ⟨⟨rfl, rfl⟩, ⟨rfl, rfl⟩, by decide +kernel, ⟨⟨rfl, rfl⟩, ⟨rfl, rfl⟩⟩⟩
theorem wk_82_0 : wk_l "TrailStore" "bytesThere" rt_82_0 := ⟨trivial, ⟨rfl, rfl⟩, trivial, ⟨rfl, rfl⟩, ⟨rfl, rfl⟩, trivial, trivial, trivial, trivial, trivial, trivial, trivial, trivial, ⟨rfl, rfl⟩, ⟨rfl, rfl⟩, trivial, trivial⟩
theorem wk_82_1 : wk_l "TrailStore" "bytesThere" rt_82_1 := ⟨trivial, trivial, trivial, trivial, trivial, ⟨rfl, rfl⟩, trivial, ⟨rfl, rfl⟩, ⟨rfl, rfl⟩, trivial, trivial, ⟨rfl, rfl⟩, trivial, trivial, trivial, trivial, trivial⟩
theorem wk_82_2 : wk_l "TrailStore" "bytesThere" rt_82_2 := ⟨trivial, trivial, trivial⟩
theorem wk_82 : ∀ l ∈ rt_82, wk_l "TrailStore" "bytesThere" l := by
  intro l hl
  simp only [rt_82, List.mem_cons, List.not_mem_nil, or_false] at hl
  rcases hl with rfl | rfl | rfl
  · exact wk_82_0
  · exact wk_82_1
  · exact wk_82_2
theorem dk_82_0 : (List.range 48).all (fun i => dk_i prog_1_method_26_code rt_82 (0 + i)) = true := by decide +kernel
theorem dk_82 : ∀ i, i < 48 → dk_i prog_1_method_26_code rt_82 i = true := by
  intro i hi
  by_cases h0 : i < 48
  · have := List.all_eq_true.mp dk_82_0 (i - 0) (List.mem_range.mpr (by omega))
    rwa [show 0 + (i - 0) = i by omega] at this
  exact absurd hi (by omega)
theorem mk_82 : mk_m 82 := ⟨⟨rfl, rfl⟩, ⟨rfl, rfl⟩, by decide +kernel, ⟨⟨rfl, rfl⟩, ⟨rfl, rfl⟩⟩⟩
theorem wk_83_0 : wk_l "TrailStore" "hasItsRecord" rt_83_0 := ⟨trivial, ⟨rfl, rfl⟩, ⟨rfl, rfl⟩, trivial, trivial, trivial, trivial, trivial, trivial, trivial, ⟨rfl, rfl⟩, ⟨rfl, rfl⟩, trivial, trivial, trivial, trivial, trivial⟩
theorem wk_83_1 : wk_l "TrailStore" "hasItsRecord" rt_83_1 := ⟨trivial, ⟨rfl, rfl⟩, ⟨rfl, rfl⟩, trivial, trivial, trivial, trivial, ⟨rfl, rfl⟩, trivial, ⟨rfl, rfl⟩, trivial, trivial, ⟨rfl, rfl⟩, ⟨rfl, rfl⟩, trivial, trivial, trivial⟩
theorem wk_83_2 : wk_l "TrailStore" "hasItsRecord" rt_83_2 := ⟨trivial, ⟨rfl, rfl⟩, trivial, trivial, ⟨rfl, rfl⟩, ⟨rfl, rfl⟩, trivial, trivial, ⟨rfl, rfl⟩, trivial, trivial, ⟨rfl, rfl⟩, trivial, ⟨rfl, rfl⟩, trivial, trivial, trivial⟩
theorem wk_83_3 : wk_l "TrailStore" "hasItsRecord" rt_83_3 := ⟨trivial, trivial, trivial, ⟨rfl, rfl⟩, trivial, trivial, trivial, ⟨rfl, rfl⟩, trivial, trivial, trivial, trivial, trivial, trivial, trivial⟩
theorem wk_83 : ∀ l ∈ rt_83, wk_l "TrailStore" "hasItsRecord" l := by
  intro l hl
  simp only [rt_83, List.mem_cons, List.not_mem_nil, or_false] at hl
  rcases hl with rfl | rfl | rfl | rfl
  · exact wk_83_0
  · exact wk_83_1
  · exact wk_83_2
  · exact wk_83_3
theorem dk_83_0 : (List.range 48).all (fun i => dk_i prog_1_method_27_code rt_83 (0 + i)) = true := by decide +kernel
theorem dk_83_1 : (List.range 16).all (fun i => dk_i prog_1_method_27_code rt_83 (48 + i)) = true := by decide +kernel
theorem dk_83 : ∀ i, i < 64 → dk_i prog_1_method_27_code rt_83 i = true := by
  intro i hi
  by_cases h0 : i < 48
  · have := List.all_eq_true.mp dk_83_0 (i - 0) (List.mem_range.mpr (by omega))
    rwa [show 0 + (i - 0) = i by omega] at this
  by_cases h1 : i < 64
  · have := List.all_eq_true.mp dk_83_1 (i - 48) (List.mem_range.mpr (by omega))
    rwa [show 48 + (i - 48) = i by omega] at this
  exact absurd hi (by omega)
theorem mk_83 : mk_m 83 := ⟨⟨rfl, rfl⟩, ⟨rfl, rfl⟩, by decide +kernel, ⟨⟨rfl, rfl⟩, ⟨rfl, rfl⟩⟩⟩
theorem wk_84_0 : wk_l "TrailStore" "isSameReopened" rt_84_0 := ⟨trivial, ⟨rfl, rfl⟩, ⟨rfl, rfl⟩, trivial, trivial, trivial, trivial, trivial, trivial, trivial, trivial, trivial, trivial, ⟨rfl, rfl⟩, ⟨rfl, rfl⟩, trivial, trivial⟩
theorem wk_84_1 : wk_l "TrailStore" "isSameReopened" rt_84_1 := ⟨trivial, trivial, trivial, trivial, trivial, trivial, trivial, trivial, trivial, trivial, trivial, trivial, ⟨rfl, rfl⟩, trivial, ⟨rfl, rfl⟩, ⟨rfl, rfl⟩, trivial⟩
theorem wk_84_2 : wk_l "TrailStore" "isSameReopened" rt_84_2 := ⟨trivial, trivial, trivial, ⟨rfl, rfl⟩, ⟨rfl, rfl⟩, trivial, trivial, ⟨rfl, rfl⟩, trivial, trivial, trivial, trivial, trivial, trivial⟩
theorem wk_84 : ∀ l ∈ rt_84, wk_l "TrailStore" "isSameReopened" l := by
  intro l hl
  simp only [rt_84, List.mem_cons, List.not_mem_nil, or_false] at hl
  rcases hl with rfl | rfl | rfl
  · exact wk_84_0
  · exact wk_84_1
  · exact wk_84_2
theorem dk_84_0 : (List.range 48).all (fun i => dk_i prog_1_method_28_code rt_84 (0 + i)) = true := by decide +kernel
theorem dk_84 : ∀ i, i < 48 → dk_i prog_1_method_28_code rt_84 i = true := by
  intro i hi
  by_cases h0 : i < 48
  · have := List.all_eq_true.mp dk_84_0 (i - 0) (List.mem_range.mpr (by omega))
    rwa [show 0 + (i - 0) = i by omega] at this
  exact absurd hi (by omega)
theorem mk_84 : mk_m 84 := ⟨⟨rfl, rfl⟩, ⟨rfl, rfl⟩, by decide +kernel, ⟨⟨rfl, rfl⟩, ⟨rfl, rfl⟩⟩⟩
theorem wk_85_0 : wk_l "TrailStore" "batchOver" rt_85_0 := ⟨trivial, ⟨rfl, rfl⟩, trivial, ⟨⟨rfl, rfl⟩, Or.inl rfl⟩, trivial, trivial, ⟨⟨rfl, rfl⟩, Or.inl rfl⟩, trivial, trivial, ⟨rfl, rfl⟩, trivial, trivial⟩
theorem wk_85 : ∀ l ∈ rt_85, wk_l "TrailStore" "batchOver" l := by
  intro l hl
  simp only [rt_85, List.mem_cons, List.not_mem_nil, or_false] at hl
  subst hl
  exact wk_85_0
theorem dk_85_0 : (List.range 16).all (fun i => dk_i prog_1_method_29_code rt_85 (0 + i)) = true := by decide +kernel
theorem dk_85 : ∀ i, i < 16 → dk_i prog_1_method_29_code rt_85 i = true := by
  intro i hi
  by_cases h0 : i < 16
  · have := List.all_eq_true.mp dk_85_0 (i - 0) (List.mem_range.mpr (by omega))
    rwa [show 0 + (i - 0) = i by omega] at this
  exact absurd hi (by omega)
theorem mk_85 : mk_m 85 := ⟨⟨rfl, rfl⟩, ⟨rfl, rfl⟩, by decide +kernel, ⟨⟨rfl, rfl⟩, ⟨rfl, rfl⟩⟩⟩
theorem wk_86_0 : wk_l "TrailStore" "ended" rt_86_0 := ⟨trivial, ⟨rfl, rfl⟩, ⟨rfl, rfl⟩, trivial, trivial, trivial, trivial, trivial, ⟨rfl, rfl⟩, ⟨rfl, rfl⟩, trivial, ⟨rfl, rfl⟩, ⟨rfl, rfl⟩, ⟨rfl, rfl⟩, trivial, trivial, trivial⟩
theorem wk_86 : ∀ l ∈ rt_86, wk_l "TrailStore" "ended" l := by
  intro l hl
  simp only [rt_86, List.mem_cons, List.not_mem_nil, or_false] at hl
  subst hl
  exact wk_86_0
theorem dk_86_0 : (List.range 16).all (fun i => dk_i prog_1_method_30_code rt_86 (0 + i)) = true := by decide +kernel
theorem dk_86 : ∀ i, i < 16 → dk_i prog_1_method_30_code rt_86 i = true := by
  intro i hi
  by_cases h0 : i < 16
  · have := List.all_eq_true.mp dk_86_0 (i - 0) (List.mem_range.mpr (by omega))
    rwa [show 0 + (i - 0) = i by omega] at this
  exact absurd hi (by omega)
theorem mk_86 : mk_m 86 := ⟨⟨rfl, rfl⟩, ⟨rfl, rfl⟩, by decide +kernel, ⟨⟨rfl, rfl⟩, ⟨rfl, rfl⟩⟩⟩
theorem wk_87_0 : wk_l "TrailStore" "losePower" rt_87_0 := ⟨trivial, ⟨rfl, rfl⟩, trivial, trivial, ⟨rfl, rfl⟩, trivial, trivial, ⟨⟨rfl, rfl⟩, Or.inl rfl⟩, trivial, ⟨rfl, rfl⟩, trivial, ⟨⟨rfl, rfl⟩, Or.inl rfl⟩, trivial, trivial, ⟨⟨rfl, rfl⟩, Or.inl rfl⟩, trivial, trivial⟩
theorem wk_87 : ∀ l ∈ rt_87, wk_l "TrailStore" "losePower" l := by
  intro l hl
  simp only [rt_87, List.mem_cons, List.not_mem_nil, or_false] at hl
  subst hl
  exact wk_87_0
theorem dk_87_0 : (List.range 16).all (fun i => dk_i prog_1_method_31_code rt_87 (0 + i)) = true := by decide +kernel
theorem dk_87 : ∀ i, i < 16 → dk_i prog_1_method_31_code rt_87 i = true := by
  intro i hi
  by_cases h0 : i < 16
  · have := List.all_eq_true.mp dk_87_0 (i - 0) (List.mem_range.mpr (by omega))
    rwa [show 0 + (i - 0) = i by omega] at this
  exact absurd hi (by omega)
theorem mk_87 : mk_m 87 := ⟨⟨rfl, rfl⟩, ⟨rfl, rfl⟩, by decide +kernel, ⟨⟨rfl, rfl⟩, ⟨rfl, rfl⟩⟩⟩
theorem wk_88_0 : wk_l "TrailStoreModel" "<init>" rt_88_0 := ⟨trivial, ⟨rfl, rfl⟩, trivial, trivial, trivial, ⟨⟨rfl, rfl⟩, Or.inr ⟨rfl, rfl, rfl⟩⟩, trivial, trivial, trivial, ⟨⟨rfl, rfl⟩, Or.inr ⟨rfl, rfl, rfl⟩⟩, trivial, trivial, trivial, ⟨⟨rfl, rfl⟩, Or.inr ⟨rfl, rfl, rfl⟩⟩, trivial, trivial, trivial⟩
theorem wk_88_1 : wk_l "TrailStoreModel" "<init>" rt_88_1 := ⟨trivial, ⟨⟨rfl, rfl⟩, Or.inr ⟨rfl, rfl, rfl⟩⟩, trivial, trivial, trivial, ⟨⟨rfl, rfl⟩, Or.inr ⟨rfl, rfl, rfl⟩⟩, trivial, trivial, trivial, ⟨⟨rfl, rfl⟩, Or.inr ⟨rfl, rfl, rfl⟩⟩, trivial, trivial, trivial, ⟨⟨rfl, rfl⟩, Or.inr ⟨rfl, rfl, rfl⟩⟩, trivial, trivial, trivial⟩
theorem wk_88_2 : wk_l "TrailStoreModel" "<init>" rt_88_2 := ⟨trivial, ⟨⟨rfl, rfl⟩, Or.inr ⟨rfl, rfl, rfl⟩⟩, trivial, ⟨rfl, rfl⟩, trivial, ⟨⟨rfl, rfl⟩, Or.inr ⟨rfl, rfl, rfl⟩⟩, trivial, trivial, trivial, ⟨⟨rfl, rfl⟩, Or.inr ⟨rfl, rfl, rfl⟩⟩, trivial, trivial, trivial, ⟨⟨rfl, rfl⟩, Or.inr ⟨rfl, rfl, rfl⟩⟩, trivial, trivial, trivial⟩
theorem wk_88_3 : wk_l "TrailStoreModel" "<init>" rt_88_3 := ⟨trivial, ⟨⟨rfl, rfl⟩, Or.inr ⟨rfl, rfl, rfl⟩⟩, trivial, trivial, trivial, ⟨⟨rfl, rfl⟩, Or.inr ⟨rfl, rfl, rfl⟩⟩, trivial, trivial, trivial, ⟨⟨rfl, rfl⟩, Or.inr ⟨rfl, rfl, rfl⟩⟩, trivial, trivial, trivial, ⟨⟨rfl, rfl⟩, Or.inr ⟨rfl, rfl, rfl⟩⟩, trivial, trivial, trivial⟩
theorem wk_88_4 : wk_l "TrailStoreModel" "<init>" rt_88_4 := ⟨trivial, ⟨⟨rfl, rfl⟩, Or.inr ⟨rfl, rfl, rfl⟩⟩, trivial, trivial, trivial, ⟨⟨rfl, rfl⟩, Or.inr ⟨rfl, rfl, rfl⟩⟩, trivial, trivial, trivial, ⟨⟨rfl, rfl⟩, Or.inr ⟨rfl, rfl, rfl⟩⟩, trivial, trivial, trivial, ⟨⟨rfl, rfl⟩, Or.inr ⟨rfl, rfl, rfl⟩⟩, trivial, trivial, trivial⟩
theorem wk_88_5 : wk_l "TrailStoreModel" "<init>" rt_88_5 := ⟨trivial, ⟨⟨rfl, rfl⟩, Or.inr ⟨rfl, rfl, rfl⟩⟩, trivial, trivial, trivial, ⟨⟨rfl, rfl⟩, Or.inr ⟨rfl, rfl, rfl⟩⟩, trivial, trivial, trivial, ⟨⟨rfl, rfl⟩, Or.inr ⟨rfl, rfl, rfl⟩⟩, trivial, trivial, trivial, ⟨⟨rfl, rfl⟩, Or.inr ⟨rfl, rfl, rfl⟩⟩, trivial, trivial, trivial⟩
theorem wk_88_6 : wk_l "TrailStoreModel" "<init>" rt_88_6 := ⟨trivial, ⟨⟨rfl, rfl⟩, Or.inr ⟨rfl, rfl, rfl⟩⟩, trivial, trivial, trivial, ⟨⟨rfl, rfl⟩, Or.inr ⟨rfl, rfl, rfl⟩⟩, trivial, trivial, trivial, trivial, trivial, trivial, trivial, trivial, trivial, trivial, trivial⟩
theorem wk_88_7 : wk_l "TrailStoreModel" "<init>" rt_88_7 := ⟨trivial, trivial, ⟨⟨rfl, rfl⟩, Or.inr ⟨rfl, rfl, rfl⟩⟩, trivial, ⟨rfl, rfl⟩, trivial, trivial, trivial, trivial, ⟨rfl, rfl⟩, trivial, trivial, ⟨rfl, rfl⟩, trivial, trivial, ⟨rfl, rfl⟩, trivial⟩
theorem wk_88_8 : wk_l "TrailStoreModel" "<init>" rt_88_8 := ⟨trivial, trivial, ⟨rfl, rfl⟩, trivial, trivial, ⟨rfl, rfl⟩, trivial, trivial, trivial, trivial, ⟨rfl, rfl⟩, trivial, trivial, ⟨rfl, rfl⟩, trivial, trivial, trivial⟩
theorem wk_88_9 : wk_l "TrailStoreModel" "<init>" rt_88_9 := ⟨trivial, trivial, ⟨rfl, rfl⟩, trivial, trivial, trivial, trivial, ⟨rfl, rfl⟩, trivial, trivial, trivial⟩
theorem wk_88 : ∀ l ∈ rt_88, wk_l "TrailStoreModel" "<init>" l := by
  intro l hl
  simp only [rt_88, List.mem_cons, List.not_mem_nil, or_false] at hl
  rcases hl with rfl | rfl | rfl | rfl | rfl | rfl | rfl | rfl | rfl | rfl
  · exact wk_88_0
  · exact wk_88_1
  · exact wk_88_2
  · exact wk_88_3
  · exact wk_88_4
  · exact wk_88_5
  · exact wk_88_6
  · exact wk_88_7
  · exact wk_88_8
  · exact wk_88_9
theorem dk_88_0 : (List.range 48).all (fun i => dk_i prog_9_method_1_code rt_88 (0 + i)) = true := by decide +kernel
theorem dk_88_1 : (List.range 48).all (fun i => dk_i prog_9_method_1_code rt_88 (48 + i)) = true := by decide +kernel
theorem dk_88_2 : (List.range 48).all (fun i => dk_i prog_9_method_1_code rt_88 (96 + i)) = true := by decide +kernel
theorem dk_88_3 : (List.range 16).all (fun i => dk_i prog_9_method_1_code rt_88 (144 + i)) = true := by decide +kernel
theorem dk_88 : ∀ i, i < 160 → dk_i prog_9_method_1_code rt_88 i = true := by
  intro i hi
  by_cases h0 : i < 48
  · have := List.all_eq_true.mp dk_88_0 (i - 0) (List.mem_range.mpr (by omega))
    rwa [show 0 + (i - 0) = i by omega] at this
  by_cases h1 : i < 96
  · have := List.all_eq_true.mp dk_88_1 (i - 48) (List.mem_range.mpr (by omega))
    rwa [show 48 + (i - 48) = i by omega] at this
  by_cases h2 : i < 144
  · have := List.all_eq_true.mp dk_88_2 (i - 96) (List.mem_range.mpr (by omega))
    rwa [show 96 + (i - 96) = i by omega] at this
  by_cases h3 : i < 160
  · have := List.all_eq_true.mp dk_88_3 (i - 144) (List.mem_range.mpr (by omega))
    rwa [show 144 + (i - 144) = i by omega] at this
  exact absurd hi (by omega)
theorem mk_88 : mk_m 88 := ⟨⟨rfl, rfl⟩, ⟨rfl, rfl⟩, by decide +kernel, ⟨⟨rfl, rfl⟩, rfl, rfl⟩⟩
theorem wk_89_0 : wk_l "TrailStoreModel" "placeOf" rt_89_0 := ⟨trivial, ⟨rfl, rfl⟩, trivial, trivial, trivial, trivial, ⟨rfl, rfl⟩, trivial, trivial, trivial, trivial, trivial, trivial⟩
theorem wk_89 : ∀ l ∈ rt_89, wk_l "TrailStoreModel" "placeOf" l := by
  intro l hl
  simp only [rt_89, List.mem_cons, List.not_mem_nil, or_false] at hl
  subst hl
  exact wk_89_0
theorem dk_89_0 : (List.range 16).all (fun i => dk_i prog_9_method_2_code rt_89 (0 + i)) = true := by decide +kernel
theorem dk_89 : ∀ i, i < 16 → dk_i prog_9_method_2_code rt_89 i = true := by
  intro i hi
  by_cases h0 : i < 16
  · have := List.all_eq_true.mp dk_89_0 (i - 0) (List.mem_range.mpr (by omega))
    rwa [show 0 + (i - 0) = i by omega] at this
  exact absurd hi (by omega)
theorem mk_89 : mk_m 89 := ⟨⟨rfl, rfl⟩, ⟨rfl, rfl⟩, by decide +kernel, ⟨⟨rfl, rfl⟩, ⟨rfl, rfl⟩⟩⟩
theorem wk_90_0 : wk_l "TrailStoreModel" "byteAt" rt_90_0 := ⟨trivial, ⟨rfl, rfl⟩, trivial, trivial, trivial, ⟨rfl, rfl⟩, trivial, trivial, trivial, trivial, trivial⟩
theorem wk_90 : ∀ l ∈ rt_90, wk_l "TrailStoreModel" "byteAt" l := by
  intro l hl
  simp only [rt_90, List.mem_cons, List.not_mem_nil, or_false] at hl
  subst hl
  exact wk_90_0
theorem dk_90_0 : (List.range 16).all (fun i => dk_i prog_9_method_3_code rt_90 (0 + i)) = true := by decide +kernel
theorem dk_90 : ∀ i, i < 16 → dk_i prog_9_method_3_code rt_90 i = true := by
  intro i hi
  by_cases h0 : i < 16
  · have := List.all_eq_true.mp dk_90_0 (i - 0) (List.mem_range.mpr (by omega))
    rwa [show 0 + (i - 0) = i by omega] at this
  exact absurd hi (by omega)
theorem mk_90 : mk_m 90 := ⟨⟨rfl, rfl⟩, ⟨rfl, rfl⟩, by decide +kernel, ⟨⟨rfl, rfl⟩, ⟨rfl, rfl⟩⟩⟩
theorem wk_91_0 : wk_l "TrailStoreModel" "four" rt_91_0 := ⟨trivial, trivial, trivial, ⟨rfl, rfl⟩, trivial, trivial, trivial, trivial, trivial, trivial, trivial, ⟨rfl, rfl⟩, trivial, trivial, trivial, trivial, trivial⟩
theorem wk_91_1 : wk_l "TrailStoreModel" "four" rt_91_1 := ⟨trivial, trivial, trivial, trivial, ⟨rfl, rfl⟩, trivial, trivial, trivial, trivial, trivial, trivial, trivial, trivial, ⟨rfl, rfl⟩, trivial, trivial, trivial⟩
theorem wk_91 : ∀ l ∈ rt_91, wk_l "TrailStoreModel" "four" l := by
  intro l hl
  simp only [rt_91, List.mem_cons, List.not_mem_nil, or_false] at hl
  rcases hl with rfl | rfl
  · exact wk_91_0
  · exact wk_91_1
theorem dk_91_0 : (List.range 32).all (fun i => dk_i prog_9_method_4_code rt_91 (0 + i)) = true := by decide +kernel
theorem dk_91 : ∀ i, i < 32 → dk_i prog_9_method_4_code rt_91 i = true := by
  intro i hi
  by_cases h0 : i < 32
  · have := List.all_eq_true.mp dk_91_0 (i - 0) (List.mem_range.mpr (by omega))
    rwa [show 0 + (i - 0) = i by omega] at this
  exact absurd hi (by omega)
theorem mk_91 : mk_m 91 := ⟨⟨rfl, rfl⟩, ⟨rfl, rfl⟩, by decide +kernel, ⟨⟨rfl, rfl⟩, ⟨rfl, rfl⟩⟩⟩
theorem wk_92_0 : wk_l "TrailStoreModel" "put4" rt_92_0 := ⟨trivial, trivial, trivial, trivial, trivial, trivial, ⟨rfl, rfl⟩, trivial, trivial, trivial, trivial, trivial, trivial, trivial, trivial, trivial, trivial⟩
theorem wk_92_1 : wk_l "TrailStoreModel" "put4" rt_92_1 := ⟨trivial, trivial, trivial, trivial, trivial, trivial, trivial⟩
theorem wk_92 : ∀ l ∈ rt_92, wk_l "TrailStoreModel" "put4" l := by
  intro l hl
  simp only [rt_92, List.mem_cons, List.not_mem_nil, or_false] at hl
  rcases hl with rfl | rfl
  · exact wk_92_0
  · exact wk_92_1
theorem dk_92_0 : (List.range 32).all (fun i => dk_i prog_9_method_5_code rt_92 (0 + i)) = true := by decide +kernel
theorem dk_92 : ∀ i, i < 32 → dk_i prog_9_method_5_code rt_92 i = true := by
  intro i hi
  by_cases h0 : i < 32
  · have := List.all_eq_true.mp dk_92_0 (i - 0) (List.mem_range.mpr (by omega))
    rwa [show 0 + (i - 0) = i by omega] at this
  exact absurd hi (by omega)
theorem mk_92 : mk_m 92 := ⟨⟨rfl, rfl⟩, ⟨rfl, rfl⟩, by decide +kernel, ⟨⟨rfl, rfl⟩, ⟨rfl, rfl⟩⟩⟩
theorem wk_93_0 : wk_l "TrailStoreModel" "clearBuffer" rt_93_0 := ⟨trivial, trivial, trivial, trivial, trivial, trivial, ⟨rfl, rfl⟩, trivial, trivial, trivial, trivial, trivial, trivial, trivial⟩
theorem wk_93 : ∀ l ∈ rt_93, wk_l "TrailStoreModel" "clearBuffer" l := by
  intro l hl
  simp only [rt_93, List.mem_cons, List.not_mem_nil, or_false] at hl
  subst hl
  exact wk_93_0
theorem dk_93_0 : (List.range 16).all (fun i => dk_i prog_9_method_6_code rt_93 (0 + i)) = true := by decide +kernel
theorem dk_93 : ∀ i, i < 16 → dk_i prog_9_method_6_code rt_93 i = true := by
  intro i hi
  by_cases h0 : i < 16
  · have := List.all_eq_true.mp dk_93_0 (i - 0) (List.mem_range.mpr (by omega))
    rwa [show 0 + (i - 0) = i by omega] at this
  exact absurd hi (by omega)
theorem mk_93 : mk_m 93 := ⟨⟨rfl, rfl⟩, ⟨rfl, rfl⟩, by decide +kernel, ⟨⟨rfl, rfl⟩, ⟨rfl, rfl⟩⟩⟩
theorem wk_94_0 : wk_l "TrailStoreModel" "write" rt_94_0 := ⟨trivial, ⟨rfl, rfl⟩, trivial, ⟨rfl, rfl⟩, trivial, trivial, trivial, ⟨rfl, rfl⟩, trivial, ⟨rfl, rfl⟩, trivial, trivial, trivial, ⟨rfl, rfl⟩, trivial, ⟨rfl, rfl⟩, trivial⟩
theorem wk_94_1 : wk_l "TrailStoreModel" "write" rt_94_1 := ⟨trivial, trivial, trivial, ⟨rfl, rfl⟩, trivial, ⟨rfl, rfl⟩, trivial, ⟨rfl, rfl⟩, trivial, trivial, trivial, ⟨rfl, rfl⟩, trivial, trivial, ⟨⟨rfl, rfl⟩, Or.inl rfl⟩, trivial, trivial⟩
theorem wk_94_2 : wk_l "TrailStoreModel" "write" rt_94_2 := ⟨trivial, trivial, trivial, trivial, trivial, ⟨rfl, rfl⟩, trivial, ⟨rfl, rfl⟩, trivial, ⟨rfl, rfl⟩, trivial, trivial, trivial, trivial, trivial, ⟨rfl, rfl⟩, trivial⟩
theorem wk_94_3 : wk_l "TrailStoreModel" "write" rt_94_3 := ⟨trivial, trivial, ⟨⟨rfl, rfl⟩, Or.inl rfl⟩, trivial, ⟨rfl, rfl⟩, trivial, trivial, trivial, trivial, trivial, ⟨rfl, rfl⟩, trivial, ⟨rfl, rfl⟩, trivial, trivial, trivial, trivial⟩
theorem wk_94_4 : wk_l "TrailStoreModel" "write" rt_94_4 := ⟨trivial, trivial, trivial, ⟨rfl, rfl⟩, trivial, trivial, trivial, ⟨rfl, rfl⟩, trivial, trivial, ⟨⟨rfl, rfl⟩, Or.inl rfl⟩, trivial, ⟨rfl, rfl⟩, trivial, trivial, trivial, trivial⟩
theorem wk_94_5 : wk_l "TrailStoreModel" "write" rt_94_5 := ⟨⟨rfl, rfl⟩, trivial, ⟨rfl, rfl⟩, ⟨rfl, rfl⟩, trivial, trivial⟩
theorem wk_94 : ∀ l ∈ rt_94, wk_l "TrailStoreModel" "write" l := by
  intro l hl
  simp only [rt_94, List.mem_cons, List.not_mem_nil, or_false] at hl
  rcases hl with rfl | rfl | rfl | rfl | rfl | rfl
  · exact wk_94_0
  · exact wk_94_1
  · exact wk_94_2
  · exact wk_94_3
  · exact wk_94_4
  · exact wk_94_5
theorem dk_94_0 : (List.range 48).all (fun i => dk_i prog_9_method_7_code rt_94 (0 + i)) = true := by decide +kernel
theorem dk_94_1 : (List.range 48).all (fun i => dk_i prog_9_method_7_code rt_94 (48 + i)) = true := by decide +kernel
theorem dk_94 : ∀ i, i < 96 → dk_i prog_9_method_7_code rt_94 i = true := by
  intro i hi
  by_cases h0 : i < 48
  · have := List.all_eq_true.mp dk_94_0 (i - 0) (List.mem_range.mpr (by omega))
    rwa [show 0 + (i - 0) = i by omega] at this
  by_cases h1 : i < 96
  · have := List.all_eq_true.mp dk_94_1 (i - 48) (List.mem_range.mpr (by omega))
    rwa [show 48 + (i - 48) = i by omega] at this
  exact absurd hi (by omega)
theorem mk_94 : mk_m 94 := ⟨⟨rfl, rfl⟩, ⟨rfl, rfl⟩, by decide +kernel, ⟨⟨rfl, rfl⟩, ⟨rfl, rfl⟩⟩⟩
theorem wk_95_0 : wk_l "TrailStoreModel" "lastWrite" rt_95_0 := ⟨trivial, trivial, trivial, trivial, trivial, trivial, ⟨rfl, rfl⟩, trivial, trivial, ⟨rfl, rfl⟩, trivial, trivial, trivial, ⟨rfl, rfl⟩, trivial, trivial, trivial⟩
theorem wk_95_1 : wk_l "TrailStoreModel" "lastWrite" rt_95_1 := ⟨trivial, trivial, ⟨rfl, rfl⟩, trivial, ⟨rfl, rfl⟩, trivial, ⟨rfl, rfl⟩, trivial, trivial, trivial, trivial, trivial, trivial, trivial, trivial, trivial, trivial⟩
theorem wk_95 : ∀ l ∈ rt_95, wk_l "TrailStoreModel" "lastWrite" l := by
  intro l hl
  simp only [rt_95, List.mem_cons, List.not_mem_nil, or_false] at hl
  rcases hl with rfl | rfl
  · exact wk_95_0
  · exact wk_95_1
theorem dk_95_0 : (List.range 32).all (fun i => dk_i prog_9_method_8_code rt_95 (0 + i)) = true := by decide +kernel
theorem dk_95 : ∀ i, i < 32 → dk_i prog_9_method_8_code rt_95 i = true := by
  intro i hi
  by_cases h0 : i < 32
  · have := List.all_eq_true.mp dk_95_0 (i - 0) (List.mem_range.mpr (by omega))
    rwa [show 0 + (i - 0) = i by omega] at this
  exact absurd hi (by omega)
theorem mk_95 : mk_m 95 := ⟨⟨rfl, rfl⟩, ⟨rfl, rfl⟩, by decide +kernel, ⟨⟨rfl, rfl⟩, ⟨rfl, rfl⟩⟩⟩
theorem wk_96_0 : wk_l "TrailStoreModel" "syncAll" rt_96_0 := ⟨trivial, ⟨rfl, rfl⟩, trivial, trivial, trivial, trivial, trivial, trivial, trivial, trivial, trivial, ⟨rfl, rfl⟩, trivial, trivial, ⟨rfl, rfl⟩, trivial, trivial⟩
theorem wk_96_1 : wk_l "TrailStoreModel" "syncAll" rt_96_1 := ⟨trivial, trivial, trivial, ⟨⟨rfl, rfl⟩, Or.inl rfl⟩, trivial, trivial, ⟨⟨rfl, rfl⟩, Or.inl rfl⟩, trivial, trivial, trivial⟩
theorem wk_96 : ∀ l ∈ rt_96, wk_l "TrailStoreModel" "syncAll" l := by
  intro l hl
  simp only [rt_96, List.mem_cons, List.not_mem_nil, or_false] at hl
  rcases hl with rfl | rfl
  · exact wk_96_0
  · exact wk_96_1
theorem dk_96_0 : (List.range 32).all (fun i => dk_i prog_9_method_9_code rt_96 (0 + i)) = true := by decide +kernel
theorem dk_96 : ∀ i, i < 32 → dk_i prog_9_method_9_code rt_96 i = true := by
  intro i hi
  by_cases h0 : i < 32
  · have := List.all_eq_true.mp dk_96_0 (i - 0) (List.mem_range.mpr (by omega))
    rwa [show 0 + (i - 0) = i by omega] at this
  exact absurd hi (by omega)
theorem mk_96 : mk_m 96 := ⟨⟨rfl, rfl⟩, ⟨rfl, rfl⟩, by decide +kernel, ⟨⟨rfl, rfl⟩, ⟨rfl, rfl⟩⟩⟩
theorem wk_97_0 : wk_l "TrailStoreModel" "powerFails" rt_97_0 := ⟨trivial, trivial, trivial, trivial, ⟨rfl, rfl⟩, trivial, trivial, trivial, trivial, trivial, trivial, trivial, trivial, trivial, trivial, trivial, trivial⟩
theorem wk_97_1 : wk_l "TrailStoreModel" "powerFails" rt_97_1 := ⟨⟨rfl, rfl⟩, trivial, trivial, trivial, trivial, ⟨rfl, rfl⟩, trivial, trivial, trivial, trivial, ⟨rfl, rfl⟩, trivial, trivial, trivial, trivial, trivial, trivial⟩
theorem wk_97_2 : wk_l "TrailStoreModel" "powerFails" rt_97_2 := ⟨trivial, ⟨rfl, rfl⟩, trivial, trivial, trivial, trivial, trivial, trivial, ⟨rfl, rfl⟩, trivial, trivial, ⟨rfl, rfl⟩, trivial, trivial, trivial, trivial, trivial⟩
theorem wk_97_3 : wk_l "TrailStoreModel" "powerFails" rt_97_3 := ⟨trivial, trivial, trivial, ⟨⟨rfl, rfl⟩, Or.inl rfl⟩, trivial, trivial, ⟨⟨rfl, rfl⟩, Or.inl rfl⟩, trivial, trivial, ⟨⟨rfl, rfl⟩, Or.inl rfl⟩, trivial, trivial, ⟨⟨rfl, rfl⟩, Or.inl rfl⟩, trivial, trivial, ⟨⟨rfl, rfl⟩, Or.inl rfl⟩, trivial⟩
theorem wk_97_4 : wk_l "TrailStoreModel" "powerFails" rt_97_4 := ⟨trivial, trivial, ⟨⟨rfl, rfl⟩, Or.inl rfl⟩, trivial, trivial, ⟨⟨rfl, rfl⟩, Or.inl rfl⟩, trivial, trivial, ⟨⟨rfl, rfl⟩, Or.inl rfl⟩, trivial, trivial, trivial, trivial, trivial, trivial, ⟨rfl, rfl⟩, trivial⟩
theorem wk_97_5 : wk_l "TrailStoreModel" "powerFails" rt_97_5 := ⟨trivial, trivial, trivial, trivial, trivial, trivial, trivial⟩
theorem wk_97 : ∀ l ∈ rt_97, wk_l "TrailStoreModel" "powerFails" l := by
  intro l hl
  simp only [rt_97, List.mem_cons, List.not_mem_nil, or_false] at hl
  rcases hl with rfl | rfl | rfl | rfl | rfl | rfl
  · exact wk_97_0
  · exact wk_97_1
  · exact wk_97_2
  · exact wk_97_3
  · exact wk_97_4
  · exact wk_97_5
theorem dk_97_0 : (List.range 48).all (fun i => dk_i prog_9_method_10_code rt_97 (0 + i)) = true := by decide +kernel
theorem dk_97_1 : (List.range 48).all (fun i => dk_i prog_9_method_10_code rt_97 (48 + i)) = true := by decide +kernel
theorem dk_97 : ∀ i, i < 96 → dk_i prog_9_method_10_code rt_97 i = true := by
  intro i hi
  by_cases h0 : i < 48
  · have := List.all_eq_true.mp dk_97_0 (i - 0) (List.mem_range.mpr (by omega))
    rwa [show 0 + (i - 0) = i by omega] at this
  by_cases h1 : i < 96
  · have := List.all_eq_true.mp dk_97_1 (i - 48) (List.mem_range.mpr (by omega))
    rwa [show 48 + (i - 48) = i by omega] at this
  exact absurd hi (by omega)
theorem mk_97 : mk_m 97 := ⟨⟨rfl, rfl⟩, ⟨rfl, rfl⟩, by decide +kernel, ⟨⟨rfl, rfl⟩, ⟨rfl, rfl⟩⟩⟩
theorem wk_98_0 : wk_l "TrailStoreModel" "isRecord" rt_98_0 := ⟨trivial, trivial, trivial, ⟨rfl, rfl⟩, trivial, trivial, trivial, trivial, trivial, trivial, ⟨rfl, rfl⟩, trivial, trivial, trivial, trivial, trivial, trivial⟩
theorem wk_98_1 : wk_l "TrailStoreModel" "isRecord" rt_98_1 := ⟨trivial, trivial, trivial, trivial, trivial, trivial, trivial, trivial, trivial, trivial, trivial, trivial, trivial, trivial, trivial, trivial, trivial⟩
theorem wk_98_2 : wk_l "TrailStoreModel" "isRecord" rt_98_2 := ⟨trivial, trivial, trivial, trivial, trivial, ⟨rfl, rfl⟩, trivial, trivial, trivial, trivial, trivial, trivial, trivial, trivial, trivial, trivial, trivial⟩
theorem wk_98_3 : wk_l "TrailStoreModel" "isRecord" rt_98_3 := ⟨⟨rfl, rfl⟩, trivial, trivial, trivial, trivial, trivial, trivial, ⟨rfl, rfl⟩, trivial, trivial, trivial, trivial, trivial, trivial, trivial, ⟨rfl, rfl⟩, trivial⟩
theorem wk_98_4 : wk_l "TrailStoreModel" "isRecord" rt_98_4 := ⟨trivial, trivial, trivial, trivial, trivial, trivial, trivial, trivial, ⟨rfl, rfl⟩, trivial, ⟨rfl, rfl⟩, trivial, trivial, trivial, trivial, trivial, trivial⟩
theorem wk_98_5 : wk_l "TrailStoreModel" "isRecord" rt_98_5 := ⟨trivial, trivial, trivial, trivial⟩
theorem wk_98 : ∀ l ∈ rt_98, wk_l "TrailStoreModel" "isRecord" l := by
  intro l hl
  simp only [rt_98, List.mem_cons, List.not_mem_nil, or_false] at hl
  rcases hl with rfl | rfl | rfl | rfl | rfl | rfl
  · exact wk_98_0
  · exact wk_98_1
  · exact wk_98_2
  · exact wk_98_3
  · exact wk_98_4
  · exact wk_98_5
theorem dk_98_0 : (List.range 48).all (fun i => dk_i prog_9_method_11_code rt_98 (0 + i)) = true := by decide +kernel
theorem dk_98_1 : (List.range 48).all (fun i => dk_i prog_9_method_11_code rt_98 (48 + i)) = true := by decide +kernel
theorem dk_98 : ∀ i, i < 96 → dk_i prog_9_method_11_code rt_98 i = true := by
  intro i hi
  by_cases h0 : i < 48
  · have := List.all_eq_true.mp dk_98_0 (i - 0) (List.mem_range.mpr (by omega))
    rwa [show 0 + (i - 0) = i by omega] at this
  by_cases h1 : i < 96
  · have := List.all_eq_true.mp dk_98_1 (i - 48) (List.mem_range.mpr (by omega))
    rwa [show 48 + (i - 48) = i by omega] at this
  exact absurd hi (by omega)
theorem mk_98 : mk_m 98 := ⟨⟨rfl, rfl⟩, ⟨rfl, rfl⟩, by decide +kernel, ⟨⟨rfl, rfl⟩, ⟨rfl, rfl⟩⟩⟩
theorem wk_99_0 : wk_l "TrailStoreModel" "sizeAt" rt_99_0 := ⟨trivial, trivial, trivial, trivial, trivial, trivial, ⟨rfl, rfl⟩, trivial, trivial, trivial⟩
theorem wk_99 : ∀ l ∈ rt_99, wk_l "TrailStoreModel" "sizeAt" l := by
  intro l hl
  simp only [rt_99, List.mem_cons, List.not_mem_nil, or_false] at hl
  subst hl
  exact wk_99_0
theorem dk_99_0 : (List.range 16).all (fun i => dk_i prog_9_method_12_code rt_99 (0 + i)) = true := by decide +kernel
theorem dk_99 : ∀ i, i < 16 → dk_i prog_9_method_12_code rt_99 i = true := by
  intro i hi
  by_cases h0 : i < 16
  · have := List.all_eq_true.mp dk_99_0 (i - 0) (List.mem_range.mpr (by omega))
    rwa [show 0 + (i - 0) = i by omega] at this
  exact absurd hi (by omega)
theorem mk_99 : mk_m 99 := ⟨⟨rfl, rfl⟩, ⟨rfl, rfl⟩, by decide +kernel, ⟨⟨rfl, rfl⟩, ⟨rfl, rfl⟩⟩⟩
theorem wk_100_0 : wk_l "TrailStoreModel" "append" rt_100_0 := ⟨trivial, trivial, ⟨rfl, rfl⟩, trivial, trivial, trivial, ⟨rfl, rfl⟩, trivial, trivial, trivial, trivial, trivial, ⟨rfl, rfl⟩, trivial, ⟨rfl, rfl⟩, trivial, trivial⟩
theorem wk_100_1 : wk_l "TrailStoreModel" "append" rt_100_1 := ⟨trivial, trivial, trivial, trivial, trivial, trivial, trivial, trivial, ⟨rfl, rfl⟩, trivial, trivial, ⟨rfl, rfl⟩, trivial, trivial, trivial, trivial, trivial⟩
theorem wk_100_2 : wk_l "TrailStoreModel" "append" rt_100_2 := ⟨trivial, trivial, trivial, trivial, ⟨rfl, rfl⟩, trivial, trivial, trivial, ⟨rfl, rfl⟩, trivial, ⟨rfl, rfl⟩, trivial, trivial, trivial, trivial, ⟨rfl, rfl⟩, trivial⟩
theorem wk_100_3 : wk_l "TrailStoreModel" "append" rt_100_3 := ⟨trivial, trivial, trivial, trivial, trivial, ⟨rfl, rfl⟩, trivial, trivial, trivial, trivial, trivial, ⟨rfl, rfl⟩, trivial, trivial, trivial, trivial, trivial⟩
theorem wk_100_4 : wk_l "TrailStoreModel" "append" rt_100_4 := ⟨trivial, ⟨rfl, rfl⟩, trivial, trivial, trivial, trivial, trivial, trivial, ⟨rfl, rfl⟩, ⟨rfl, rfl⟩, trivial, trivial, trivial, ⟨rfl, rfl⟩, ⟨rfl, rfl⟩, trivial, trivial⟩
theorem wk_100_5 : wk_l "TrailStoreModel" "append" rt_100_5 := ⟨trivial, trivial, ⟨rfl, rfl⟩, trivial, ⟨rfl, rfl⟩, trivial, ⟨rfl, rfl⟩, trivial, trivial, trivial, trivial, trivial, ⟨rfl, rfl⟩, trivial, trivial, trivial, trivial⟩
theorem wk_100_6 : wk_l "TrailStoreModel" "append" rt_100_6 := ⟨trivial, ⟨⟨rfl, rfl⟩, Or.inl rfl⟩, trivial, trivial, ⟨rfl, rfl⟩, trivial, trivial, ⟨⟨rfl, rfl⟩, Or.inl rfl⟩, trivial, trivial, trivial⟩
theorem wk_100 : ∀ l ∈ rt_100, wk_l "TrailStoreModel" "append" l := by
  intro l hl
  simp only [rt_100, List.mem_cons, List.not_mem_nil, or_false] at hl
  rcases hl with rfl | rfl | rfl | rfl | rfl | rfl | rfl
  · exact wk_100_0
  · exact wk_100_1
  · exact wk_100_2
  · exact wk_100_3
  · exact wk_100_4
  · exact wk_100_5
  · exact wk_100_6
theorem dk_100_0 : (List.range 48).all (fun i => dk_i prog_9_method_13_code rt_100 (0 + i)) = true := by decide +kernel
theorem dk_100_1 : (List.range 48).all (fun i => dk_i prog_9_method_13_code rt_100 (48 + i)) = true := by decide +kernel
theorem dk_100_2 : (List.range 16).all (fun i => dk_i prog_9_method_13_code rt_100 (96 + i)) = true := by decide +kernel
theorem dk_100 : ∀ i, i < 112 → dk_i prog_9_method_13_code rt_100 i = true := by
  intro i hi
  by_cases h0 : i < 48
  · have := List.all_eq_true.mp dk_100_0 (i - 0) (List.mem_range.mpr (by omega))
    rwa [show 0 + (i - 0) = i by omega] at this
  by_cases h1 : i < 96
  · have := List.all_eq_true.mp dk_100_1 (i - 48) (List.mem_range.mpr (by omega))
    rwa [show 48 + (i - 48) = i by omega] at this
  by_cases h2 : i < 112
  · have := List.all_eq_true.mp dk_100_2 (i - 96) (List.mem_range.mpr (by omega))
    rwa [show 96 + (i - 96) = i by omega] at this
  exact absurd hi (by omega)
theorem mk_100 : mk_m 100 := ⟨⟨rfl, rfl⟩, ⟨rfl, rfl⟩, by decide +kernel, ⟨⟨rfl, rfl⟩, ⟨rfl, rfl⟩⟩⟩
theorem wk_101_0 : wk_l "TrailStoreModel" "remember" rt_101_0 := ⟨trivial, trivial, ⟨rfl, rfl⟩, trivial, ⟨rfl, rfl⟩, trivial, trivial, trivial, trivial, trivial, trivial, trivial, ⟨⟨rfl, rfl⟩, Or.inl rfl⟩, trivial, ⟨rfl, rfl⟩, trivial, trivial⟩
theorem wk_101_1 : wk_l "TrailStoreModel" "remember" rt_101_1 := ⟨trivial, trivial, trivial, ⟨rfl, rfl⟩, trivial, trivial, trivial, trivial, ⟨rfl, rfl⟩, trivial, trivial, trivial, trivial, trivial⟩
theorem wk_101 : ∀ l ∈ rt_101, wk_l "TrailStoreModel" "remember" l := by
  intro l hl
  simp only [rt_101, List.mem_cons, List.not_mem_nil, or_false] at hl
  rcases hl with rfl | rfl
  · exact wk_101_0
  · exact wk_101_1
theorem dk_101_0 : (List.range 32).all (fun i => dk_i prog_9_method_14_code rt_101 (0 + i)) = true := by decide +kernel
theorem dk_101 : ∀ i, i < 32 → dk_i prog_9_method_14_code rt_101 i = true := by
  intro i hi
  by_cases h0 : i < 32
  · have := List.all_eq_true.mp dk_101_0 (i - 0) (List.mem_range.mpr (by omega))
    rwa [show 0 + (i - 0) = i by omega] at this
  exact absurd hi (by omega)
theorem mk_101 : mk_m 101 := ⟨⟨rfl, rfl⟩, ⟨rfl, rfl⟩, by decide +kernel, ⟨⟨rfl, rfl⟩, ⟨rfl, rfl⟩⟩⟩
theorem wk_102_0 : wk_l "TrailStoreModel" "tableByte" rt_102_0 := ⟨trivial, trivial, trivial, ⟨rfl, rfl⟩, trivial, trivial, trivial, trivial, trivial, trivial, ⟨rfl, rfl⟩, trivial, trivial⟩
theorem wk_102 : ∀ l ∈ rt_102, wk_l "TrailStoreModel" "tableByte" l := by
  intro l hl
  simp only [rt_102, List.mem_cons, List.not_mem_nil, or_false] at hl
  subst hl
  exact wk_102_0
theorem dk_102_0 : (List.range 16).all (fun i => dk_i prog_9_method_15_code rt_102 (0 + i)) = true := by decide +kernel
theorem dk_102 : ∀ i, i < 16 → dk_i prog_9_method_15_code rt_102 i = true := by
  intro i hi
  by_cases h0 : i < 16
  · have := List.all_eq_true.mp dk_102_0 (i - 0) (List.mem_range.mpr (by omega))
    rwa [show 0 + (i - 0) = i by omega] at this
  exact absurd hi (by omega)
theorem mk_102 : mk_m 102 := ⟨⟨rfl, rfl⟩, ⟨rfl, rfl⟩, by decide +kernel, ⟨⟨rfl, rfl⟩, ⟨rfl, rfl⟩⟩⟩
theorem wk_103_0 : wk_l "TrailStoreModel" "tableFour" rt_103_0 := ⟨trivial, trivial, trivial, ⟨rfl, rfl⟩, trivial, trivial, trivial, trivial, trivial, trivial, ⟨rfl, rfl⟩, trivial, trivial⟩
theorem wk_103 : ∀ l ∈ rt_103, wk_l "TrailStoreModel" "tableFour" l := by
  intro l hl
  simp only [rt_103, List.mem_cons, List.not_mem_nil, or_false] at hl
  subst hl
  exact wk_103_0
theorem dk_103_0 : (List.range 16).all (fun i => dk_i prog_9_method_16_code rt_103 (0 + i)) = true := by decide +kernel
theorem dk_103 : ∀ i, i < 16 → dk_i prog_9_method_16_code rt_103 i = true := by
  intro i hi
  by_cases h0 : i < 16
  · have := List.all_eq_true.mp dk_103_0 (i - 0) (List.mem_range.mpr (by omega))
    rwa [show 0 + (i - 0) = i by omega] at this
  exact absurd hi (by omega)
theorem mk_103 : mk_m 103 := ⟨⟨rfl, rfl⟩, ⟨rfl, rfl⟩, by decide +kernel, ⟨⟨rfl, rfl⟩, ⟨rfl, rfl⟩⟩⟩
theorem wk_104_0 : wk_l "TrailStoreModel" "levelOf" rt_104_0 := ⟨trivial, trivial, trivial, ⟨rfl, rfl⟩, trivial, trivial⟩
theorem wk_104 : ∀ l ∈ rt_104, wk_l "TrailStoreModel" "levelOf" l := by
  intro l hl
  simp only [rt_104, List.mem_cons, List.not_mem_nil, or_false] at hl
  subst hl
  exact wk_104_0
theorem dk_104_0 : (List.range 16).all (fun i => dk_i prog_9_method_17_code rt_104 (0 + i)) = true := by decide +kernel
theorem dk_104 : ∀ i, i < 16 → dk_i prog_9_method_17_code rt_104 i = true := by
  intro i hi
  by_cases h0 : i < 16
  · have := List.all_eq_true.mp dk_104_0 (i - 0) (List.mem_range.mpr (by omega))
    rwa [show 0 + (i - 0) = i by omega] at this
  exact absurd hi (by omega)
theorem mk_104 : mk_m 104 := ⟨⟨rfl, rfl⟩, ⟨rfl, rfl⟩, by decide +kernel, ⟨⟨rfl, rfl⟩, ⟨rfl, rfl⟩⟩⟩
theorem wk_105_0 : wk_l "TrailStoreModel" "bitsOf" rt_105_0 := ⟨trivial, trivial, trivial, trivial, trivial, trivial, trivial, trivial, trivial, trivial, trivial, trivial, trivial, trivial, trivial, trivial, trivial⟩
theorem wk_105_1 : wk_l "TrailStoreModel" "bitsOf" rt_105_1 := ⟨trivial, trivial, trivial⟩
theorem wk_105 : ∀ l ∈ rt_105, wk_l "TrailStoreModel" "bitsOf" l := by
  intro l hl
  simp only [rt_105, List.mem_cons, List.not_mem_nil, or_false] at hl
  rcases hl with rfl | rfl
  · exact wk_105_0
  · exact wk_105_1
theorem dk_105_0 : (List.range 32).all (fun i => dk_i prog_9_method_18_code rt_105 (0 + i)) = true := by decide +kernel
theorem dk_105 : ∀ i, i < 32 → dk_i prog_9_method_18_code rt_105 i = true := by
  intro i hi
  by_cases h0 : i < 32
  · have := List.all_eq_true.mp dk_105_0 (i - 0) (List.mem_range.mpr (by omega))
    rwa [show 0 + (i - 0) = i by omega] at this
  exact absurd hi (by omega)
theorem mk_105 : mk_m 105 := ⟨⟨rfl, rfl⟩, ⟨rfl, rfl⟩, by decide +kernel, ⟨rfl, rfl⟩⟩
theorem wk_106_0 : wk_l "TrailStoreModel" "placeIn" rt_106_0 := ⟨trivial, trivial, trivial, trivial, trivial, trivial, ⟨rfl, rfl⟩, trivial, trivial, trivial, trivial, trivial, trivial, trivial, trivial, ⟨rfl, rfl⟩, trivial⟩
theorem wk_106_1 : wk_l "TrailStoreModel" "placeIn" rt_106_1 := ⟨trivial, trivial, trivial, trivial, trivial, trivial, trivial, trivial, trivial, trivial, trivial, trivial, trivial⟩
theorem wk_106 : ∀ l ∈ rt_106, wk_l "TrailStoreModel" "placeIn" l := by
  intro l hl
  simp only [rt_106, List.mem_cons, List.not_mem_nil, or_false] at hl
  rcases hl with rfl | rfl
  · exact wk_106_0
  · exact wk_106_1
theorem dk_106_0 : (List.range 32).all (fun i => dk_i prog_9_method_19_code rt_106 (0 + i)) = true := by decide +kernel
theorem dk_106 : ∀ i, i < 32 → dk_i prog_9_method_19_code rt_106 i = true := by
  intro i hi
  by_cases h0 : i < 32
  · have := List.all_eq_true.mp dk_106_0 (i - 0) (List.mem_range.mpr (by omega))
    rwa [show 0 + (i - 0) = i by omega] at this
  exact absurd hi (by omega)
theorem mk_106 : mk_m 106 := ⟨⟨rfl, rfl⟩, ⟨rfl, rfl⟩, by decide +kernel, ⟨⟨rfl, rfl⟩, ⟨rfl, rfl⟩⟩⟩
theorem wk_107_0 : wk_l "TrailStoreModel" "find" rt_107_0 := ⟨trivial, trivial, ⟨⟨rfl, rfl⟩, Or.inl rfl⟩, trivial, trivial, ⟨rfl, rfl⟩, trivial, trivial, trivial, trivial, trivial, trivial, ⟨⟨rfl, rfl⟩, Or.inl rfl⟩, trivial, ⟨rfl, rfl⟩, trivial, trivial⟩
theorem wk_107_1 : wk_l "TrailStoreModel" "find" rt_107_1 := ⟨trivial, trivial, ⟨rfl, rfl⟩, trivial, trivial, ⟨⟨rfl, rfl⟩, Or.inl rfl⟩, trivial, trivial, ⟨rfl, rfl⟩, trivial, trivial, ⟨⟨rfl, rfl⟩, Or.inl rfl⟩, trivial, trivial, ⟨rfl, rfl⟩, trivial, trivial⟩
theorem wk_107_2 : wk_l "TrailStoreModel" "find" rt_107_2 := ⟨trivial, ⟨⟨rfl, rfl⟩, Or.inl rfl⟩, trivial, trivial, trivial, trivial, trivial, trivial, ⟨rfl, rfl⟩, trivial, trivial, trivial, trivial, ⟨rfl, rfl⟩, trivial, trivial, trivial⟩
theorem wk_107_3 : wk_l "TrailStoreModel" "find" rt_107_3 := ⟨trivial, trivial, trivial, trivial, trivial, trivial, trivial, ⟨rfl, rfl⟩, ⟨⟨rfl, rfl⟩, Or.inl rfl⟩, trivial, trivial, trivial, trivial, trivial, trivial, ⟨rfl, rfl⟩, trivial⟩
theorem wk_107_4 : wk_l "TrailStoreModel" "find" rt_107_4 := ⟨⟨⟨rfl, rfl⟩, Or.inl rfl⟩, trivial, trivial, trivial, trivial, trivial, trivial, ⟨rfl, rfl⟩, ⟨⟨rfl, rfl⟩, Or.inl rfl⟩, trivial, trivial, trivial, trivial, trivial, trivial, trivial⟩
theorem wk_107 : ∀ l ∈ rt_107, wk_l "TrailStoreModel" "find" l := by
  intro l hl
  simp only [rt_107, List.mem_cons, List.not_mem_nil, or_false] at hl
  rcases hl with rfl | rfl | rfl | rfl | rfl
  · exact wk_107_0
  · exact wk_107_1
  · exact wk_107_2
  · exact wk_107_3
  · exact wk_107_4
theorem dk_107_0 : (List.range 48).all (fun i => dk_i prog_9_method_20_code rt_107 (0 + i)) = true := by decide +kernel
theorem dk_107_1 : (List.range 32).all (fun i => dk_i prog_9_method_20_code rt_107 (48 + i)) = true := by decide +kernel
theorem dk_107 : ∀ i, i < 80 → dk_i prog_9_method_20_code rt_107 i = true := by
  intro i hi
  by_cases h0 : i < 48
  · have := List.all_eq_true.mp dk_107_0 (i - 0) (List.mem_range.mpr (by omega))
    rwa [show 0 + (i - 0) = i by omega] at this
  by_cases h1 : i < 80
  · have := List.all_eq_true.mp dk_107_1 (i - 48) (List.mem_range.mpr (by omega))
    rwa [show 48 + (i - 48) = i by omega] at this
  exact absurd hi (by omega)
theorem mk_107 : mk_m 107 := ⟨⟨rfl, rfl⟩, ⟨rfl, rfl⟩, by decide +kernel, ⟨⟨rfl, rfl⟩, ⟨rfl, rfl⟩⟩⟩
theorem wk_108_0 : wk_l "TrailStoreModel" "isThere" rt_108_0 := ⟨trivial, trivial, ⟨rfl, rfl⟩, trivial, trivial, ⟨rfl, rfl⟩, trivial, trivial, trivial, trivial, trivial, trivial, trivial⟩
theorem wk_108 : ∀ l ∈ rt_108, wk_l "TrailStoreModel" "isThere" l := by
  intro l hl
  simp only [rt_108, List.mem_cons, List.not_mem_nil, or_false] at hl
  subst hl
  exact wk_108_0
theorem dk_108_0 : (List.range 16).all (fun i => dk_i prog_9_method_21_code rt_108 (0 + i)) = true := by decide +kernel
theorem dk_108 : ∀ i, i < 16 → dk_i prog_9_method_21_code rt_108 i = true := by
  intro i hi
  by_cases h0 : i < 16
  · have := List.all_eq_true.mp dk_108_0 (i - 0) (List.mem_range.mpr (by omega))
    rwa [show 0 + (i - 0) = i by omega] at this
  exact absurd hi (by omega)
theorem mk_108 : mk_m 108 := ⟨⟨rfl, rfl⟩, ⟨rfl, rfl⟩, by decide +kernel, ⟨⟨rfl, rfl⟩, ⟨rfl, rfl⟩⟩⟩
theorem wk_109_0 : wk_l "TrailStoreModel" "clearNew" rt_109_0 := ⟨trivial, trivial, trivial, trivial, trivial, trivial, ⟨rfl, rfl⟩, trivial, trivial, trivial, trivial, trivial, trivial, trivial⟩
theorem wk_109 : ∀ l ∈ rt_109, wk_l "TrailStoreModel" "clearNew" l := by
  intro l hl
  simp only [rt_109, List.mem_cons, List.not_mem_nil, or_false] at hl
  subst hl
  exact wk_109_0
theorem dk_109_0 : (List.range 16).all (fun i => dk_i prog_9_method_22_code rt_109 (0 + i)) = true := by decide +kernel
theorem dk_109 : ∀ i, i < 16 → dk_i prog_9_method_22_code rt_109 i = true := by
  intro i hi
  by_cases h0 : i < 16
  · have := List.all_eq_true.mp dk_109_0 (i - 0) (List.mem_range.mpr (by omega))
    rwa [show 0 + (i - 0) = i by omega] at this
  exact absurd hi (by omega)
theorem mk_109 : mk_m 109 := ⟨⟨rfl, rfl⟩, ⟨rfl, rfl⟩, by decide +kernel, ⟨⟨rfl, rfl⟩, ⟨rfl, rfl⟩⟩⟩
theorem wk_110_0 : wk_l "TrailStoreModel" "gather" rt_110_0 := ⟨trivial, trivial, trivial, trivial, trivial, trivial, ⟨rfl, rfl⟩, trivial, trivial, trivial, trivial, trivial, trivial, trivial, trivial, trivial, trivial⟩
theorem wk_110_1 : wk_l "TrailStoreModel" "gather" rt_110_1 := ⟨trivial, ⟨rfl, rfl⟩, trivial, trivial, ⟨rfl, rfl⟩, trivial, trivial, trivial, trivial, ⟨rfl, rfl⟩, trivial, trivial, trivial, trivial, trivial, trivial, trivial⟩
theorem wk_110_2 : wk_l "TrailStoreModel" "gather" rt_110_2 := ⟨⟨rfl, rfl⟩, trivial, trivial, ⟨rfl, rfl⟩, trivial, trivial, trivial, trivial, trivial, trivial, ⟨rfl, rfl⟩, trivial, trivial, ⟨rfl, rfl⟩, trivial, trivial, trivial⟩
theorem wk_110_3 : wk_l "TrailStoreModel" "gather" rt_110_3 := ⟨trivial, trivial, trivial, trivial, ⟨rfl, rfl⟩, trivial, trivial, trivial, trivial, trivial⟩
theorem wk_110 : ∀ l ∈ rt_110, wk_l "TrailStoreModel" "gather" l := by
  intro l hl
  simp only [rt_110, List.mem_cons, List.not_mem_nil, or_false] at hl
  rcases hl with rfl | rfl | rfl | rfl
  · exact wk_110_0
  · exact wk_110_1
  · exact wk_110_2
  · exact wk_110_3
theorem dk_110_0 : (List.range 48).all (fun i => dk_i prog_9_method_23_code rt_110 (0 + i)) = true := by decide +kernel
theorem dk_110_1 : (List.range 16).all (fun i => dk_i prog_9_method_23_code rt_110 (48 + i)) = true := by decide +kernel
theorem dk_110 : ∀ i, i < 64 → dk_i prog_9_method_23_code rt_110 i = true := by
  intro i hi
  by_cases h0 : i < 48
  · have := List.all_eq_true.mp dk_110_0 (i - 0) (List.mem_range.mpr (by omega))
    rwa [show 0 + (i - 0) = i by omega] at this
  by_cases h1 : i < 64
  · have := List.all_eq_true.mp dk_110_1 (i - 48) (List.mem_range.mpr (by omega))
    rwa [show 48 + (i - 48) = i by omega] at this
  exact absurd hi (by omega)
theorem mk_110 : mk_m 110 := ⟨⟨rfl, rfl⟩, ⟨rfl, rfl⟩, by decide +kernel, ⟨⟨rfl, rfl⟩, ⟨rfl, rfl⟩⟩⟩
theorem wk_111_0 : wk_l "TrailStoreModel" "newCount" rt_111_0 := ⟨trivial, trivial, trivial, trivial, trivial, trivial, trivial, trivial, trivial, ⟨rfl, rfl⟩, trivial, trivial, trivial, trivial, trivial, trivial, trivial⟩
theorem wk_111_1 : wk_l "TrailStoreModel" "newCount" rt_111_1 := ⟨trivial, trivial, trivial, trivial, trivial, trivial, trivial⟩
theorem wk_111 : ∀ l ∈ rt_111, wk_l "TrailStoreModel" "newCount" l := by
  intro l hl
  simp only [rt_111, List.mem_cons, List.not_mem_nil, or_false] at hl
  rcases hl with rfl | rfl
  · exact wk_111_0
  · exact wk_111_1
theorem dk_111_0 : (List.range 32).all (fun i => dk_i prog_9_method_24_code rt_111 (0 + i)) = true := by decide +kernel
theorem dk_111 : ∀ i, i < 32 → dk_i prog_9_method_24_code rt_111 i = true := by
  intro i hi
  by_cases h0 : i < 32
  · have := List.all_eq_true.mp dk_111_0 (i - 0) (List.mem_range.mpr (by omega))
    rwa [show 0 + (i - 0) = i by omega] at this
  exact absurd hi (by omega)
theorem mk_111 : mk_m 111 := ⟨⟨rfl, rfl⟩, ⟨rfl, rfl⟩, by decide +kernel, ⟨⟨rfl, rfl⟩, ⟨rfl, rfl⟩⟩⟩
theorem wk_112_0 : wk_l "TrailStoreModel" "writeTable" rt_112_0 := ⟨trivial, trivial, trivial, trivial, trivial, trivial, trivial, ⟨rfl, rfl⟩, trivial, trivial, trivial, trivial, trivial, trivial, trivial, ⟨rfl, rfl⟩, trivial⟩
theorem wk_112_1 : wk_l "TrailStoreModel" "writeTable" rt_112_1 := ⟨trivial, trivial, trivial, trivial, ⟨rfl, rfl⟩, trivial, trivial, trivial, trivial, trivial, trivial, trivial, trivial, trivial, trivial, trivial, trivial⟩
theorem wk_112_2 : wk_l "TrailStoreModel" "writeTable" rt_112_2 := ⟨trivial, trivial, trivial, trivial, trivial, trivial, trivial, trivial, trivial, trivial, trivial, trivial, trivial, trivial, trivial, trivial, trivial⟩
theorem wk_112_3 : wk_l "TrailStoreModel" "writeTable" rt_112_3 := ⟨trivial, trivial, ⟨rfl, rfl⟩, trivial, trivial, trivial, trivial, trivial, trivial, trivial, trivial, trivial, trivial, ⟨rfl, rfl⟩, trivial, trivial, trivial⟩
theorem wk_112_4 : wk_l "TrailStoreModel" "writeTable" rt_112_4 := ⟨trivial, trivial, trivial, ⟨rfl, rfl⟩, trivial, trivial, trivial, trivial, ⟨rfl, rfl⟩, trivial, trivial, trivial, trivial, trivial, trivial, trivial, trivial⟩
theorem wk_112_5 : wk_l "TrailStoreModel" "writeTable" rt_112_5 := ⟨trivial, trivial, ⟨rfl, rfl⟩, trivial, trivial, ⟨rfl, rfl⟩, trivial, trivial, trivial, trivial, trivial, ⟨rfl, rfl⟩, trivial, trivial, ⟨rfl, rfl⟩, trivial, trivial⟩
theorem wk_112_6 : wk_l "TrailStoreModel" "writeTable" rt_112_6 := ⟨trivial, ⟨rfl, rfl⟩, trivial, trivial, trivial, trivial, trivial, trivial, ⟨rfl, rfl⟩, trivial, trivial, trivial, trivial, ⟨rfl, rfl⟩, trivial, trivial, trivial⟩
theorem wk_112_7 : wk_l "TrailStoreModel" "writeTable" rt_112_7 := ⟨trivial, trivial, trivial, ⟨rfl, rfl⟩, trivial, trivial, trivial, trivial, trivial, ⟨rfl, rfl⟩, trivial, trivial, trivial, trivial, trivial, trivial, trivial⟩
theorem wk_112_8 : wk_l "TrailStoreModel" "writeTable" rt_112_8 := ⟨⟨rfl, rfl⟩, ⟨rfl, rfl⟩, trivial, trivial, trivial, ⟨rfl, rfl⟩, trivial, trivial, trivial, ⟨rfl, rfl⟩, ⟨rfl, rfl⟩, trivial, trivial, ⟨rfl, rfl⟩, trivial, trivial, trivial⟩
theorem wk_112_9 : wk_l "TrailStoreModel" "writeTable" rt_112_9 := ⟨⟨⟨rfl, rfl⟩, Or.inl rfl⟩, trivial, trivial, trivial, trivial, trivial, trivial, trivial, trivial, trivial, trivial, ⟨rfl, rfl⟩, trivial, trivial, trivial⟩
theorem wk_112 : ∀ l ∈ rt_112, wk_l "TrailStoreModel" "writeTable" l := by
  intro l hl
  simp only [rt_112, List.mem_cons, List.not_mem_nil, or_false] at hl
  rcases hl with rfl | rfl | rfl | rfl | rfl | rfl | rfl | rfl | rfl | rfl
  · exact wk_112_0
  · exact wk_112_1
  · exact wk_112_2
  · exact wk_112_3
  · exact wk_112_4
  · exact wk_112_5
  · exact wk_112_6
  · exact wk_112_7
  · exact wk_112_8
  · exact wk_112_9
theorem dk_112_0 : (List.range 48).all (fun i => dk_i prog_9_method_25_code rt_112 (0 + i)) = true := by decide +kernel
theorem dk_112_1 : (List.range 48).all (fun i => dk_i prog_9_method_25_code rt_112 (48 + i)) = true := by decide +kernel
theorem dk_112_2 : (List.range 48).all (fun i => dk_i prog_9_method_25_code rt_112 (96 + i)) = true := by decide +kernel
theorem dk_112_3 : (List.range 16).all (fun i => dk_i prog_9_method_25_code rt_112 (144 + i)) = true := by decide +kernel
theorem dk_112 : ∀ i, i < 160 → dk_i prog_9_method_25_code rt_112 i = true := by
  intro i hi
  by_cases h0 : i < 48
  · have := List.all_eq_true.mp dk_112_0 (i - 0) (List.mem_range.mpr (by omega))
    rwa [show 0 + (i - 0) = i by omega] at this
  by_cases h1 : i < 96
  · have := List.all_eq_true.mp dk_112_1 (i - 48) (List.mem_range.mpr (by omega))
    rwa [show 48 + (i - 48) = i by omega] at this
  by_cases h2 : i < 144
  · have := List.all_eq_true.mp dk_112_2 (i - 96) (List.mem_range.mpr (by omega))
    rwa [show 96 + (i - 96) = i by omega] at this
  by_cases h3 : i < 160
  · have := List.all_eq_true.mp dk_112_3 (i - 144) (List.mem_range.mpr (by omega))
    rwa [show 144 + (i - 144) = i by omega] at this
  exact absurd hi (by omega)
theorem mk_112 : mk_m 112 := ⟨⟨rfl, rfl⟩, ⟨rfl, rfl⟩, by decide +kernel, ⟨⟨rfl, rfl⟩, ⟨rfl, rfl⟩⟩⟩
theorem wk_113_0 : wk_l "TrailStoreModel" "drop" rt_113_0 := ⟨trivial, trivial, trivial, trivial, trivial, trivial, trivial, trivial, ⟨rfl, rfl⟩, trivial, ⟨rfl, rfl⟩, trivial, trivial, trivial, trivial, trivial, trivial⟩
theorem wk_113_1 : wk_l "TrailStoreModel" "drop" rt_113_1 := ⟨trivial, trivial, trivial, trivial, trivial, trivial, trivial, ⟨rfl, rfl⟩, trivial, trivial, ⟨rfl, rfl⟩, trivial, trivial, ⟨rfl, rfl⟩, trivial, trivial, trivial⟩
theorem wk_113_2 : wk_l "TrailStoreModel" "drop" rt_113_2 := ⟨trivial, trivial, trivial, trivial, trivial, trivial, trivial, ⟨rfl, rfl⟩, trivial, trivial, ⟨⟨rfl, rfl⟩, Or.inl rfl⟩, trivial, trivial⟩
theorem wk_113 : ∀ l ∈ rt_113, wk_l "TrailStoreModel" "drop" l := by
  intro l hl
  simp only [rt_113, List.mem_cons, List.not_mem_nil, or_false] at hl
  rcases hl with rfl | rfl | rfl
  · exact wk_113_0
  · exact wk_113_1
  · exact wk_113_2
theorem dk_113_0 : (List.range 48).all (fun i => dk_i prog_9_method_26_code rt_113 (0 + i)) = true := by decide +kernel
theorem dk_113 : ∀ i, i < 48 → dk_i prog_9_method_26_code rt_113 i = true := by
  intro i hi
  by_cases h0 : i < 48
  · have := List.all_eq_true.mp dk_113_0 (i - 0) (List.mem_range.mpr (by omega))
    rwa [show 0 + (i - 0) = i by omega] at this
  exact absurd hi (by omega)
theorem mk_113 : mk_m 113 := ⟨⟨rfl, rfl⟩, ⟨rfl, rfl⟩, by decide +kernel, ⟨⟨rfl, rfl⟩, ⟨rfl, rfl⟩⟩⟩
theorem wk_114_0 : wk_l "TrailStoreModel" "insert" rt_114_0 := ⟨trivial, ⟨rfl, rfl⟩, trivial, trivial, trivial, trivial, trivial, ⟨rfl, rfl⟩, trivial, trivial, ⟨rfl, rfl⟩, trivial, trivial, trivial, trivial, trivial, trivial⟩
theorem wk_114_1 : wk_l "TrailStoreModel" "insert" rt_114_1 := ⟨trivial, trivial, trivial, ⟨rfl, rfl⟩, trivial, trivial, trivial, trivial, trivial, ⟨rfl, rfl⟩, trivial, trivial, ⟨⟨rfl, rfl⟩, Or.inl rfl⟩, trivial, trivial⟩
theorem wk_114 : ∀ l ∈ rt_114, wk_l "TrailStoreModel" "insert" l := by
  intro l hl
  simp only [rt_114, List.mem_cons, List.not_mem_nil, or_false] at hl
  rcases hl with rfl | rfl
  · exact wk_114_0
  · exact wk_114_1
theorem dk_114_0 : (List.range 32).all (fun i => dk_i prog_9_method_27_code rt_114 (0 + i)) = true := by decide +kernel
theorem dk_114 : ∀ i, i < 32 → dk_i prog_9_method_27_code rt_114 i = true := by
  intro i hi
  by_cases h0 : i < 32
  · have := List.all_eq_true.mp dk_114_0 (i - 0) (List.mem_range.mpr (by omega))
    rwa [show 0 + (i - 0) = i by omega] at this
  exact absurd hi (by omega)
theorem mk_114 : mk_m 114 := ⟨⟨rfl, rfl⟩, ⟨rfl, rfl⟩, by decide +kernel, ⟨⟨rfl, rfl⟩, ⟨rfl, rfl⟩⟩⟩
theorem wk_115_0 : wk_l "TrailStoreModel" "countOf" rt_115_0 := ⟨trivial, trivial, trivial, trivial, trivial, trivial, ⟨rfl, rfl⟩, trivial, trivial, trivial, trivial, ⟨rfl, rfl⟩, trivial, trivial, trivial, trivial, trivial⟩
theorem wk_115_1 : wk_l "TrailStoreModel" "countOf" rt_115_1 := ⟨trivial, trivial, trivial, trivial, trivial, trivial, trivial, trivial⟩
theorem wk_115 : ∀ l ∈ rt_115, wk_l "TrailStoreModel" "countOf" l := by
  intro l hl
  simp only [rt_115, List.mem_cons, List.not_mem_nil, or_false] at hl
  rcases hl with rfl | rfl
  · exact wk_115_0
  · exact wk_115_1
theorem dk_115_0 : (List.range 32).all (fun i => dk_i prog_9_method_28_code rt_115 (0 + i)) = true := by decide +kernel
theorem dk_115 : ∀ i, i < 32 → dk_i prog_9_method_28_code rt_115 i = true := by
  intro i hi
  by_cases h0 : i < 32
  · have := List.all_eq_true.mp dk_115_0 (i - 0) (List.mem_range.mpr (by omega))
    rwa [show 0 + (i - 0) = i by omega] at this
  exact absurd hi (by omega)
theorem mk_115 : mk_m 115 := ⟨⟨rfl, rfl⟩, ⟨rfl, rfl⟩, by decide +kernel, ⟨⟨rfl, rfl⟩, ⟨rfl, rfl⟩⟩⟩
theorem wk_116_0 : wk_l "TrailStoreModel" "writeRoot" rt_116_0 := ⟨trivial, trivial, ⟨rfl, rfl⟩, trivial, trivial, ⟨⟨rfl, rfl⟩, Or.inl rfl⟩, trivial, trivial, ⟨rfl, rfl⟩, trivial, trivial, trivial, trivial, trivial, trivial, ⟨rfl, rfl⟩, trivial⟩
theorem wk_116_1 : wk_l "TrailStoreModel" "writeRoot" rt_116_1 := ⟨trivial, trivial, trivial, trivial, trivial, trivial, ⟨rfl, rfl⟩, trivial, ⟨rfl, rfl⟩, trivial, trivial, trivial, trivial, trivial, ⟨rfl, rfl⟩, ⟨rfl, rfl⟩, trivial⟩
theorem wk_116_2 : wk_l "TrailStoreModel" "writeRoot" rt_116_2 := ⟨trivial, trivial, trivial, ⟨rfl, rfl⟩, ⟨rfl, rfl⟩, trivial, trivial, trivial, ⟨rfl, rfl⟩, ⟨rfl, rfl⟩, trivial, trivial, trivial, ⟨rfl, rfl⟩, ⟨rfl, rfl⟩, trivial, trivial⟩
theorem wk_116_3 : wk_l "TrailStoreModel" "writeRoot" rt_116_3 := ⟨trivial, trivial, ⟨rfl, rfl⟩, ⟨rfl, rfl⟩, trivial, ⟨rfl, rfl⟩, trivial, trivial, ⟨rfl, rfl⟩, trivial, trivial, trivial, trivial, trivial, trivial, ⟨rfl, rfl⟩, trivial⟩
theorem wk_116_4 : wk_l "TrailStoreModel" "writeRoot" rt_116_4 := ⟨trivial, trivial, ⟨rfl, rfl⟩, trivial, trivial, trivial, trivial, ⟨rfl, rfl⟩, trivial, trivial, trivial, trivial, trivial, trivial, trivial, trivial, trivial⟩
theorem wk_116_5 : wk_l "TrailStoreModel" "writeRoot" rt_116_5 := ⟨trivial, trivial, ⟨rfl, rfl⟩, trivial, ⟨rfl, rfl⟩, trivial, trivial, trivial, trivial, trivial, ⟨rfl, rfl⟩, ⟨rfl, rfl⟩, trivial, trivial, trivial, trivial, trivial⟩
theorem wk_116_6 : wk_l "TrailStoreModel" "writeRoot" rt_116_6 := ⟨trivial, trivial, ⟨rfl, rfl⟩, trivial, trivial⟩
theorem wk_116 : ∀ l ∈ rt_116, wk_l "TrailStoreModel" "writeRoot" l := by
  intro l hl
  simp only [rt_116, List.mem_cons, List.not_mem_nil, or_false] at hl
  rcases hl with rfl | rfl | rfl | rfl | rfl | rfl | rfl
  · exact wk_116_0
  · exact wk_116_1
  · exact wk_116_2
  · exact wk_116_3
  · exact wk_116_4
  · exact wk_116_5
  · exact wk_116_6
theorem dk_116_0 : (List.range 48).all (fun i => dk_i prog_9_method_29_code rt_116 (0 + i)) = true := by decide +kernel
theorem dk_116_1 : (List.range 48).all (fun i => dk_i prog_9_method_29_code rt_116 (48 + i)) = true := by decide +kernel
theorem dk_116_2 : (List.range 16).all (fun i => dk_i prog_9_method_29_code rt_116 (96 + i)) = true := by decide +kernel
theorem dk_116 : ∀ i, i < 112 → dk_i prog_9_method_29_code rt_116 i = true := by
  intro i hi
  by_cases h0 : i < 48
  · have := List.all_eq_true.mp dk_116_0 (i - 0) (List.mem_range.mpr (by omega))
    rwa [show 0 + (i - 0) = i by omega] at this
  by_cases h1 : i < 96
  · have := List.all_eq_true.mp dk_116_1 (i - 48) (List.mem_range.mpr (by omega))
    rwa [show 48 + (i - 48) = i by omega] at this
  by_cases h2 : i < 112
  · have := List.all_eq_true.mp dk_116_2 (i - 96) (List.mem_range.mpr (by omega))
    rwa [show 96 + (i - 96) = i by omega] at this
  exact absurd hi (by omega)
theorem mk_116 : mk_m 116 := ⟨⟨rfl, rfl⟩, ⟨rfl, rfl⟩, by decide +kernel, ⟨⟨rfl, rfl⟩, ⟨rfl, rfl⟩⟩⟩
theorem wk_117_0 : wk_l "TrailStoreModel" "makeTables" rt_117_0 := ⟨trivial, trivial, trivial, trivial, trivial, trivial, ⟨rfl, rfl⟩, trivial, trivial, trivial, trivial, trivial, trivial, trivial, trivial, trivial, trivial⟩
theorem wk_117_1 : wk_l "TrailStoreModel" "makeTables" rt_117_1 := ⟨trivial, trivial, ⟨rfl, rfl⟩, trivial, trivial, ⟨rfl, rfl⟩, trivial, trivial, trivial, trivial, ⟨rfl, rfl⟩, trivial, trivial, ⟨rfl, rfl⟩, trivial, trivial, trivial⟩
theorem wk_117_2 : wk_l "TrailStoreModel" "makeTables" rt_117_2 := ⟨trivial, trivial, ⟨rfl, rfl⟩, trivial, trivial, ⟨rfl, rfl⟩, trivial, trivial, trivial, trivial, trivial, trivial, trivial, ⟨rfl, rfl⟩, trivial, trivial, trivial⟩
theorem wk_117_3 : wk_l "TrailStoreModel" "makeTables" rt_117_3 := ⟨⟨rfl, rfl⟩, trivial, trivial, trivial, trivial, trivial, ⟨rfl, rfl⟩, trivial, trivial, ⟨rfl, rfl⟩, trivial, trivial, trivial, trivial, trivial, trivial, trivial⟩
theorem wk_117_4 : wk_l "TrailStoreModel" "makeTables" rt_117_4 := ⟨⟨rfl, rfl⟩, trivial, trivial, trivial, ⟨rfl, rfl⟩, trivial, trivial, trivial, trivial, trivial, trivial, trivial, ⟨rfl, rfl⟩, trivial, trivial, trivial, trivial⟩
theorem wk_117_5 : wk_l "TrailStoreModel" "makeTables" rt_117_5 := ⟨trivial, ⟨rfl, rfl⟩, trivial, trivial, ⟨rfl, rfl⟩, trivial, trivial, trivial, ⟨rfl, rfl⟩, trivial, trivial, trivial, trivial, trivial, trivial, trivial, trivial⟩
theorem wk_117_6 : wk_l "TrailStoreModel" "makeTables" rt_117_6 := ⟨trivial, trivial, ⟨rfl, rfl⟩, trivial, trivial, trivial, ⟨rfl, rfl⟩, trivial, trivial, trivial, trivial, ⟨rfl, rfl⟩, trivial, trivial, trivial, ⟨rfl, rfl⟩, trivial⟩
theorem wk_117_7 : wk_l "TrailStoreModel" "makeTables" rt_117_7 := ⟨trivial, trivial, trivial, trivial, trivial, trivial, trivial, trivial, trivial, ⟨rfl, rfl⟩, trivial, trivial, trivial, trivial, trivial, trivial, trivial⟩
theorem wk_117_8 : wk_l "TrailStoreModel" "makeTables" rt_117_8 := ⟨trivial, trivial, ⟨rfl, rfl⟩, trivial, trivial, ⟨rfl, rfl⟩, trivial, trivial, trivial, trivial, trivial, trivial, trivial, ⟨rfl, rfl⟩, trivial, trivial, trivial⟩
theorem wk_117_9 : wk_l "TrailStoreModel" "makeTables" rt_117_9 := ⟨trivial, trivial, trivial, trivial, ⟨rfl, rfl⟩, trivial, trivial, trivial, trivial, trivial, trivial, trivial, trivial, trivial, ⟨rfl, rfl⟩, trivial, trivial⟩
theorem wk_117_10 : wk_l "TrailStoreModel" "makeTables" rt_117_10 := ⟨trivial, ⟨rfl, rfl⟩, trivial, trivial, trivial, trivial, trivial, ⟨rfl, rfl⟩, trivial, trivial, trivial, trivial, trivial, ⟨rfl, rfl⟩, trivial, trivial⟩
theorem wk_117 : ∀ l ∈ rt_117, wk_l "TrailStoreModel" "makeTables" l := by
  intro l hl
  simp only [rt_117, List.mem_cons, List.not_mem_nil, or_false] at hl
  rcases hl with rfl | rfl | rfl | rfl | rfl | rfl | rfl | rfl | rfl | rfl | rfl
  · exact wk_117_0
  · exact wk_117_1
  · exact wk_117_2
  · exact wk_117_3
  · exact wk_117_4
  · exact wk_117_5
  · exact wk_117_6
  · exact wk_117_7
  · exact wk_117_8
  · exact wk_117_9
  · exact wk_117_10
theorem dk_117_0 : (List.range 48).all (fun i => dk_i prog_9_method_30_code rt_117 (0 + i)) = true := by decide +kernel
theorem dk_117_1 : (List.range 48).all (fun i => dk_i prog_9_method_30_code rt_117 (48 + i)) = true := by decide +kernel
theorem dk_117_2 : (List.range 48).all (fun i => dk_i prog_9_method_30_code rt_117 (96 + i)) = true := by decide +kernel
theorem dk_117_3 : (List.range 32).all (fun i => dk_i prog_9_method_30_code rt_117 (144 + i)) = true := by decide +kernel
theorem dk_117 : ∀ i, i < 176 → dk_i prog_9_method_30_code rt_117 i = true := by
  intro i hi
  by_cases h0 : i < 48
  · have := List.all_eq_true.mp dk_117_0 (i - 0) (List.mem_range.mpr (by omega))
    rwa [show 0 + (i - 0) = i by omega] at this
  by_cases h1 : i < 96
  · have := List.all_eq_true.mp dk_117_1 (i - 48) (List.mem_range.mpr (by omega))
    rwa [show 48 + (i - 48) = i by omega] at this
  by_cases h2 : i < 144
  · have := List.all_eq_true.mp dk_117_2 (i - 96) (List.mem_range.mpr (by omega))
    rwa [show 96 + (i - 96) = i by omega] at this
  by_cases h3 : i < 176
  · have := List.all_eq_true.mp dk_117_3 (i - 144) (List.mem_range.mpr (by omega))
    rwa [show 144 + (i - 144) = i by omega] at this
  exact absurd hi (by omega)
theorem mk_117 : mk_m 117 := ⟨⟨rfl, rfl⟩, ⟨rfl, rfl⟩, by decide +kernel, ⟨⟨rfl, rfl⟩, ⟨rfl, rfl⟩⟩⟩
theorem wk_118_0 : wk_l "TrailStoreModel" "checkpointAll" rt_118_0 := ⟨trivial, ⟨rfl, rfl⟩, trivial, trivial, ⟨rfl, rfl⟩, trivial, trivial, ⟨rfl, rfl⟩, trivial, ⟨rfl, rfl⟩, trivial, trivial, trivial, trivial, ⟨⟨rfl, rfl⟩, Or.inl rfl⟩, trivial, trivial⟩
theorem wk_118_1 : wk_l "TrailStoreModel" "checkpointAll" rt_118_1 := ⟨trivial, trivial, trivial, trivial, trivial, ⟨rfl, rfl⟩, trivial, trivial, trivial, trivial, trivial, trivial, ⟨rfl, rfl⟩, trivial, trivial, trivial, trivial⟩
theorem wk_118_2 : wk_l "TrailStoreModel" "checkpointAll" rt_118_2 := ⟨⟨rfl, rfl⟩, ⟨⟨rfl, rfl⟩, Or.inl rfl⟩, trivial, trivial, ⟨rfl, rfl⟩, ⟨⟨rfl, rfl⟩, Or.inl rfl⟩, trivial, ⟨rfl, rfl⟩, trivial, ⟨rfl, rfl⟩, trivial, trivial, ⟨rfl, rfl⟩, trivial, trivial, trivial⟩
theorem wk_118 : ∀ l ∈ rt_118, wk_l "TrailStoreModel" "checkpointAll" l := by
  intro l hl
  simp only [rt_118, List.mem_cons, List.not_mem_nil, or_false] at hl
  rcases hl with rfl | rfl | rfl
  · exact wk_118_0
  · exact wk_118_1
  · exact wk_118_2
theorem dk_118_0 : (List.range 48).all (fun i => dk_i prog_9_method_31_code rt_118 (0 + i)) = true := by decide +kernel
theorem dk_118 : ∀ i, i < 48 → dk_i prog_9_method_31_code rt_118 i = true := by
  intro i hi
  by_cases h0 : i < 48
  · have := List.all_eq_true.mp dk_118_0 (i - 0) (List.mem_range.mpr (by omega))
    rwa [show 0 + (i - 0) = i by omega] at this
  exact absurd hi (by omega)
theorem mk_118 : mk_m 118 := ⟨⟨rfl, rfl⟩, ⟨rfl, rfl⟩, by decide +kernel, ⟨⟨rfl, rfl⟩, ⟨rfl, rfl⟩⟩⟩
theorem wk_119_0 : wk_l "TrailStoreModel" "hasRoom" rt_119_0 := ⟨trivial, ⟨rfl, rfl⟩, trivial, trivial, trivial, trivial, ⟨rfl, rfl⟩, trivial, trivial, ⟨rfl, rfl⟩, trivial, trivial, trivial, ⟨rfl, rfl⟩, trivial, trivial, trivial⟩
theorem wk_119_1 : wk_l "TrailStoreModel" "hasRoom" rt_119_1 := ⟨trivial, trivial, trivial, trivial, trivial, trivial, trivial, trivial⟩
theorem wk_119 : ∀ l ∈ rt_119, wk_l "TrailStoreModel" "hasRoom" l := by
  intro l hl
  simp only [rt_119, List.mem_cons, List.not_mem_nil, or_false] at hl
  rcases hl with rfl | rfl
  · exact wk_119_0
  · exact wk_119_1
theorem dk_119_0 : (List.range 32).all (fun i => dk_i prog_9_method_32_code rt_119 (0 + i)) = true := by decide +kernel
theorem dk_119 : ∀ i, i < 32 → dk_i prog_9_method_32_code rt_119 i = true := by
  intro i hi
  by_cases h0 : i < 32
  · have := List.all_eq_true.mp dk_119_0 (i - 0) (List.mem_range.mpr (by omega))
    rwa [show 0 + (i - 0) = i by omega] at this
  exact absurd hi (by omega)
theorem mk_119 : mk_m 119 := ⟨⟨rfl, rfl⟩, ⟨rfl, rfl⟩, by decide +kernel, ⟨⟨rfl, rfl⟩, ⟨rfl, rfl⟩⟩⟩
theorem wk_120_0 : wk_l "TrailStoreModel" "collecting" rt_120_0 := ⟨trivial, ⟨rfl, rfl⟩, trivial, ⟨rfl, rfl⟩, trivial, trivial, ⟨rfl, rfl⟩, trivial, ⟨rfl, rfl⟩, trivial, trivial, trivial, trivial, ⟨rfl, rfl⟩, trivial, trivial, trivial⟩
theorem wk_120_1 : wk_l "TrailStoreModel" "collecting" rt_120_1 := ⟨⟨rfl, rfl⟩, trivial, trivial, trivial, trivial, trivial, trivial, trivial, trivial, trivial, trivial, trivial, trivial, trivial, trivial, trivial, trivial⟩
theorem wk_120_2 : wk_l "TrailStoreModel" "collecting" rt_120_2 := ⟨trivial, trivial, trivial, ⟨rfl, rfl⟩, trivial, trivial, trivial, ⟨rfl, rfl⟩, trivial, trivial, trivial, ⟨rfl, rfl⟩, trivial, trivial, ⟨rfl, rfl⟩, trivial, trivial⟩
theorem wk_120_3 : wk_l "TrailStoreModel" "collecting" rt_120_3 := ⟨trivial, trivial, ⟨rfl, rfl⟩, trivial, trivial, trivial, trivial, trivial, trivial, trivial, trivial, trivial, trivial, trivial, ⟨rfl, rfl⟩, trivial, trivial⟩
theorem wk_120_4 : wk_l "TrailStoreModel" "collecting" rt_120_4 := ⟨trivial, ⟨rfl, rfl⟩, trivial, trivial, trivial, trivial, ⟨rfl, rfl⟩, trivial, trivial, trivial, trivial, trivial, trivial, trivial, trivial, trivial, trivial⟩
theorem wk_120_5 : wk_l "TrailStoreModel" "collecting" rt_120_5 := ⟨trivial, trivial, trivial, trivial, trivial, trivial, trivial, ⟨rfl, rfl⟩, trivial, trivial, trivial, trivial, trivial, trivial, trivial, trivial, trivial⟩
theorem wk_120_6 : wk_l "TrailStoreModel" "collecting" rt_120_6 := ⟨⟨rfl, rfl⟩, trivial, trivial, trivial, trivial, trivial, ⟨rfl, rfl⟩, trivial, trivial, ⟨rfl, rfl⟩, trivial, trivial, trivial, trivial, trivial, trivial, trivial⟩
theorem wk_120_7 : wk_l "TrailStoreModel" "collecting" rt_120_7 := ⟨trivial, ⟨rfl, rfl⟩, trivial, trivial, trivial, trivial, trivial, trivial, trivial, trivial, ⟨rfl, rfl⟩, trivial, trivial, trivial, trivial, trivial, trivial⟩
theorem wk_120_8 : wk_l "TrailStoreModel" "collecting" rt_120_8 := ⟨trivial, trivial, trivial, trivial, ⟨rfl, rfl⟩, trivial, trivial, trivial, ⟨⟨rfl, rfl⟩, Or.inl rfl⟩, trivial, trivial, trivial, ⟨rfl, rfl⟩, trivial, ⟨rfl, rfl⟩, trivial, trivial⟩
theorem wk_120_9 : wk_l "TrailStoreModel" "collecting" rt_120_9 := ⟨trivial, ⟨rfl, rfl⟩, trivial, trivial, trivial, trivial⟩
theorem wk_120 : ∀ l ∈ rt_120, wk_l "TrailStoreModel" "collecting" l := by
  intro l hl
  simp only [rt_120, List.mem_cons, List.not_mem_nil, or_false] at hl
  rcases hl with rfl | rfl | rfl | rfl | rfl | rfl | rfl | rfl | rfl | rfl
  · exact wk_120_0
  · exact wk_120_1
  · exact wk_120_2
  · exact wk_120_3
  · exact wk_120_4
  · exact wk_120_5
  · exact wk_120_6
  · exact wk_120_7
  · exact wk_120_8
  · exact wk_120_9
theorem dk_120_0 : (List.range 48).all (fun i => dk_i prog_9_method_33_code rt_120 (0 + i)) = true := by decide +kernel
theorem dk_120_1 : (List.range 48).all (fun i => dk_i prog_9_method_33_code rt_120 (48 + i)) = true := by decide +kernel
theorem dk_120_2 : (List.range 48).all (fun i => dk_i prog_9_method_33_code rt_120 (96 + i)) = true := by decide +kernel
theorem dk_120_3 : (List.range 16).all (fun i => dk_i prog_9_method_33_code rt_120 (144 + i)) = true := by decide +kernel
theorem dk_120 : ∀ i, i < 160 → dk_i prog_9_method_33_code rt_120 i = true := by
  intro i hi
  by_cases h0 : i < 48
  · have := List.all_eq_true.mp dk_120_0 (i - 0) (List.mem_range.mpr (by omega))
    rwa [show 0 + (i - 0) = i by omega] at this
  by_cases h1 : i < 96
  · have := List.all_eq_true.mp dk_120_1 (i - 48) (List.mem_range.mpr (by omega))
    rwa [show 48 + (i - 48) = i by omega] at this
  by_cases h2 : i < 144
  · have := List.all_eq_true.mp dk_120_2 (i - 96) (List.mem_range.mpr (by omega))
    rwa [show 96 + (i - 96) = i by omega] at this
  by_cases h3 : i < 160
  · have := List.all_eq_true.mp dk_120_3 (i - 144) (List.mem_range.mpr (by omega))
    rwa [show 144 + (i - 144) = i by omega] at this
  exact absurd hi (by omega)
theorem mk_120 : mk_m 120 := ⟨⟨rfl, rfl⟩, ⟨rfl, rfl⟩, by decide +kernel, ⟨⟨rfl, rfl⟩, ⟨rfl, rfl⟩⟩⟩
theorem wk_121_0 : wk_l "TrailStoreModel" "passLog" rt_121_0 := ⟨trivial, ⟨rfl, rfl⟩, trivial, trivial, trivial, trivial, ⟨rfl, rfl⟩, trivial, trivial, ⟨rfl, rfl⟩, trivial, trivial, trivial, trivial, trivial, trivial, trivial⟩
theorem wk_121_1 : wk_l "TrailStoreModel" "passLog" rt_121_1 := ⟨⟨rfl, rfl⟩, trivial, trivial, trivial, trivial⟩
theorem wk_121 : ∀ l ∈ rt_121, wk_l "TrailStoreModel" "passLog" l := by
  intro l hl
  simp only [rt_121, List.mem_cons, List.not_mem_nil, or_false] at hl
  rcases hl with rfl | rfl
  · exact wk_121_0
  · exact wk_121_1
theorem dk_121_0 : (List.range 32).all (fun i => dk_i prog_9_method_34_code rt_121 (0 + i)) = true := by decide +kernel
theorem dk_121 : ∀ i, i < 32 → dk_i prog_9_method_34_code rt_121 i = true := by
  intro i hi
  by_cases h0 : i < 32
  · have := List.all_eq_true.mp dk_121_0 (i - 0) (List.mem_range.mpr (by omega))
    rwa [show 0 + (i - 0) = i by omega] at this
  exact absurd hi (by omega)
theorem mk_121 : mk_m 121 := ⟨⟨rfl, rfl⟩, ⟨rfl, rfl⟩, by decide +kernel, ⟨⟨rfl, rfl⟩, ⟨rfl, rfl⟩⟩⟩
theorem wk_122_0 : wk_l "TrailStoreModel" "wouldHave" rt_122_0 := ⟨trivial, ⟨rfl, rfl⟩, trivial, trivial, trivial, trivial, trivial, ⟨rfl, rfl⟩, trivial, trivial, ⟨rfl, rfl⟩, trivial, ⟨rfl, rfl⟩, trivial, trivial, trivial, trivial⟩
theorem wk_122_1 : wk_l "TrailStoreModel" "wouldHave" rt_122_1 := ⟨trivial, trivial, trivial, trivial, trivial, trivial, trivial, trivial, trivial, trivial, trivial, trivial, trivial, ⟨rfl, rfl⟩, trivial, trivial, trivial⟩
theorem wk_122_2 : wk_l "TrailStoreModel" "wouldHave" rt_122_2 := ⟨trivial, ⟨rfl, rfl⟩, trivial, trivial, trivial, trivial, trivial, trivial, trivial, trivial, trivial, trivial, trivial, trivial, trivial, trivial, trivial⟩
theorem wk_122_3 : wk_l "TrailStoreModel" "wouldHave" rt_122_3 := ⟨trivial, trivial, trivial, trivial, trivial, trivial, trivial, trivial⟩
theorem wk_122 : ∀ l ∈ rt_122, wk_l "TrailStoreModel" "wouldHave" l := by
  intro l hl
  simp only [rt_122, List.mem_cons, List.not_mem_nil, or_false] at hl
  rcases hl with rfl | rfl | rfl | rfl
  · exact wk_122_0
  · exact wk_122_1
  · exact wk_122_2
  · exact wk_122_3
theorem dk_122_0 : (List.range 48).all (fun i => dk_i prog_9_method_35_code rt_122 (0 + i)) = true := by decide +kernel
theorem dk_122_1 : (List.range 16).all (fun i => dk_i prog_9_method_35_code rt_122 (48 + i)) = true := by decide +kernel
theorem dk_122 : ∀ i, i < 64 → dk_i prog_9_method_35_code rt_122 i = true := by
  intro i hi
  by_cases h0 : i < 48
  · have := List.all_eq_true.mp dk_122_0 (i - 0) (List.mem_range.mpr (by omega))
    rwa [show 0 + (i - 0) = i by omega] at this
  by_cases h1 : i < 64
  · have := List.all_eq_true.mp dk_122_1 (i - 48) (List.mem_range.mpr (by omega))
    rwa [show 48 + (i - 48) = i by omega] at this
  exact absurd hi (by omega)
theorem mk_122 : mk_m 122 := ⟨⟨rfl, rfl⟩, ⟨rfl, rfl⟩, by decide +kernel, ⟨⟨rfl, rfl⟩, ⟨rfl, rfl⟩⟩⟩
theorem wk_123_0 : wk_l "TrailStoreModel" "writeBatch" rt_123_0 := ⟨trivial, ⟨rfl, rfl⟩, trivial, trivial, trivial, ⟨rfl, rfl⟩, trivial, trivial, trivial, trivial, trivial, trivial, ⟨rfl, rfl⟩, trivial, trivial, trivial, trivial⟩
theorem wk_123_1 : wk_l "TrailStoreModel" "writeBatch" rt_123_1 := ⟨trivial, ⟨rfl, rfl⟩, trivial, trivial, trivial, trivial, trivial, trivial, trivial, trivial, ⟨rfl, rfl⟩, trivial, trivial, trivial, trivial, ⟨rfl, rfl⟩, trivial⟩
theorem wk_123_2 : wk_l "TrailStoreModel" "writeBatch" rt_123_2 := ⟨trivial, trivial, ⟨rfl, rfl⟩, trivial, ⟨rfl, rfl⟩, trivial, trivial, trivial, trivial, ⟨rfl, rfl⟩, trivial, trivial, trivial, ⟨⟨rfl, rfl⟩, Or.inl rfl⟩, trivial, trivial, trivial⟩
theorem wk_123_3 : wk_l "TrailStoreModel" "writeBatch" rt_123_3 := ⟨⟨⟨rfl, rfl⟩, Or.inl rfl⟩, trivial, trivial, trivial, ⟨rfl, rfl⟩, trivial, trivial, ⟨rfl, rfl⟩, trivial, trivial, trivial, ⟨rfl, rfl⟩, trivial, ⟨rfl, rfl⟩, trivial, trivial, trivial⟩
theorem wk_123_4 : wk_l "TrailStoreModel" "writeBatch" rt_123_4 := ⟨trivial, trivial, ⟨rfl, rfl⟩, trivial, trivial, ⟨rfl, rfl⟩, trivial, trivial, ⟨rfl, rfl⟩, trivial, trivial, trivial, trivial, trivial, trivial, trivial, trivial⟩
theorem wk_123_5 : wk_l "TrailStoreModel" "writeBatch" rt_123_5 := ⟨trivial, trivial, trivial, ⟨rfl, rfl⟩, trivial, trivial, trivial, trivial, ⟨rfl, rfl⟩, trivial, trivial, ⟨rfl, rfl⟩, trivial, trivial, trivial, trivial, trivial⟩
theorem wk_123_6 : wk_l "TrailStoreModel" "writeBatch" rt_123_6 := ⟨trivial, trivial, trivial, trivial, trivial, trivial, trivial, ⟨rfl, rfl⟩, trivial, trivial, trivial, trivial, trivial, trivial, trivial, trivial, trivial⟩
theorem wk_123_7 : wk_l "TrailStoreModel" "writeBatch" rt_123_7 := ⟨trivial, trivial, trivial, trivial, ⟨rfl, rfl⟩, trivial, trivial, trivial, ⟨rfl, rfl⟩, trivial, trivial, ⟨rfl, rfl⟩, trivial, trivial, trivial, trivial, trivial⟩
theorem wk_123_8 : wk_l "TrailStoreModel" "writeBatch" rt_123_8 := ⟨trivial, trivial, trivial, trivial, trivial, trivial, trivial, trivial, ⟨rfl, rfl⟩, trivial, trivial, trivial, ⟨rfl, rfl⟩, trivial, trivial, trivial, trivial⟩
theorem wk_123_9 : wk_l "TrailStoreModel" "writeBatch" rt_123_9 := ⟨trivial, trivial, trivial, ⟨rfl, rfl⟩, trivial, trivial, trivial, ⟨rfl, rfl⟩, trivial, trivial, trivial, trivial, trivial, trivial, trivial, trivial, trivial⟩
theorem wk_123_10 : wk_l "TrailStoreModel" "writeBatch" rt_123_10 := ⟨trivial, ⟨⟨rfl, rfl⟩, Or.inl rfl⟩, trivial, trivial, ⟨⟨rfl, rfl⟩, Or.inl rfl⟩, trivial, trivial, trivial⟩
theorem wk_123 : ∀ l ∈ rt_123, wk_l "TrailStoreModel" "writeBatch" l := by
  intro l hl
  simp only [rt_123, List.mem_cons, List.not_mem_nil, or_false] at hl
  rcases hl with rfl | rfl | rfl | rfl | rfl | rfl | rfl | rfl | rfl | rfl | rfl
  · exact wk_123_0
  · exact wk_123_1
  · exact wk_123_2
  · exact wk_123_3
  · exact wk_123_4
  · exact wk_123_5
  · exact wk_123_6
  · exact wk_123_7
  · exact wk_123_8
  · exact wk_123_9
  · exact wk_123_10
theorem dk_123_0 : (List.range 48).all (fun i => dk_i prog_9_method_36_code rt_123 (0 + i)) = true := by decide +kernel
theorem dk_123_1 : (List.range 48).all (fun i => dk_i prog_9_method_36_code rt_123 (48 + i)) = true := by decide +kernel
theorem dk_123_2 : (List.range 48).all (fun i => dk_i prog_9_method_36_code rt_123 (96 + i)) = true := by decide +kernel
theorem dk_123_3 : (List.range 32).all (fun i => dk_i prog_9_method_36_code rt_123 (144 + i)) = true := by decide +kernel
theorem dk_123 : ∀ i, i < 176 → dk_i prog_9_method_36_code rt_123 i = true := by
  intro i hi
  by_cases h0 : i < 48
  · have := List.all_eq_true.mp dk_123_0 (i - 0) (List.mem_range.mpr (by omega))
    rwa [show 0 + (i - 0) = i by omega] at this
  by_cases h1 : i < 96
  · have := List.all_eq_true.mp dk_123_1 (i - 48) (List.mem_range.mpr (by omega))
    rwa [show 48 + (i - 48) = i by omega] at this
  by_cases h2 : i < 144
  · have := List.all_eq_true.mp dk_123_2 (i - 96) (List.mem_range.mpr (by omega))
    rwa [show 96 + (i - 96) = i by omega] at this
  by_cases h3 : i < 176
  · have := List.all_eq_true.mp dk_123_3 (i - 144) (List.mem_range.mpr (by omega))
    rwa [show 144 + (i - 144) = i by omega] at this
  exact absurd hi (by omega)
theorem mk_123 : mk_m 123 := ⟨⟨rfl, rfl⟩, ⟨rfl, rfl⟩, by decide +kernel, ⟨⟨rfl, rfl⟩, ⟨rfl, rfl⟩⟩⟩
theorem wk_124_0 : wk_l "TrailStoreModel" "lay" rt_124_0 := ⟨trivial, ⟨rfl, rfl⟩, trivial, ⟨rfl, rfl⟩, trivial, trivial, trivial, ⟨rfl, rfl⟩, trivial, ⟨rfl, rfl⟩, trivial, trivial, trivial, ⟨rfl, rfl⟩, trivial, ⟨rfl, rfl⟩, trivial⟩
theorem wk_124_1 : wk_l "TrailStoreModel" "lay" rt_124_1 := ⟨trivial, trivial, trivial, trivial, ⟨rfl, rfl⟩, trivial, trivial, trivial, trivial, trivial, trivial, trivial, ⟨rfl, rfl⟩, trivial, ⟨rfl, rfl⟩, trivial, trivial⟩
theorem wk_124_2 : wk_l "TrailStoreModel" "lay" rt_124_2 := ⟨trivial, trivial, ⟨rfl, rfl⟩, trivial, trivial, ⟨rfl, rfl⟩, trivial, trivial, trivial, trivial, ⟨rfl, rfl⟩, trivial, trivial, trivial, trivial, trivial, trivial⟩
theorem wk_124_3 : wk_l "TrailStoreModel" "lay" rt_124_3 := ⟨trivial, trivial, ⟨rfl, rfl⟩, trivial, trivial, ⟨⟨rfl, rfl⟩, Or.inl rfl⟩, trivial, trivial⟩
theorem wk_124 : ∀ l ∈ rt_124, wk_l "TrailStoreModel" "lay" l := by
  intro l hl
  simp only [rt_124, List.mem_cons, List.not_mem_nil, or_false] at hl
  rcases hl with rfl | rfl | rfl | rfl
  · exact wk_124_0
  · exact wk_124_1
  · exact wk_124_2
  · exact wk_124_3
theorem dk_124_0 : (List.range 48).all (fun i => dk_i prog_9_method_37_code rt_124 (0 + i)) = true := by decide +kernel
theorem dk_124_1 : (List.range 16).all (fun i => dk_i prog_9_method_37_code rt_124 (48 + i)) = true := by decide +kernel
theorem dk_124 : ∀ i, i < 64 → dk_i prog_9_method_37_code rt_124 i = true := by
  intro i hi
  by_cases h0 : i < 48
  · have := List.all_eq_true.mp dk_124_0 (i - 0) (List.mem_range.mpr (by omega))
    rwa [show 0 + (i - 0) = i by omega] at this
  by_cases h1 : i < 64
  · have := List.all_eq_true.mp dk_124_1 (i - 48) (List.mem_range.mpr (by omega))
    rwa [show 48 + (i - 48) = i by omega] at this
  exact absurd hi (by omega)
theorem mk_124 : mk_m 124 := ⟨⟨rfl, rfl⟩, ⟨rfl, rfl⟩, by decide +kernel, ⟨⟨rfl, rfl⟩, ⟨rfl, rfl⟩⟩⟩
theorem wk_125_0 : wk_l "TrailStoreModel" "openDisk" rt_125_0 := ⟨trivial, trivial, trivial, trivial, ⟨⟨rfl, rfl⟩, Or.inl rfl⟩, trivial, trivial, trivial, trivial, trivial, trivial, trivial, trivial, trivial, trivial, ⟨rfl, rfl⟩, trivial⟩
theorem wk_125_1 : wk_l "TrailStoreModel" "openDisk" rt_125_1 := ⟨trivial, trivial, trivial, trivial, trivial, trivial, trivial, trivial, trivial, trivial, trivial, ⟨rfl, rfl⟩, trivial, trivial, trivial, trivial, trivial⟩
theorem wk_125_2 : wk_l "TrailStoreModel" "openDisk" rt_125_2 := ⟨trivial, ⟨rfl, rfl⟩, trivial, trivial, trivial, trivial, trivial, ⟨⟨rfl, rfl⟩, Or.inl rfl⟩, trivial, trivial, trivial, trivial, trivial, trivial, trivial, trivial, trivial⟩
theorem wk_125_3 : wk_l "TrailStoreModel" "openDisk" rt_125_3 := ⟨trivial, trivial, trivial, trivial, trivial, trivial, trivial, trivial, ⟨rfl, rfl⟩, ⟨⟨rfl, rfl⟩, Or.inl rfl⟩, trivial, trivial, trivial, trivial, trivial, trivial, trivial⟩
theorem wk_125_4 : wk_l "TrailStoreModel" "openDisk" rt_125_4 := ⟨trivial, trivial, trivial, trivial, ⟨rfl, rfl⟩, ⟨⟨rfl, rfl⟩, Or.inl rfl⟩, trivial, trivial, trivial, trivial, trivial, trivial, trivial, trivial, trivial, trivial, trivial⟩
theorem wk_125_5 : wk_l "TrailStoreModel" "openDisk" rt_125_5 := ⟨⟨rfl, rfl⟩, ⟨⟨rfl, rfl⟩, Or.inl rfl⟩, trivial, trivial, trivial, trivial, trivial, trivial, trivial, trivial, trivial, trivial, ⟨rfl, rfl⟩, ⟨⟨rfl, rfl⟩, Or.inl rfl⟩, trivial, trivial, trivial⟩
theorem wk_125_6 : wk_l "TrailStoreModel" "openDisk" rt_125_6 := ⟨trivial, trivial, trivial, trivial, trivial, trivial, trivial, trivial, ⟨rfl, rfl⟩, ⟨⟨rfl, rfl⟩, Or.inl rfl⟩, trivial, trivial, trivial, trivial, ⟨rfl, rfl⟩, trivial, trivial⟩
theorem wk_125_7 : wk_l "TrailStoreModel" "openDisk" rt_125_7 := ⟨trivial, ⟨rfl, rfl⟩, trivial, trivial, trivial, trivial, trivial, trivial, trivial, trivial, ⟨rfl, rfl⟩, trivial, trivial, trivial, trivial, trivial, trivial⟩
theorem wk_125_8 : wk_l "TrailStoreModel" "openDisk" rt_125_8 := ⟨⟨⟨rfl, rfl⟩, Or.inl rfl⟩, trivial, trivial, trivial, trivial, trivial, trivial, ⟨rfl, rfl⟩, trivial, trivial, trivial, trivial, trivial, trivial, trivial, ⟨rfl, rfl⟩, trivial⟩
theorem wk_125_9 : wk_l "TrailStoreModel" "openDisk" rt_125_9 := ⟨⟨⟨rfl, rfl⟩, Or.inl rfl⟩, trivial, trivial, ⟨rfl, rfl⟩, ⟨⟨rfl, rfl⟩, Or.inl rfl⟩, trivial, ⟨rfl, rfl⟩, trivial, trivial, ⟨rfl, rfl⟩, trivial, trivial, trivial, trivial, trivial, trivial, trivial⟩
theorem wk_125_10 : wk_l "TrailStoreModel" "openDisk" rt_125_10 := ⟨⟨rfl, rfl⟩, trivial, trivial, trivial, trivial, ⟨rfl, rfl⟩, trivial, trivial, trivial, trivial, trivial, trivial, trivial, trivial, trivial, ⟨rfl, rfl⟩, trivial⟩
theorem wk_125_11 : wk_l "TrailStoreModel" "openDisk" rt_125_11 := ⟨trivial, trivial, trivial, trivial, trivial, trivial, ⟨rfl, rfl⟩, trivial, trivial, trivial, trivial, trivial, trivial, ⟨rfl, rfl⟩, trivial, trivial, trivial⟩
theorem wk_125_12 : wk_l "TrailStoreModel" "openDisk" rt_125_12 := ⟨⟨rfl, rfl⟩, trivial, trivial, trivial, ⟨rfl, rfl⟩, ⟨rfl, rfl⟩, trivial, trivial, trivial, ⟨rfl, rfl⟩, trivial, ⟨rfl, rfl⟩, ⟨rfl, rfl⟩, trivial, trivial, ⟨rfl, rfl⟩, trivial⟩
theorem wk_125_13 : wk_l "TrailStoreModel" "openDisk" rt_125_13 := ⟨trivial, trivial, ⟨rfl, rfl⟩, ⟨rfl, rfl⟩, trivial, ⟨⟨rfl, rfl⟩, Or.inl rfl⟩, trivial, trivial, ⟨rfl, rfl⟩, trivial, trivial, ⟨⟨rfl, rfl⟩, Or.inl rfl⟩, trivial, trivial, trivial, trivial, trivial⟩
theorem wk_125_14 : wk_l "TrailStoreModel" "openDisk" rt_125_14 := ⟨trivial, ⟨⟨rfl, rfl⟩, Or.inl rfl⟩, trivial, trivial, ⟨⟨rfl, rfl⟩, Or.inl rfl⟩, trivial, trivial, ⟨⟨rfl, rfl⟩, Or.inl rfl⟩, trivial, trivial, ⟨rfl, rfl⟩, trivial, trivial, trivial, ⟨rfl, rfl⟩, trivial, trivial⟩
theorem wk_125_15 : wk_l "TrailStoreModel" "openDisk" rt_125_15 := ⟨⟨rfl, rfl⟩, trivial, ⟨rfl, rfl⟩, trivial, trivial, trivial, trivial⟩
theorem wk_125 : ∀ l ∈ rt_125, wk_l "TrailStoreModel" "openDisk" l := by
  intro l hl
  simp only [rt_125, List.mem_cons, List.not_mem_nil, or_false] at hl
  rcases hl with rfl | rfl | rfl | rfl | rfl | rfl | rfl | rfl | rfl | rfl | rfl | rfl | rfl | rfl | rfl | rfl
  · exact wk_125_0
  · exact wk_125_1
  · exact wk_125_2
  · exact wk_125_3
  · exact wk_125_4
  · exact wk_125_5
  · exact wk_125_6
  · exact wk_125_7
  · exact wk_125_8
  · exact wk_125_9
  · exact wk_125_10
  · exact wk_125_11
  · exact wk_125_12
  · exact wk_125_13
  · exact wk_125_14
  · exact wk_125_15
theorem dk_125_0 : (List.range 48).all (fun i => dk_i prog_9_method_38_code rt_125 (0 + i)) = true := by decide +kernel
theorem dk_125_1 : (List.range 48).all (fun i => dk_i prog_9_method_38_code rt_125 (48 + i)) = true := by decide +kernel
theorem dk_125_2 : (List.range 48).all (fun i => dk_i prog_9_method_38_code rt_125 (96 + i)) = true := by decide +kernel
theorem dk_125_3 : (List.range 48).all (fun i => dk_i prog_9_method_38_code rt_125 (144 + i)) = true := by decide +kernel
theorem dk_125_4 : (List.range 48).all (fun i => dk_i prog_9_method_38_code rt_125 (192 + i)) = true := by decide +kernel
theorem dk_125_5 : (List.range 16).all (fun i => dk_i prog_9_method_38_code rt_125 (240 + i)) = true := by decide +kernel
theorem dk_125 : ∀ i, i < 256 → dk_i prog_9_method_38_code rt_125 i = true := by
  intro i hi
  by_cases h0 : i < 48
  · have := List.all_eq_true.mp dk_125_0 (i - 0) (List.mem_range.mpr (by omega))
    rwa [show 0 + (i - 0) = i by omega] at this
  by_cases h1 : i < 96
  · have := List.all_eq_true.mp dk_125_1 (i - 48) (List.mem_range.mpr (by omega))
    rwa [show 48 + (i - 48) = i by omega] at this
  by_cases h2 : i < 144
  · have := List.all_eq_true.mp dk_125_2 (i - 96) (List.mem_range.mpr (by omega))
    rwa [show 96 + (i - 96) = i by omega] at this
  by_cases h3 : i < 192
  · have := List.all_eq_true.mp dk_125_3 (i - 144) (List.mem_range.mpr (by omega))
    rwa [show 144 + (i - 144) = i by omega] at this
  by_cases h4 : i < 240
  · have := List.all_eq_true.mp dk_125_4 (i - 192) (List.mem_range.mpr (by omega))
    rwa [show 192 + (i - 192) = i by omega] at this
  by_cases h5 : i < 256
  · have := List.all_eq_true.mp dk_125_5 (i - 240) (List.mem_range.mpr (by omega))
    rwa [show 240 + (i - 240) = i by omega] at this
  exact absurd hi (by omega)
theorem mk_125 : mk_m 125 := ⟨⟨rfl, rfl⟩, ⟨rfl, rfl⟩, by decide +kernel, ⟨⟨rfl, rfl⟩, ⟨rfl, rfl⟩⟩⟩
theorem wk_126_0 : wk_l "TrailStoreModel" "open" rt_126_0 := ⟨trivial, ⟨rfl, rfl⟩, trivial, trivial, ⟨rfl, rfl⟩, trivial, trivial, trivial, trivial⟩
theorem wk_126 : ∀ l ∈ rt_126, wk_l "TrailStoreModel" "open" l := by
  intro l hl
  simp only [rt_126, List.mem_cons, List.not_mem_nil, or_false] at hl
  subst hl
  exact wk_126_0
theorem dk_126_0 : (List.range 16).all (fun i => dk_i prog_9_method_39_code rt_126 (0 + i)) = true := by decide +kernel
theorem dk_126 : ∀ i, i < 16 → dk_i prog_9_method_39_code rt_126 i = true := by
  intro i hi
  by_cases h0 : i < 16
  · have := List.all_eq_true.mp dk_126_0 (i - 0) (List.mem_range.mpr (by omega))
    rwa [show 0 + (i - 0) = i by omega] at this
  exact absurd hi (by omega)
theorem mk_126 : mk_m 126 := ⟨⟨rfl, rfl⟩, ⟨rfl, rfl⟩, by decide +kernel, ⟨⟨rfl, rfl⟩, ⟨rfl, rfl⟩⟩⟩
theorem wk_127_0 : wk_l "TrailStoreModel" "isKey" rt_127_0 := ⟨trivial, trivial, trivial, trivial, trivial, trivial, trivial, trivial, trivial, trivial⟩
theorem wk_127 : ∀ l ∈ rt_127, wk_l "TrailStoreModel" "isKey" l := by
  intro l hl
  simp only [rt_127, List.mem_cons, List.not_mem_nil, or_false] at hl
  subst hl
  exact wk_127_0
theorem dk_127_0 : (List.range 16).all (fun i => dk_i prog_9_method_40_code rt_127 (0 + i)) = true := by decide +kernel
theorem dk_127 : ∀ i, i < 16 → dk_i prog_9_method_40_code rt_127 i = true := by
  intro i hi
  by_cases h0 : i < 16
  · have := List.all_eq_true.mp dk_127_0 (i - 0) (List.mem_range.mpr (by omega))
    rwa [show 0 + (i - 0) = i by omega] at this
  exact absurd hi (by omega)
theorem mk_127 : mk_m 127 := ⟨⟨rfl, rfl⟩, ⟨rfl, rfl⟩, by decide +kernel, ⟨rfl, rfl⟩⟩
theorem wk_128_0 : wk_l "TrailStoreModel" "type" rt_128_0 := ⟨trivial, ⟨rfl, rfl⟩, trivial, trivial, trivial, trivial, trivial, trivial, trivial, trivial, trivial, trivial, ⟨rfl, rfl⟩, trivial, trivial, trivial, trivial⟩
theorem wk_128_1 : wk_l "TrailStoreModel" "type" rt_128_1 := ⟨trivial, trivial, trivial, trivial, trivial, trivial, trivial, trivial, trivial, trivial, ⟨rfl, rfl⟩, trivial, ⟨rfl, rfl⟩, trivial, trivial, trivial, trivial⟩
theorem wk_128_2 : wk_l "TrailStoreModel" "type" rt_128_2 := ⟨trivial, trivial, trivial, trivial, trivial, trivial, trivial, ⟨rfl, rfl⟩, trivial, trivial, ⟨⟨rfl, rfl⟩, Or.inl rfl⟩, trivial, trivial, trivial, ⟨rfl, rfl⟩, trivial, trivial⟩
theorem wk_128 : ∀ l ∈ rt_128, wk_l "TrailStoreModel" "type" l := by
  intro l hl
  simp only [rt_128, List.mem_cons, List.not_mem_nil, or_false] at hl
  rcases hl with rfl | rfl | rfl
  · exact wk_128_0
  · exact wk_128_1
  · exact wk_128_2
theorem dk_128_0 : (List.range 48).all (fun i => dk_i prog_9_method_41_code rt_128 (0 + i)) = true := by decide +kernel
theorem dk_128 : ∀ i, i < 48 → dk_i prog_9_method_41_code rt_128 i = true := by
  intro i hi
  by_cases h0 : i < 48
  · have := List.all_eq_true.mp dk_128_0 (i - 0) (List.mem_range.mpr (by omega))
    rwa [show 0 + (i - 0) = i by omega] at this
  exact absurd hi (by omega)
theorem mk_128 : mk_m 128 := ⟨⟨rfl, rfl⟩, ⟨rfl, rfl⟩, by decide +kernel, ⟨⟨rfl, rfl⟩, ⟨rfl, rfl⟩⟩⟩
theorem wk_129_0 : wk_l "TrailStoreModel" "put" rt_129_0 := ⟨trivial, ⟨rfl, rfl⟩, trivial, trivial, trivial, trivial, ⟨rfl, rfl⟩, trivial, trivial, ⟨rfl, rfl⟩, trivial, trivial, ⟨rfl, rfl⟩, trivial, trivial, trivial, trivial⟩
theorem wk_129_1 : wk_l "TrailStoreModel" "put" rt_129_1 := ⟨trivial, trivial, trivial, trivial, ⟨rfl, rfl⟩, trivial, trivial, ⟨⟨rfl, rfl⟩, Or.inl rfl⟩, trivial, ⟨rfl, rfl⟩, trivial, trivial, ⟨rfl, rfl⟩, trivial, trivial, ⟨rfl, rfl⟩, trivial⟩
theorem wk_129_2 : wk_l "TrailStoreModel" "put" rt_129_2 := ⟨trivial, trivial⟩
theorem wk_129 : ∀ l ∈ rt_129, wk_l "TrailStoreModel" "put" l := by
  intro l hl
  simp only [rt_129, List.mem_cons, List.not_mem_nil, or_false] at hl
  rcases hl with rfl | rfl | rfl
  · exact wk_129_0
  · exact wk_129_1
  · exact wk_129_2
theorem dk_129_0 : (List.range 48).all (fun i => dk_i prog_9_method_42_code rt_129 (0 + i)) = true := by decide +kernel
theorem dk_129 : ∀ i, i < 48 → dk_i prog_9_method_42_code rt_129 i = true := by
  intro i hi
  by_cases h0 : i < 48
  · have := List.all_eq_true.mp dk_129_0 (i - 0) (List.mem_range.mpr (by omega))
    rwa [show 0 + (i - 0) = i by omega] at this
  exact absurd hi (by omega)
theorem mk_129 : mk_m 129 := ⟨⟨rfl, rfl⟩, ⟨rfl, rfl⟩, by decide +kernel, ⟨⟨rfl, rfl⟩, ⟨rfl, rfl⟩⟩⟩
theorem wk_130_0 : wk_l "TrailStoreModel" "remove" rt_130_0 := ⟨trivial, ⟨rfl, rfl⟩, trivial, trivial, trivial, trivial, ⟨rfl, rfl⟩, trivial, trivial, ⟨rfl, rfl⟩, trivial, trivial, ⟨rfl, rfl⟩, trivial, trivial, trivial, trivial⟩
theorem wk_130_1 : wk_l "TrailStoreModel" "remove" rt_130_1 := ⟨trivial, trivial, ⟨rfl, rfl⟩, trivial, trivial, trivial, ⟨rfl, rfl⟩, trivial, trivial, trivial, trivial, trivial, trivial, ⟨rfl, rfl⟩, trivial, ⟨rfl, rfl⟩, trivial⟩
theorem wk_130_2 : wk_l "TrailStoreModel" "remove" rt_130_2 := ⟨trivial, trivial, ⟨rfl, rfl⟩, trivial, trivial, ⟨rfl, rfl⟩, trivial, trivial⟩
theorem wk_130 : ∀ l ∈ rt_130, wk_l "TrailStoreModel" "remove" l := by
  intro l hl
  simp only [rt_130, List.mem_cons, List.not_mem_nil, or_false] at hl
  rcases hl with rfl | rfl | rfl
  · exact wk_130_0
  · exact wk_130_1
  · exact wk_130_2
theorem dk_130_0 : (List.range 48).all (fun i => dk_i prog_9_method_43_code rt_130 (0 + i)) = true := by decide +kernel
theorem dk_130 : ∀ i, i < 48 → dk_i prog_9_method_43_code rt_130 i = true := by
  intro i hi
  by_cases h0 : i < 48
  · have := List.all_eq_true.mp dk_130_0 (i - 0) (List.mem_range.mpr (by omega))
    rwa [show 0 + (i - 0) = i by omega] at this
  exact absurd hi (by omega)
theorem mk_130 : mk_m 130 := ⟨⟨rfl, rfl⟩, ⟨rfl, rfl⟩, by decide +kernel, ⟨⟨rfl, rfl⟩, ⟨rfl, rfl⟩⟩⟩
theorem wk_131_0 : wk_l "TrailStoreModel" "begin" rt_131_0 := ⟨trivial, ⟨rfl, rfl⟩, trivial, trivial, trivial, trivial, ⟨rfl, rfl⟩, trivial, trivial, trivial, ⟨⟨rfl, rfl⟩, Or.inl rfl⟩, trivial, trivial, trivial, trivial, trivial, trivial⟩
theorem wk_131_1 : wk_l "TrailStoreModel" "begin" rt_131_1 := ⟨trivial, trivial⟩
theorem wk_131 : ∀ l ∈ rt_131, wk_l "TrailStoreModel" "begin" l := by
  intro l hl
  simp only [rt_131, List.mem_cons, List.not_mem_nil, or_false] at hl
  rcases hl with rfl | rfl
  · exact wk_131_0
  · exact wk_131_1
theorem dk_131_0 : (List.range 32).all (fun i => dk_i prog_9_method_44_code rt_131 (0 + i)) = true := by decide +kernel
theorem dk_131 : ∀ i, i < 32 → dk_i prog_9_method_44_code rt_131 i = true := by
  intro i hi
  by_cases h0 : i < 32
  · have := List.all_eq_true.mp dk_131_0 (i - 0) (List.mem_range.mpr (by omega))
    rwa [show 0 + (i - 0) = i by omega] at this
  exact absurd hi (by omega)
theorem mk_131 : mk_m 131 := ⟨⟨rfl, rfl⟩, ⟨rfl, rfl⟩, by decide +kernel, ⟨⟨rfl, rfl⟩, ⟨rfl, rfl⟩⟩⟩
theorem wk_132_0 : wk_l "TrailStoreModel" "commit" rt_132_0 := ⟨trivial, ⟨rfl, rfl⟩, trivial, trivial, trivial, trivial, ⟨rfl, rfl⟩, trivial, trivial, ⟨rfl, rfl⟩, trivial, trivial, trivial, ⟨⟨rfl, rfl⟩, Or.inl rfl⟩, trivial, trivial, trivial⟩
theorem wk_132_1 : wk_l "TrailStoreModel" "commit" rt_132_1 := ⟨trivial, ⟨rfl, rfl⟩, trivial, trivial⟩
theorem wk_132 : ∀ l ∈ rt_132, wk_l "TrailStoreModel" "commit" l := by
  intro l hl
  simp only [rt_132, List.mem_cons, List.not_mem_nil, or_false] at hl
  rcases hl with rfl | rfl
  · exact wk_132_0
  · exact wk_132_1
theorem dk_132_0 : (List.range 32).all (fun i => dk_i prog_9_method_45_code rt_132 (0 + i)) = true := by decide +kernel
theorem dk_132 : ∀ i, i < 32 → dk_i prog_9_method_45_code rt_132 i = true := by
  intro i hi
  by_cases h0 : i < 32
  · have := List.all_eq_true.mp dk_132_0 (i - 0) (List.mem_range.mpr (by omega))
    rwa [show 0 + (i - 0) = i by omega] at this
  exact absurd hi (by omega)
theorem mk_132 : mk_m 132 := ⟨⟨rfl, rfl⟩, ⟨rfl, rfl⟩, by decide +kernel, ⟨⟨rfl, rfl⟩, ⟨rfl, rfl⟩⟩⟩
theorem wk_133_0 : wk_l "TrailStoreModel" "cancel" rt_133_0 := ⟨trivial, ⟨rfl, rfl⟩, trivial, trivial, trivial, trivial, ⟨rfl, rfl⟩, trivial, trivial, ⟨rfl, rfl⟩, trivial, trivial, trivial, trivial, trivial, ⟨⟨rfl, rfl⟩, Or.inl rfl⟩, trivial⟩
theorem wk_133_1 : wk_l "TrailStoreModel" "cancel" rt_133_1 := ⟨trivial, trivial, ⟨⟨rfl, rfl⟩, Or.inl rfl⟩, trivial, trivial, trivial⟩
theorem wk_133 : ∀ l ∈ rt_133, wk_l "TrailStoreModel" "cancel" l := by
  intro l hl
  simp only [rt_133, List.mem_cons, List.not_mem_nil, or_false] at hl
  rcases hl with rfl | rfl
  · exact wk_133_0
  · exact wk_133_1
theorem dk_133_0 : (List.range 32).all (fun i => dk_i prog_9_method_46_code rt_133 (0 + i)) = true := by decide +kernel
theorem dk_133 : ∀ i, i < 32 → dk_i prog_9_method_46_code rt_133 i = true := by
  intro i hi
  by_cases h0 : i < 32
  · have := List.all_eq_true.mp dk_133_0 (i - 0) (List.mem_range.mpr (by omega))
    rwa [show 0 + (i - 0) = i by omega] at this
  exact absurd hi (by omega)
theorem mk_133 : mk_m 133 := ⟨⟨rfl, rfl⟩, ⟨rfl, rfl⟩, by decide +kernel, ⟨⟨rfl, rfl⟩, ⟨rfl, rfl⟩⟩⟩
theorem wk_134_0 : wk_l "TrailStoreModel" "get" rt_134_0 := ⟨trivial, ⟨rfl, rfl⟩, trivial, trivial, trivial, trivial, trivial, ⟨⟨rfl, rfl⟩, Or.inl rfl⟩, trivial, trivial, ⟨⟨rfl, rfl⟩, Or.inl rfl⟩, trivial, trivial, ⟨⟨rfl, rfl⟩, Or.inl rfl⟩, trivial, ⟨rfl, rfl⟩, trivial⟩
theorem wk_134_1 : wk_l "TrailStoreModel" "get" rt_134_1 := ⟨trivial, trivial, trivial, trivial, ⟨rfl, rfl⟩, trivial, trivial, trivial, trivial, trivial, trivial, trivial, trivial, trivial, trivial, trivial, trivial⟩
theorem wk_134_2 : wk_l "TrailStoreModel" "get" rt_134_2 := ⟨⟨rfl, rfl⟩, trivial, trivial, trivial, trivial, trivial, trivial, ⟨rfl, rfl⟩, trivial, ⟨rfl, rfl⟩, trivial, trivial, ⟨rfl, rfl⟩, trivial, trivial, trivial, trivial⟩
theorem wk_134_3 : wk_l "TrailStoreModel" "get" rt_134_3 := ⟨⟨rfl, rfl⟩, trivial, trivial, ⟨⟨rfl, rfl⟩, Or.inl rfl⟩, trivial, trivial, trivial, ⟨rfl, rfl⟩, trivial, trivial, trivial, trivial, trivial, trivial, trivial, trivial, trivial⟩
theorem wk_134_4 : wk_l "TrailStoreModel" "get" rt_134_4 := ⟨⟨rfl, rfl⟩, trivial, trivial, ⟨⟨rfl, rfl⟩, Or.inl rfl⟩, trivial, trivial, trivial, trivial, ⟨rfl, rfl⟩, trivial, trivial, trivial, trivial, trivial, trivial, trivial, trivial⟩
theorem wk_134_5 : wk_l "TrailStoreModel" "get" rt_134_5 := ⟨⟨rfl, rfl⟩, trivial, trivial, ⟨rfl, rfl⟩, ⟨⟨rfl, rfl⟩, Or.inl rfl⟩, trivial, trivial, trivial, trivial, ⟨rfl, rfl⟩, trivial, trivial, ⟨rfl, rfl⟩, trivial, trivial, trivial, trivial⟩
theorem wk_134_6 : wk_l "TrailStoreModel" "get" rt_134_6 := ⟨trivial, ⟨rfl, rfl⟩, trivial, trivial, trivial, trivial, ⟨rfl, rfl⟩, trivial, trivial, trivial, trivial, trivial, ⟨rfl, rfl⟩, trivial, trivial⟩
theorem wk_134 : ∀ l ∈ rt_134, wk_l "TrailStoreModel" "get" l := by
  intro l hl
  simp only [rt_134, List.mem_cons, List.not_mem_nil, or_false] at hl
  rcases hl with rfl | rfl | rfl | rfl | rfl | rfl | rfl
  · exact wk_134_0
  · exact wk_134_1
  · exact wk_134_2
  · exact wk_134_3
  · exact wk_134_4
  · exact wk_134_5
  · exact wk_134_6
theorem dk_134_0 : (List.range 48).all (fun i => dk_i prog_9_method_47_code rt_134 (0 + i)) = true := by decide +kernel
theorem dk_134_1 : (List.range 48).all (fun i => dk_i prog_9_method_47_code rt_134 (48 + i)) = true := by decide +kernel
theorem dk_134_2 : (List.range 16).all (fun i => dk_i prog_9_method_47_code rt_134 (96 + i)) = true := by decide +kernel
theorem dk_134 : ∀ i, i < 112 → dk_i prog_9_method_47_code rt_134 i = true := by
  intro i hi
  by_cases h0 : i < 48
  · have := List.all_eq_true.mp dk_134_0 (i - 0) (List.mem_range.mpr (by omega))
    rwa [show 0 + (i - 0) = i by omega] at this
  by_cases h1 : i < 96
  · have := List.all_eq_true.mp dk_134_1 (i - 48) (List.mem_range.mpr (by omega))
    rwa [show 48 + (i - 48) = i by omega] at this
  by_cases h2 : i < 112
  · have := List.all_eq_true.mp dk_134_2 (i - 96) (List.mem_range.mpr (by omega))
    rwa [show 96 + (i - 96) = i by omega] at this
  exact absurd hi (by omega)
theorem mk_134 : mk_m 134 := ⟨⟨rfl, rfl⟩, ⟨rfl, rfl⟩, by decide +kernel, ⟨⟨rfl, rfl⟩, ⟨rfl, rfl⟩⟩⟩
theorem wk_135_0 : wk_l "TrailStoreModel" "read" rt_135_0 := ⟨trivial, trivial, trivial, trivial, ⟨rfl, rfl⟩, trivial, trivial, ⟨rfl, rfl⟩, trivial, trivial, trivial, trivial, trivial, trivial, trivial, trivial⟩
theorem wk_135 : ∀ l ∈ rt_135, wk_l "TrailStoreModel" "read" l := by
  intro l hl
  simp only [rt_135, List.mem_cons, List.not_mem_nil, or_false] at hl
  subst hl
  exact wk_135_0
theorem dk_135_0 : (List.range 16).all (fun i => dk_i prog_9_method_48_code rt_135 (0 + i)) = true := by decide +kernel
theorem dk_135 : ∀ i, i < 16 → dk_i prog_9_method_48_code rt_135 i = true := by
  intro i hi
  by_cases h0 : i < 16
  · have := List.all_eq_true.mp dk_135_0 (i - 0) (List.mem_range.mpr (by omega))
    rwa [show 0 + (i - 0) = i by omega] at this
  exact absurd hi (by omega)
theorem mk_135 : mk_m 135 := ⟨⟨rfl, rfl⟩, ⟨rfl, rfl⟩, by decide +kernel, ⟨⟨rfl, rfl⟩, ⟨rfl, rfl⟩⟩⟩
theorem wk_136_0 : wk_l "TrailStoreModel" "next" rt_136_0 := ⟨trivial, ⟨rfl, rfl⟩, trivial, trivial, trivial, trivial, trivial, trivial, trivial, trivial, trivial, trivial, trivial, trivial, trivial, trivial, trivial⟩
theorem wk_136_1 : wk_l "TrailStoreModel" "next" rt_136_1 := ⟨⟨rfl, rfl⟩, trivial, trivial, trivial, trivial, trivial, trivial, trivial, trivial⟩
theorem wk_136 : ∀ l ∈ rt_136, wk_l "TrailStoreModel" "next" l := by
  intro l hl
  simp only [rt_136, List.mem_cons, List.not_mem_nil, or_false] at hl
  rcases hl with rfl | rfl
  · exact wk_136_0
  · exact wk_136_1
theorem dk_136_0 : (List.range 32).all (fun i => dk_i prog_9_method_49_code rt_136 (0 + i)) = true := by decide +kernel
theorem dk_136 : ∀ i, i < 32 → dk_i prog_9_method_49_code rt_136 i = true := by
  intro i hi
  by_cases h0 : i < 32
  · have := List.all_eq_true.mp dk_136_0 (i - 0) (List.mem_range.mpr (by omega))
    rwa [show 0 + (i - 0) = i by omega] at this
  exact absurd hi (by omega)
theorem mk_136 : mk_m 136 := ⟨⟨rfl, rfl⟩, ⟨rfl, rfl⟩, by decide +kernel, ⟨⟨rfl, rfl⟩, ⟨rfl, rfl⟩⟩⟩
theorem wk_137_0 : wk_l "TrailStoreModel" "sync" rt_137_0 := ⟨trivial, ⟨rfl, rfl⟩, trivial, trivial, trivial, trivial, ⟨rfl, rfl⟩, trivial, trivial⟩
theorem wk_137 : ∀ l ∈ rt_137, wk_l "TrailStoreModel" "sync" l := by
  intro l hl
  simp only [rt_137, List.mem_cons, List.not_mem_nil, or_false] at hl
  subst hl
  exact wk_137_0
theorem dk_137_0 : (List.range 16).all (fun i => dk_i prog_9_method_50_code rt_137 (0 + i)) = true := by decide +kernel
theorem dk_137 : ∀ i, i < 16 → dk_i prog_9_method_50_code rt_137 i = true := by
  intro i hi
  by_cases h0 : i < 16
  · have := List.all_eq_true.mp dk_137_0 (i - 0) (List.mem_range.mpr (by omega))
    rwa [show 0 + (i - 0) = i by omega] at this
  exact absurd hi (by omega)
theorem mk_137 : mk_m 137 := ⟨⟨rfl, rfl⟩, ⟨rfl, rfl⟩, by decide +kernel, ⟨⟨rfl, rfl⟩, ⟨rfl, rfl⟩⟩⟩
theorem wk_138_0 : wk_l "TrailStoreModel" "checkpoint" rt_138_0 := ⟨trivial, ⟨rfl, rfl⟩, trivial, trivial, ⟨rfl, rfl⟩, trivial, ⟨rfl, rfl⟩, trivial, trivial, trivial, trivial, ⟨rfl, rfl⟩, trivial, trivial⟩
theorem wk_138 : ∀ l ∈ rt_138, wk_l "TrailStoreModel" "checkpoint" l := by
  intro l hl
  simp only [rt_138, List.mem_cons, List.not_mem_nil, or_false] at hl
  subst hl
  exact wk_138_0
theorem dk_138_0 : (List.range 16).all (fun i => dk_i prog_9_method_51_code rt_138 (0 + i)) = true := by decide +kernel
theorem dk_138 : ∀ i, i < 16 → dk_i prog_9_method_51_code rt_138 i = true := by
  intro i hi
  by_cases h0 : i < 16
  · have := List.all_eq_true.mp dk_138_0 (i - 0) (List.mem_range.mpr (by omega))
    rwa [show 0 + (i - 0) = i by omega] at this
  exact absurd hi (by omega)
theorem mk_138 : mk_m 138 := ⟨⟨rfl, rfl⟩, ⟨rfl, rfl⟩, by decide +kernel, ⟨⟨rfl, rfl⟩, ⟨rfl, rfl⟩⟩⟩
theorem wk_139_0 : wk_l "TrailStoreModel" "collect" rt_139_0 := ⟨trivial, ⟨rfl, rfl⟩, trivial, trivial, trivial, trivial, trivial, trivial, trivial, trivial, trivial, trivial, trivial, trivial, trivial, ⟨rfl, rfl⟩, trivial⟩
theorem wk_139_1 : wk_l "TrailStoreModel" "collect" rt_139_1 := ⟨trivial, trivial, ⟨rfl, rfl⟩, trivial, trivial, trivial, trivial, trivial, trivial⟩
theorem wk_139 : ∀ l ∈ rt_139, wk_l "TrailStoreModel" "collect" l := by
  intro l hl
  simp only [rt_139, List.mem_cons, List.not_mem_nil, or_false] at hl
  rcases hl with rfl | rfl
  · exact wk_139_0
  · exact wk_139_1
theorem dk_139_0 : (List.range 32).all (fun i => dk_i prog_9_method_52_code rt_139 (0 + i)) = true := by decide +kernel
theorem dk_139 : ∀ i, i < 32 → dk_i prog_9_method_52_code rt_139 i = true := by
  intro i hi
  by_cases h0 : i < 32
  · have := List.all_eq_true.mp dk_139_0 (i - 0) (List.mem_range.mpr (by omega))
    rwa [show 0 + (i - 0) = i by omega] at this
  exact absurd hi (by omega)
theorem mk_139 : mk_m 139 := ⟨⟨rfl, rfl⟩, ⟨rfl, rfl⟩, by decide +kernel, ⟨⟨rfl, rfl⟩, ⟨rfl, rfl⟩⟩⟩
theorem wk_140_0 : wk_l "TrailStoreModel" "crash" rt_140_0 := ⟨trivial, ⟨rfl, rfl⟩, trivial, trivial, trivial, trivial, trivial, trivial, trivial, trivial, trivial, trivial, ⟨rfl, rfl⟩, trivial, trivial, trivial, trivial⟩
theorem wk_140_1 : wk_l "TrailStoreModel" "crash" rt_140_1 := ⟨trivial, ⟨rfl, rfl⟩, trivial, trivial, trivial⟩
theorem wk_140 : ∀ l ∈ rt_140, wk_l "TrailStoreModel" "crash" l := by
  intro l hl
  simp only [rt_140, List.mem_cons, List.not_mem_nil, or_false] at hl
  rcases hl with rfl | rfl
  · exact wk_140_0
  · exact wk_140_1
theorem dk_140_0 : (List.range 32).all (fun i => dk_i prog_9_method_53_code rt_140 (0 + i)) = true := by decide +kernel
theorem dk_140 : ∀ i, i < 32 → dk_i prog_9_method_53_code rt_140 i = true := by
  intro i hi
  by_cases h0 : i < 32
  · have := List.all_eq_true.mp dk_140_0 (i - 0) (List.mem_range.mpr (by omega))
    rwa [show 0 + (i - 0) = i by omega] at this
  exact absurd hi (by omega)
theorem mk_140 : mk_m 140 := ⟨⟨rfl, rfl⟩, ⟨rfl, rfl⟩, by decide +kernel, ⟨⟨rfl, rfl⟩, ⟨rfl, rfl⟩⟩⟩
theorem wk_141_0 : wk_l "TrailStoreModel" "fail" rt_141_0 := ⟨trivial, ⟨rfl, rfl⟩, trivial, trivial, trivial, trivial, trivial, trivial, trivial, trivial, trivial, trivial, trivial, trivial, trivial, trivial, trivial⟩
theorem wk_141_1 : wk_l "TrailStoreModel" "fail" rt_141_1 := ⟨trivial, trivial, trivial, ⟨⟨rfl, rfl⟩, Or.inl rfl⟩, trivial, trivial, ⟨⟨rfl, rfl⟩, Or.inl rfl⟩, trivial, trivial, ⟨⟨rfl, rfl⟩, Or.inl rfl⟩, trivial, trivial, trivial⟩
theorem wk_141 : ∀ l ∈ rt_141, wk_l "TrailStoreModel" "fail" l := by
  intro l hl
  simp only [rt_141, List.mem_cons, List.not_mem_nil, or_false] at hl
  rcases hl with rfl | rfl
  · exact wk_141_0
  · exact wk_141_1
theorem dk_141_0 : (List.range 32).all (fun i => dk_i prog_9_method_54_code rt_141 (0 + i)) = true := by decide +kernel
theorem dk_141 : ∀ i, i < 32 → dk_i prog_9_method_54_code rt_141 i = true := by
  intro i hi
  by_cases h0 : i < 32
  · have := List.all_eq_true.mp dk_141_0 (i - 0) (List.mem_range.mpr (by omega))
    rwa [show 0 + (i - 0) = i by omega] at this
  exact absurd hi (by omega)
theorem mk_141 : mk_m 141 := ⟨⟨rfl, rfl⟩, ⟨rfl, rfl⟩, by decide +kernel, ⟨⟨rfl, rfl⟩, ⟨rfl, rfl⟩⟩⟩
theorem wk_142_0 : wk_l "TrailStoreModel" "spare" rt_142_0 := ⟨trivial, ⟨rfl, rfl⟩, trivial, trivial, trivial, trivial, ⟨rfl, rfl⟩, trivial, trivial, trivial, trivial, trivial, trivial, trivial, ⟨⟨rfl, rfl⟩, Or.inl rfl⟩, trivial, trivial⟩
theorem wk_142_1 : wk_l "TrailStoreModel" "spare" rt_142_1 := ⟨trivial, trivial⟩
theorem wk_142 : ∀ l ∈ rt_142, wk_l "TrailStoreModel" "spare" l := by
  intro l hl
  simp only [rt_142, List.mem_cons, List.not_mem_nil, or_false] at hl
  rcases hl with rfl | rfl
  · exact wk_142_0
  · exact wk_142_1
theorem dk_142_0 : (List.range 32).all (fun i => dk_i prog_9_method_55_code rt_142 (0 + i)) = true := by decide +kernel
theorem dk_142 : ∀ i, i < 32 → dk_i prog_9_method_55_code rt_142 i = true := by
  intro i hi
  by_cases h0 : i < 32
  · have := List.all_eq_true.mp dk_142_0 (i - 0) (List.mem_range.mpr (by omega))
    rwa [show 0 + (i - 0) = i by omega] at this
  exact absurd hi (by omega)
theorem mk_142 : mk_m 142 := ⟨⟨rfl, rfl⟩, ⟨rfl, rfl⟩, by decide +kernel, ⟨⟨rfl, rfl⟩, ⟨rfl, rfl⟩⟩⟩
theorem wk_143_0 : wk_l "TrailStoreModel" "told" rt_143_0 := ⟨trivial, trivial, trivial, trivial, trivial, trivial, trivial, trivial, trivial, trivial, ⟨rfl, rfl⟩, trivial, trivial, ⟨rfl, rfl⟩, trivial, trivial, trivial⟩
theorem wk_143_1 : wk_l "TrailStoreModel" "told" rt_143_1 := ⟨⟨rfl, rfl⟩, trivial, trivial, trivial, trivial, trivial, trivial, trivial, trivial, trivial, trivial, trivial, trivial, trivial, trivial, trivial, trivial⟩
theorem wk_143_2 : wk_l "TrailStoreModel" "told" rt_143_2 := ⟨trivial, trivial, trivial, trivial, trivial, trivial, trivial, trivial, trivial, trivial, trivial, ⟨rfl, rfl⟩, trivial, trivial, trivial, trivial, trivial⟩
theorem wk_143_3 : wk_l "TrailStoreModel" "told" rt_143_3 := ⟨trivial, ⟨rfl, rfl⟩, ⟨rfl, rfl⟩, trivial, trivial, trivial, trivial, trivial, trivial, trivial, ⟨rfl, rfl⟩, trivial, trivial, ⟨rfl, rfl⟩, trivial, trivial, trivial⟩
theorem wk_143_4 : wk_l "TrailStoreModel" "told" rt_143_4 := ⟨⟨rfl, rfl⟩, trivial, trivial, ⟨rfl, rfl⟩, trivial, trivial, ⟨rfl, rfl⟩, trivial, trivial, ⟨rfl, rfl⟩, trivial, trivial, ⟨rfl, rfl⟩, trivial, trivial, ⟨rfl, rfl⟩, trivial⟩
theorem wk_143_5 : wk_l "TrailStoreModel" "told" rt_143_5 := ⟨trivial, trivial, trivial, trivial, trivial, trivial, ⟨rfl, rfl⟩, trivial, trivial, ⟨rfl, rfl⟩, trivial, trivial, ⟨rfl, rfl⟩, trivial, trivial, trivial, trivial⟩
theorem wk_143_6 : wk_l "TrailStoreModel" "told" rt_143_6 := ⟨trivial, ⟨rfl, rfl⟩, trivial, trivial⟩
theorem wk_143 : ∀ l ∈ rt_143, wk_l "TrailStoreModel" "told" l := by
  intro l hl
  simp only [rt_143, List.mem_cons, List.not_mem_nil, or_false] at hl
  rcases hl with rfl | rfl | rfl | rfl | rfl | rfl | rfl
  · exact wk_143_0
  · exact wk_143_1
  · exact wk_143_2
  · exact wk_143_3
  · exact wk_143_4
  · exact wk_143_5
  · exact wk_143_6
theorem dk_143_0 : (List.range 48).all (fun i => dk_i prog_9_method_56_code rt_143 (0 + i)) = true := by decide +kernel
theorem dk_143_1 : (List.range 48).all (fun i => dk_i prog_9_method_56_code rt_143 (48 + i)) = true := by decide +kernel
theorem dk_143_2 : (List.range 16).all (fun i => dk_i prog_9_method_56_code rt_143 (96 + i)) = true := by decide +kernel
theorem dk_143 : ∀ i, i < 112 → dk_i prog_9_method_56_code rt_143 i = true := by
  intro i hi
  by_cases h0 : i < 48
  · have := List.all_eq_true.mp dk_143_0 (i - 0) (List.mem_range.mpr (by omega))
    rwa [show 0 + (i - 0) = i by omega] at this
  by_cases h1 : i < 96
  · have := List.all_eq_true.mp dk_143_1 (i - 48) (List.mem_range.mpr (by omega))
    rwa [show 48 + (i - 48) = i by omega] at this
  by_cases h2 : i < 112
  · have := List.all_eq_true.mp dk_143_2 (i - 96) (List.mem_range.mpr (by omega))
    rwa [show 96 + (i - 96) = i by omega] at this
  exact absurd hi (by omega)
theorem mk_143 : mk_m 143 := ⟨⟨rfl, rfl⟩, ⟨rfl, rfl⟩, by decide +kernel, ⟨⟨rfl, rfl⟩, ⟨rfl, rfl⟩⟩⟩
theorem wk_144_0 : wk_l "TrailStoreModel" "table" rt_144_0 := ⟨trivial, ⟨rfl, rfl⟩, trivial, trivial, trivial, trivial, trivial, trivial, trivial, ⟨rfl, rfl⟩, trivial, trivial, trivial, trivial, trivial, trivial, trivial⟩
theorem wk_144_1 : wk_l "TrailStoreModel" "table" rt_144_1 := ⟨trivial, ⟨rfl, rfl⟩, trivial, trivial, trivial, trivial, ⟨rfl, rfl⟩, trivial, trivial, ⟨rfl, rfl⟩, trivial, trivial, trivial, trivial, trivial, trivial, trivial⟩
theorem wk_144_2 : wk_l "TrailStoreModel" "table" rt_144_2 := ⟨⟨rfl, rfl⟩, trivial, trivial, trivial, trivial, ⟨rfl, rfl⟩, trivial, trivial, trivial, trivial, trivial, trivial, trivial, trivial, ⟨rfl, rfl⟩, trivial, trivial⟩
theorem wk_144_3 : wk_l "TrailStoreModel" "table" rt_144_3 := ⟨trivial, ⟨rfl, rfl⟩, trivial, trivial, trivial, trivial, ⟨rfl, rfl⟩, trivial, trivial, trivial, trivial⟩
theorem wk_144 : ∀ l ∈ rt_144, wk_l "TrailStoreModel" "table" l := by
  intro l hl
  simp only [rt_144, List.mem_cons, List.not_mem_nil, or_false] at hl
  rcases hl with rfl | rfl | rfl | rfl
  · exact wk_144_0
  · exact wk_144_1
  · exact wk_144_2
  · exact wk_144_3
theorem dk_144_0 : (List.range 48).all (fun i => dk_i prog_9_method_57_code rt_144 (0 + i)) = true := by decide +kernel
theorem dk_144_1 : (List.range 16).all (fun i => dk_i prog_9_method_57_code rt_144 (48 + i)) = true := by decide +kernel
theorem dk_144 : ∀ i, i < 64 → dk_i prog_9_method_57_code rt_144 i = true := by
  intro i hi
  by_cases h0 : i < 48
  · have := List.all_eq_true.mp dk_144_0 (i - 0) (List.mem_range.mpr (by omega))
    rwa [show 0 + (i - 0) = i by omega] at this
  by_cases h1 : i < 64
  · have := List.all_eq_true.mp dk_144_1 (i - 48) (List.mem_range.mpr (by omega))
    rwa [show 48 + (i - 48) = i by omega] at this
  exact absurd hi (by omega)
theorem mk_144 : mk_m 144 := ⟨⟨rfl, rfl⟩, ⟨rfl, rfl⟩, by decide +kernel, ⟨⟨rfl, rfl⟩, ⟨rfl, rfl⟩⟩⟩
theorem wk_145_0 : wk_l "TrailStoreModel" "entry" rt_145_0 := ⟨trivial, ⟨rfl, rfl⟩, trivial, trivial, trivial, trivial, ⟨rfl, rfl⟩, trivial, trivial, trivial, trivial, trivial, trivial, trivial, trivial, ⟨rfl, rfl⟩, trivial⟩
theorem wk_145_1 : wk_l "TrailStoreModel" "entry" rt_145_1 := ⟨trivial, trivial, trivial, trivial, trivial, trivial, ⟨rfl, rfl⟩, trivial, trivial, trivial, trivial, trivial, ⟨rfl, rfl⟩, trivial, trivial, trivial, trivial⟩
theorem wk_145_2 : wk_l "TrailStoreModel" "entry" rt_145_2 := ⟨trivial, trivial, ⟨rfl, rfl⟩, trivial, trivial, ⟨rfl, rfl⟩, trivial, trivial, trivial, trivial, trivial, trivial⟩
theorem wk_145 : ∀ l ∈ rt_145, wk_l "TrailStoreModel" "entry" l := by
  intro l hl
  simp only [rt_145, List.mem_cons, List.not_mem_nil, or_false] at hl
  rcases hl with rfl | rfl | rfl
  · exact wk_145_0
  · exact wk_145_1
  · exact wk_145_2
theorem dk_145_0 : (List.range 48).all (fun i => dk_i prog_9_method_58_code rt_145 (0 + i)) = true := by decide +kernel
theorem dk_145 : ∀ i, i < 48 → dk_i prog_9_method_58_code rt_145 i = true := by
  intro i hi
  by_cases h0 : i < 48
  · have := List.all_eq_true.mp dk_145_0 (i - 0) (List.mem_range.mpr (by omega))
    rwa [show 0 + (i - 0) = i by omega] at this
  exact absurd hi (by omega)
theorem mk_145 : mk_m 145 := ⟨⟨rfl, rfl⟩, ⟨rfl, rfl⟩, by decide +kernel, ⟨⟨rfl, rfl⟩, ⟨rfl, rfl⟩⟩⟩
theorem wk_146_0 : wk_l "TrailStoreModel" "cell" rt_146_0 := ⟨trivial, trivial, trivial, trivial, trivial, trivial, trivial, trivial, trivial, ⟨rfl, rfl⟩, trivial, trivial, trivial, trivial, ⟨rfl, rfl⟩, trivial, trivial⟩
theorem wk_146_1 : wk_l "TrailStoreModel" "cell" rt_146_1 := ⟨⟨rfl, rfl⟩, trivial, trivial, trivial, trivial, trivial, trivial, trivial, trivial, trivial, trivial, trivial⟩
theorem wk_146 : ∀ l ∈ rt_146, wk_l "TrailStoreModel" "cell" l := by
  intro l hl
  simp only [rt_146, List.mem_cons, List.not_mem_nil, or_false] at hl
  rcases hl with rfl | rfl
  · exact wk_146_0
  · exact wk_146_1
theorem dk_146_0 : (List.range 32).all (fun i => dk_i prog_9_method_59_code rt_146 (0 + i)) = true := by decide +kernel
theorem dk_146 : ∀ i, i < 32 → dk_i prog_9_method_59_code rt_146 i = true := by
  intro i hi
  by_cases h0 : i < 32
  · have := List.all_eq_true.mp dk_146_0 (i - 0) (List.mem_range.mpr (by omega))
    rwa [show 0 + (i - 0) = i by omega] at this
  exact absurd hi (by omega)
theorem mk_146 : mk_m 146 := ⟨⟨rfl, rfl⟩, ⟨rfl, rfl⟩, by decide +kernel, ⟨⟨rfl, rfl⟩, ⟨rfl, rfl⟩⟩⟩
theorem wk_147_0 : wk_l "TrailStoreModel" "check" rt_147_0 := ⟨trivial, ⟨rfl, rfl⟩, trivial, trivial, trivial, trivial, trivial, trivial⟩
theorem wk_147 : ∀ l ∈ rt_147, wk_l "TrailStoreModel" "check" l := by
  intro l hl
  simp only [rt_147, List.mem_cons, List.not_mem_nil, or_false] at hl
  subst hl
  exact wk_147_0
theorem dk_147_0 : (List.range 16).all (fun i => dk_i prog_9_method_60_code rt_147 (0 + i)) = true := by decide +kernel
theorem dk_147 : ∀ i, i < 16 → dk_i prog_9_method_60_code rt_147 i = true := by
  intro i hi
  by_cases h0 : i < 16
  · have := List.all_eq_true.mp dk_147_0 (i - 0) (List.mem_range.mpr (by omega))
    rwa [show 0 + (i - 0) = i by omega] at this
  exact absurd hi (by omega)
theorem mk_147 : mk_m 147 := ⟨⟨rfl, rfl⟩, ⟨rfl, rfl⟩, by decide +kernel, ⟨⟨rfl, rfl⟩, ⟨rfl, rfl⟩⟩⟩
theorem wk_148_0 : wk_l "TrailStoreLaw" "cell" rt_148_0 := ⟨trivial, trivial, trivial, trivial, trivial, trivial, trivial, trivial, trivial, trivial, trivial⟩
theorem wk_148 : ∀ l ∈ rt_148, wk_l "TrailStoreLaw" "cell" l := by
  intro l hl
  simp only [rt_148, List.mem_cons, List.not_mem_nil, or_false] at hl
  subst hl
  exact wk_148_0
theorem dk_148_0 : (List.range 16).all (fun i => dk_i method_2_code rt_148 (0 + i)) = true := by decide +kernel
theorem dk_148 : ∀ i, i < 16 → dk_i method_2_code rt_148 i = true := by
  intro i hi
  by_cases h0 : i < 16
  · have := List.all_eq_true.mp dk_148_0 (i - 0) (List.mem_range.mpr (by omega))
    rwa [show 0 + (i - 0) = i by omega] at this
  exact absurd hi (by omega)
theorem mk_148 : mk_m 148 := ⟨⟨rfl, rfl⟩, ⟨rfl, rfl⟩, by decide +kernel, ⟨rfl, rfl⟩⟩
theorem wk_149_0 : wk_l "TrailStoreLaw" "law" rt_149_0 := ⟨⟨⟨rfl, rfl⟩, ⟨rfl, rfl⟩, ⟨rfl, rfl⟩⟩, trivial, trivial, trivial, ⟨rfl, rfl⟩, ⟨rfl, rfl⟩, trivial, ⟨⟨rfl, rfl⟩, ⟨rfl, rfl⟩, ⟨rfl, rfl⟩⟩, trivial, trivial, trivial, ⟨rfl, rfl⟩, ⟨rfl, rfl⟩, trivial, trivial, trivial, trivial⟩
theorem wk_149_1 : wk_l "TrailStoreLaw" "law" rt_149_1 := ⟨trivial, trivial, trivial, trivial, trivial, trivial, trivial, trivial, trivial, trivial, trivial, trivial, trivial, trivial, trivial, trivial, trivial⟩
theorem wk_149_2 : wk_l "TrailStoreLaw" "law" rt_149_2 := ⟨trivial, trivial, trivial, trivial, trivial, trivial, trivial, trivial, trivial, trivial, trivial, ⟨rfl, rfl⟩, trivial, trivial, trivial, trivial, trivial⟩
theorem wk_149_3 : wk_l "TrailStoreLaw" "law" rt_149_3 := ⟨trivial, trivial, trivial, ⟨rfl, rfl⟩, trivial, trivial, trivial, trivial, trivial, trivial, trivial, trivial, trivial, trivial, trivial, trivial, trivial⟩
theorem wk_149_4 : wk_l "TrailStoreLaw" "law" rt_149_4 := ⟨trivial, trivial, trivial, ⟨rfl, rfl⟩, trivial, trivial, trivial, trivial, trivial, trivial, trivial, ⟨rfl, rfl⟩, trivial, trivial, trivial, trivial, trivial⟩
theorem wk_149_5 : wk_l "TrailStoreLaw" "law" rt_149_5 := ⟨trivial, trivial, trivial, trivial, trivial, ⟨rfl, rfl⟩, trivial, trivial, trivial, trivial, trivial, trivial, ⟨rfl, rfl⟩, trivial, trivial, trivial, trivial⟩
theorem wk_149_6 : wk_l "TrailStoreLaw" "law" rt_149_6 := ⟨trivial, trivial, trivial, trivial, trivial, trivial, ⟨rfl, rfl⟩, trivial, trivial, trivial, trivial, trivial, trivial, ⟨rfl, rfl⟩, trivial, trivial, trivial⟩
theorem wk_149_7 : wk_l "TrailStoreLaw" "law" rt_149_7 := ⟨trivial, trivial, ⟨rfl, rfl⟩, trivial, ⟨rfl, rfl⟩, trivial, trivial, trivial, trivial, ⟨rfl, rfl⟩, trivial, ⟨rfl, rfl⟩, trivial, trivial, trivial, trivial, trivial⟩
theorem wk_149_8 : wk_l "TrailStoreLaw" "law" rt_149_8 := ⟨⟨rfl, rfl⟩, trivial, ⟨rfl, rfl⟩, trivial, trivial, trivial, trivial, trivial, trivial, trivial, trivial, trivial, ⟨rfl, rfl⟩, trivial, trivial, trivial, trivial⟩
theorem wk_149_9 : wk_l "TrailStoreLaw" "law" rt_149_9 := ⟨trivial, trivial, trivial, ⟨rfl, rfl⟩, trivial, trivial, trivial, trivial, trivial, trivial, trivial, trivial, trivial, ⟨rfl, rfl⟩, trivial, trivial, trivial⟩
theorem wk_149_10 : wk_l "TrailStoreLaw" "law" rt_149_10 := ⟨trivial, trivial, trivial, trivial, ⟨rfl, rfl⟩, trivial, trivial, trivial, trivial, trivial, trivial, trivial, trivial, trivial, ⟨rfl, rfl⟩, trivial, trivial⟩
theorem wk_149_11 : wk_l "TrailStoreLaw" "law" rt_149_11 := ⟨trivial, trivial, trivial, trivial, trivial, ⟨rfl, rfl⟩, trivial, trivial, trivial, trivial, ⟨rfl, rfl⟩, trivial, ⟨rfl, rfl⟩, trivial, trivial, trivial, trivial⟩
theorem wk_149_12 : wk_l "TrailStoreLaw" "law" rt_149_12 := ⟨trivial, ⟨rfl, rfl⟩, trivial, ⟨rfl, rfl⟩, trivial, trivial, trivial, trivial, trivial, trivial, trivial, trivial, trivial, ⟨rfl, rfl⟩, trivial, trivial, trivial⟩
theorem wk_149_13 : wk_l "TrailStoreLaw" "law" rt_149_13 := ⟨trivial, trivial, trivial, trivial, ⟨rfl, rfl⟩, trivial, trivial, trivial, trivial, trivial, trivial, trivial, trivial, trivial, trivial, trivial, trivial⟩
theorem wk_149_14 : wk_l "TrailStoreLaw" "law" rt_149_14 := ⟨trivial, trivial, trivial, ⟨rfl, rfl⟩, trivial, trivial, trivial, trivial, trivial, trivial, trivial, trivial, trivial, trivial, trivial, ⟨rfl, rfl⟩, trivial⟩
theorem wk_149_15 : wk_l "TrailStoreLaw" "law" rt_149_15 := ⟨trivial, trivial, trivial, trivial, trivial, trivial, trivial, trivial, trivial, trivial, trivial, trivial, trivial, trivial, trivial, trivial, trivial⟩
theorem wk_149_16 : wk_l "TrailStoreLaw" "law" rt_149_16 := ⟨trivial, trivial, trivial, ⟨rfl, rfl⟩, trivial, trivial, trivial, trivial, trivial, trivial, trivial, trivial, trivial, trivial, trivial, trivial, trivial⟩
theorem wk_149_17 : wk_l "TrailStoreLaw" "law" rt_149_17 := ⟨trivial, trivial, trivial, trivial, ⟨rfl, rfl⟩, trivial, trivial, trivial, trivial, ⟨rfl, rfl⟩, trivial, ⟨rfl, rfl⟩, trivial, trivial, trivial, trivial, trivial⟩
theorem wk_149_18 : wk_l "TrailStoreLaw" "law" rt_149_18 := ⟨⟨rfl, rfl⟩, trivial, ⟨rfl, rfl⟩, trivial, trivial, trivial, trivial, trivial, trivial, trivial, trivial, trivial, ⟨rfl, rfl⟩, trivial, trivial, trivial, trivial⟩
theorem wk_149_19 : wk_l "TrailStoreLaw" "law" rt_149_19 := ⟨trivial, trivial, trivial, ⟨rfl, rfl⟩, trivial, trivial, trivial, trivial, trivial, trivial, trivial, trivial, trivial, trivial, trivial, trivial, trivial⟩
theorem wk_149_20 : wk_l "TrailStoreLaw" "law" rt_149_20 := ⟨trivial, trivial, ⟨rfl, rfl⟩, trivial, trivial, trivial, trivial, trivial, trivial, trivial, trivial, trivial, trivial, trivial, ⟨rfl, rfl⟩, trivial, trivial⟩
theorem wk_149_21 : wk_l "TrailStoreLaw" "law" rt_149_21 := ⟨trivial, trivial, trivial, trivial, trivial, trivial, trivial, trivial, trivial, trivial, trivial, trivial, trivial, ⟨rfl, rfl⟩, trivial, trivial, trivial⟩
theorem wk_149_22 : wk_l "TrailStoreLaw" "law" rt_149_22 := ⟨trivial, trivial, trivial, trivial, trivial, trivial, trivial, trivial, trivial, ⟨rfl, rfl⟩, trivial, trivial, trivial, trivial, trivial, trivial, trivial⟩
theorem wk_149_23 : wk_l "TrailStoreLaw" "law" rt_149_23 := ⟨trivial, trivial, trivial, trivial, trivial, trivial, trivial, trivial, ⟨rfl, rfl⟩, trivial, trivial, trivial, trivial, trivial, trivial, trivial, trivial⟩
theorem wk_149_24 : wk_l "TrailStoreLaw" "law" rt_149_24 := ⟨trivial, trivial, trivial, trivial, ⟨rfl, rfl⟩, trivial, trivial, trivial, trivial, ⟨rfl, rfl⟩, trivial, ⟨rfl, rfl⟩, trivial, trivial, trivial, trivial, trivial⟩
theorem wk_149_25 : wk_l "TrailStoreLaw" "law" rt_149_25 := ⟨trivial, trivial, trivial, trivial⟩
theorem wk_149 : ∀ l ∈ rt_149, wk_l "TrailStoreLaw" "law" l := by
  intro l hl
  simp only [rt_149, List.mem_cons, List.not_mem_nil, or_false] at hl
  rcases hl with rfl | rfl | rfl | rfl | rfl | rfl | rfl | rfl | rfl | rfl | rfl | rfl | rfl | rfl | rfl | rfl | rfl | rfl | rfl | rfl | rfl | rfl | rfl | rfl | rfl | rfl
  · exact wk_149_0
  · exact wk_149_1
  · exact wk_149_2
  · exact wk_149_3
  · exact wk_149_4
  · exact wk_149_5
  · exact wk_149_6
  · exact wk_149_7
  · exact wk_149_8
  · exact wk_149_9
  · exact wk_149_10
  · exact wk_149_11
  · exact wk_149_12
  · exact wk_149_13
  · exact wk_149_14
  · exact wk_149_15
  · exact wk_149_16
  · exact wk_149_17
  · exact wk_149_18
  · exact wk_149_19
  · exact wk_149_20
  · exact wk_149_21
  · exact wk_149_22
  · exact wk_149_23
  · exact wk_149_24
  · exact wk_149_25
theorem dk_149_0 : (List.range 48).all (fun i => dk_i code rt_149 (0 + i)) = true := by decide +kernel
theorem dk_149_1 : (List.range 48).all (fun i => dk_i code rt_149 (48 + i)) = true := by decide +kernel
theorem dk_149_2 : (List.range 48).all (fun i => dk_i code rt_149 (96 + i)) = true := by decide +kernel
theorem dk_149_3 : (List.range 48).all (fun i => dk_i code rt_149 (144 + i)) = true := by decide +kernel
theorem dk_149_4 : (List.range 48).all (fun i => dk_i code rt_149 (192 + i)) = true := by decide +kernel
theorem dk_149_5 : (List.range 48).all (fun i => dk_i code rt_149 (240 + i)) = true := by decide +kernel
theorem dk_149_6 : (List.range 48).all (fun i => dk_i code rt_149 (288 + i)) = true := by decide +kernel
theorem dk_149_7 : (List.range 48).all (fun i => dk_i code rt_149 (336 + i)) = true := by decide +kernel
theorem dk_149_8 : (List.range 32).all (fun i => dk_i code rt_149 (384 + i)) = true := by decide +kernel
theorem dk_149 : ∀ i, i < 416 → dk_i code rt_149 i = true := by
  intro i hi
  by_cases h0 : i < 48
  · have := List.all_eq_true.mp dk_149_0 (i - 0) (List.mem_range.mpr (by omega))
    rwa [show 0 + (i - 0) = i by omega] at this
  by_cases h1 : i < 96
  · have := List.all_eq_true.mp dk_149_1 (i - 48) (List.mem_range.mpr (by omega))
    rwa [show 48 + (i - 48) = i by omega] at this
  by_cases h2 : i < 144
  · have := List.all_eq_true.mp dk_149_2 (i - 96) (List.mem_range.mpr (by omega))
    rwa [show 96 + (i - 96) = i by omega] at this
  by_cases h3 : i < 192
  · have := List.all_eq_true.mp dk_149_3 (i - 144) (List.mem_range.mpr (by omega))
    rwa [show 144 + (i - 144) = i by omega] at this
  by_cases h4 : i < 240
  · have := List.all_eq_true.mp dk_149_4 (i - 192) (List.mem_range.mpr (by omega))
    rwa [show 192 + (i - 192) = i by omega] at this
  by_cases h5 : i < 288
  · have := List.all_eq_true.mp dk_149_5 (i - 240) (List.mem_range.mpr (by omega))
    rwa [show 240 + (i - 240) = i by omega] at this
  by_cases h6 : i < 336
  · have := List.all_eq_true.mp dk_149_6 (i - 288) (List.mem_range.mpr (by omega))
    rwa [show 288 + (i - 288) = i by omega] at this
  by_cases h7 : i < 384
  · have := List.all_eq_true.mp dk_149_7 (i - 336) (List.mem_range.mpr (by omega))
    rwa [show 336 + (i - 336) = i by omega] at this
  by_cases h8 : i < 416
  · have := List.all_eq_true.mp dk_149_8 (i - 384) (List.mem_range.mpr (by omega))
    rwa [show 384 + (i - 384) = i by omega] at this
  exact absurd hi (by omega)
end
section
/-! PART 07: pure worlds and locals as the machine has them -/
theorem cv_cat (b h : Nat) (v : Value) : (rx_cv b h v).category = v.category := by cases v <;> rfl
theorem cv_fit (b h : Nat) (ty : FieldType) (v : Value) : fits ty (rx_cv b h v) = fits ty v := by cases v <;> cases ty <;> rfl
theorem cv_nar (b h : Nat) {ty : FieldType} {v : Value} (hv : narrow ty v = v) : narrow ty (rx_cv b h v) = rx_cv b h v := by
  cases v <;> first | exact hv | (cases ty <;> rfl)
theorem cv_sum (b h : Nat) (l : List Value) : ((l.map (rx_cv b h)).map fun v => v.category).sum = rx_sz l := by
  unfold rx_sz
  rw [List.map_map]
  congr 1
  apply List.map_congr_left
  intro v _
  exact cv_cat b h v
theorem cw_get (b h : Nat) (tc : Nat → ClassId) : ∀ (w : pW) (k j : Nat), (rx_cw b h tc k w)[j]? = (w[j]?).map (fun e => (k + j, rx_ce b h tc e))
  | [], k, j => by simp [rx_cw]
  | e :: l, k, 0 => by simp [rx_cw]
  | e :: l, k, j + 1 => by
    simp only [rx_cw, List.getElem?_cons_succ]
    rw [cw_get b h tc l (k + 1) j]
    congr 1
    funext x
    rw [show k + 1 + j = k + (j + 1) by omega]
theorem cw_set (b h : Nat) (tc : Nat → ClassId) : ∀ (w : pW) (k j : Nat) (e : pE), rx_cw b h tc k (w.set j e) = (rx_cw b h tc k w).set j (k + j, rx_ce b h tc e)
  | [], k, j, e => by simp [rx_cw]
  | a :: l, k, 0, e => by simp [rx_cw]
  | a :: l, k, j + 1, e => by
    simp only [rx_cw, List.set_cons_succ]
    rw [cw_set b h tc l (k + 1) j e, show k + 1 + j = k + (j + 1) by omega]
theorem cw_app (b h : Nat) (tc : Nat → ClassId) : ∀ (w : pW) (k : Nat) (e : pE), rx_cw b h tc k (w ++ [e]) = rx_cw b h tc k w ++ [(k + w.length, rx_ce b h tc e)]
  | [], k, e => by simp [rx_cw]
  | a :: l, k, e => by
    simp only [List.cons_append, rx_cw, List.length_cons]
    rw [cw_app b h tc l (k + 1) e, show k + 1 + l.length = k + (l.length + 1) by omega]
theorem cw_D (b h : Nat) (tc : Nat → ClassId) (w : pW) : va_D (fun q => h ≤ q) (rx_cw b h tc h w) := by
  refine ⟨fun i j p q hi hj hpq => ?_, fun k q hk => ?_⟩
  · rw [cw_get] at hi hj
    obtain ⟨x, -, rfl⟩ := Option.map_eq_some_iff.mp hi
    obtain ⟨y, -, rfl⟩ := Option.map_eq_some_iff.mp hj
    dsimp only at hpq
    omega
  · rw [cw_get] at hk
    obtain ⟨x, -, rfl⟩ := Option.map_eq_some_iff.mp hk
    exact Nat.le_add_right h k
/-- the locals -/
def rx_has (b h : Nat) (ls : Array Slot) (n : Nat) (L : List (Option Value)) : Prop := ls.size = n ∧ lv_wf ls ∧ (∀ (j : Nat) (v : Value), L[j]? = some (some v) → ls[j]? = some (.val (rx_cv b h v))) ∧ L.length = n
def rx_lv (b h : Nat) (L : List (Option Value)) : List (Nat × Value) := (List.range L.length).filterMap (fun j => match L[j]? with
  | some (some v) => some (j, rx_cv b h v)
  | _ => none)
theorem lv_mem {b h : Nat} {L : List (Option Value)} {j : Nat} {v : Value} : (j, v) ∈ rx_lv b h L ↔ ∃ u, L[j]? = some (some u) ∧ v = rx_cv b h u := by
  unfold rx_lv
  rw [List.mem_filterMap]
  constructor
  · rintro ⟨k, -, hk⟩
    split at hk
    · rename_i u hu
      cases hk
      exact ⟨u, hu, rfl⟩
    · cases hk
  · rintro ⟨u, hu, rfl⟩
    refine ⟨j, List.mem_range.mpr (List.getElem?_eq_some_iff.mp hu).1, ?_⟩
    rw [hu]
theorem has_lv {b h : Nat} {ls : Array Slot} {n : Nat} {L : List (Option Value)} (hl : rx_has b h ls n L) : lv_has ls n (rx_lv b h L) := by
  refine ⟨hl.1, hl.2.1, fun q hq => ?_⟩
  obtain ⟨j, v⟩ := q
  obtain ⟨u, hu, rfl⟩ := lv_mem.mp hq
  exact hl.2.2.1 j u hu
theorem nw_of {L : List (Option Value)} {j : Nat} {u : Value} (hw : rx_nw L (j + 1) = true) (hu : L[j]? = some (some u)) : u.category = 1 := by
  simp only [rx_nw, hu] at hw
  cases u <;> simp at hw <;> rfl
/-- a store at place i -/
theorem has_set {b h : Nat} {ls' : Array Slot} {n i : Nat} {L : List (Option Value)} {v : Value} (hw : rx_nw L i = true) (hi : i < L.length) (hLn : L.length = n)
    (hl : lv_has ls' n ((i, rx_cv b h v) :: (rx_lv b h L).filter (fun q => !(q.1 == i) && !(q.1 + 1 == i && q.2.category == 2)))) : rx_has b h ls' n (L.set i (some v)) := by
  refine ⟨hl.1, hl.2.1, fun j u hu => ?_, by simpa using hLn⟩
  by_cases hj : j = i
  · subst hj
    rw [List.getElem?_set_self hi] at hu
    cases hu
    exact hl.2.2 _ List.mem_cons_self
  · rw [List.getElem?_set_ne (fun e => hj e.symm)] at hu
    refine hl.2.2 (j, rx_cv b h u) (List.mem_cons_of_mem _ (List.mem_filter.mpr ⟨lv_mem.mpr ⟨u, hu, rfl⟩, ?_⟩))
    have h1 : (j == i) = false := by simpa using hj
    have h2 : (j + 1 == i && (rx_cv b h u).category == 2) = false := by
      by_cases hji : j + 1 = i
      · subst hji
        rw [cv_cat, nw_of hw hu]
        simp
      · simp [hji]
    show (!(j == i) && !(j + 1 == i && (rx_cv b h u).category == 2)) = true
    rw [h1, h2]
    rfl
theorem en_len (b h : Nat) : ∀ l : List Value, (lg_sl (l.map (rx_cv b h))).length = (rx_en l).length
  | [] => rfl
  | v :: l => by
    have ih := en_len b h l
    unfold lg_sl at ih ⊢
    rw [List.map_cons, List.flatMap_cons, cv_cat]
    unfold rx_en
    split
    · simp only [List.length_append, List.length_cons, List.length_nil]
      omega
    · simp only [List.length_append, List.length_cons, List.length_nil]
      omega
theorem en_args (b h : Nat) : ∀ (l : List Value) (k j : Nat) (v : Value), (rx_en l)[j]? = some (some v) → (k + j, rx_cv b h v) ∈ lv_args k (l.map (rx_cv b h))
  | [], k, j, v, hv => by simp [rx_en] at hv
  | u :: l, k, j, v, hv => by
    rw [List.map_cons]
    unfold lv_args
    unfold rx_en at hv
    rw [cv_cat]
    split at hv
    · rename_i hc
      rw [if_pos hc]
      match j, hv with
      | 0, hv =>
        simp at hv
        subst hv
        exact List.mem_cons_self
      | 1, hv => simp at hv
      | j + 2, hv =>
        simp only [List.getElem?_cons_succ] at hv
        have := en_args b h l (k + 2) j v hv
        rw [show k + 2 + j = k + (j + 2) by omega] at this
        exact List.mem_cons_of_mem _ this
    · rename_i hc
      rw [if_neg hc]
      match j, hv with
      | 0, hv =>
        simp at hv
        subst hv
        exact List.mem_cons_self
      | j + 1, hv =>
        simp only [List.getElem?_cons_succ] at hv
        have := en_args b h l (k + 1) j v hv
        rw [show k + 1 + j = k + (j + 1) by omega] at this
        exact List.mem_cons_of_mem _ this
theorem has_en (b h : Nat) {l : List Value} {n : Nat} (hn : (rx_en l).length ≤ n) : rx_has b h ((lg_sl (l.map (rx_cv b h)) ++ List.replicate (n - (lg_sl (l.map (rx_cv b h))).length) Slot.unset).toArray) n (rx_l0 l n) := by
  have hl := lv_entry (l.map (rx_cv b h)) (n := n) (by rw [en_len]; exact hn)
  refine ⟨hl.1, hl.2.1, fun j v hv => ?_, by unfold rx_l0; rw [List.length_append, List.length_replicate]; omega⟩
  unfold rx_l0 at hv
  by_cases hj : j < (rx_en l).length
  · rw [List.getElem?_append_left hj] at hv
    have := en_args b h l 0 j v hv
    rw [Nat.zero_add] at this
    exact hl.2.2 _ this
  · rw [List.getElem?_append_right (by omega)] at hv
    rw [List.getElem?_replicate] at hv
    split at hv <;> simp at hv
/-- the world's cells, as the machine's rows want them -/
theorem gf_at {b h : Nat} {tc : Nat → ClassId} {w : pW} {c o k : Nat} {v : Value} (hg : gt_f w c o k = some v) : ∃ (j : Nat) (fs : List Value), o = j + 1 ∧ (rx_cw b h tc h w)[j]? = some (h + j, .inr (c, fs.map (rx_cv b h))) ∧ (fs.map (rx_cv b h))[k]? = some (rx_cv b h v) := by
  cases o with
  | zero => cases hg
  | succ j =>
    simp only [gt_f] at hg
    split at hg
    · rename_i c' fs he
      split at hg
      · rename_i hc
        subst hc
        refine ⟨j, fs, rfl, ?_, ?_⟩
        · rw [cw_get, he]
          rfl
        · rw [List.getElem?_map, hg]
          rfl
      · cases hg
    · cases hg
theorem gc_at {b h : Nat} {tc : Nat → ClassId} {w : pW} {c o : Nat} (hg : gt_c w o = some c) : ∃ (j : Nat) (fs : List Value), o = j + 1 ∧ (rx_cw b h tc h w)[j]? = some (h + j, .inr (c, fs)) := by
  cases o with
  | zero => cases hg
  | succ j =>
    simp only [gt_c] at hg
    split at hg
    · rename_i c' fs he
      cases hg
      refine ⟨j, fs.map (rx_cv b h), rfl, ?_⟩
      rw [cw_get, he]
      rfl
    · cases hg
theorem pf_at {b h : Nat} {tc : Nat → ClassId} {w w' : pW} {c o k : Nat} {v : Value} (hg : pt_f w c o k v = some w') : ∃ (j : Nat) (fs : List Value), o = j + 1 ∧ (rx_cw b h tc h w)[j]? = some (h + j, .inr (c, fs)) ∧ k < fs.length ∧ rx_cw b h tc h w' = (rx_cw b h tc h w).set j (h + j, .inr (c, fs.set k (rx_cv b h v))) ∧ w'.length = w.length := by
  cases o with
  | zero => cases hg
  | succ j =>
    simp only [pt_f] at hg
    split at hg
    · rename_i c' fs he
      split at hg
      · rename_i hc
        obtain ⟨rfl, hk⟩ := hc
        cases hg
        refine ⟨j, fs.map (rx_cv b h), rfl, ?_, ?_, ?_, ?_⟩
        · rw [cw_get, he]
          rfl
        · rw [List.length_map]
          exact hk
        · rw [cw_set]
          show _ = (rx_cw b h tc h w).set j (h + j, .inr (c', (fs.map (rx_cv b h)).set k (rx_cv b h v)))
          rw [← List.map_set]
          rfl
        · simp
      · cases hg
    · cases hg
theorem ga_at {b h : Nat} {tc : Nat → ClassId} {w : pW} {o : Nat} {t : Nat} {a : vp_A} (hg : gt_a w o = some (t, a)) : ∃ j : Nat, o = j + 1 ∧ (rx_cw b h tc h w)[j]? = some (h + j, .inl (tc t, rx_ca b h a)) := by
  cases o with
  | zero => cases hg
  | succ j =>
    simp only [gt_a] at hg
    split at hg
    · rename_i a' he
      cases hg
      refine ⟨j, rfl, ?_⟩
      rw [cw_get, he]
      rfl
    · cases hg
theorem pa_at {b h : Nat} {tc : Nat → ClassId} (w : pW) (j : Nat) (t : Nat) (a : vp_A) : rx_cw b h tc h (pt_a w (j + 1) (t, a)) = (rx_cw b h tc h w).set j (h + j, .inl (tc t, rx_ca b h a)) ∧ (pt_a w (j + 1) (t, a)).length = w.length := by
  constructor
  · show rx_cw b h tc h (w.set j _) = _
    rw [cw_set]
    rfl
  · show (w.set j _).length = _
    simp
end
section
/-! PART 08: the small machine is sound: words, worlds and calls -/
theorem wg_in {k : Nat} {w : Cond} (h : wk_w k w) : w ∈ rx_wall := by
  obtain ⟨h1, h2⟩ := h
  refine List.mem_filter.mpr ⟨?_, h2⟩
  have h0 : goodWord rx_wd = false := rfl
  rw [← h1] at h2 ⊢
  unfold rx_wg at h2 ⊢
  rw [List.getD_eq_getElem?_getD (l := rx_wt)] at h2 ⊢
  cases e1 : rx_wt[k / 32]? with
  | none =>
    rw [e1] at h2
    exact absurd (h0.symm.trans h2) (by decide)
  | some l =>
    rw [e1] at h2
    replace h2 : goodWord (l.getD (k % 32) rx_wd) = true := h2
    show l.getD (k % 32) rx_wd ∈ lw_tbl
    rw [List.getD_eq_getElem?_getD] at h2 ⊢
    cases e2 : l[k % 32]? with
    | none =>
      rw [e2] at h2
      exact absurd (h0.symm.trans h2) (by decide)
    | some x => exact cw_in l (List.mem_of_getElem? e1) x (List.mem_of_getElem? e2)
theorem wg_nest {k : Nat} {o : String} {n : Nat} {y : MethodName} {q : String} (h1 : rx_wg k = .methodLinkNest o n y q) : Cond.methodLinkNest o n y q ∈ lw_tbl := by
  rw [← h1]
  unfold rx_wg at h1 ⊢
  rw [List.getD_eq_getElem?_getD (l := rx_wt)] at h1 ⊢
  cases e1 : rx_wt[k / 32]? with
  | none =>
    rw [e1] at h1
    cases h1
  | some l =>
    rw [e1] at h1
    replace h1 : l.getD (k % 32) rx_wd = .methodLinkNest o n y q := h1
    show l.getD (k % 32) rx_wd ∈ lw_tbl
    rw [List.getD_eq_getElem?_getD] at h1 ⊢
    cases e2 : l[k % 32]? with
    | none =>
      rw [e2] at h1
      cases h1
    | some x => exact cw_in l (List.mem_of_getElem? e1) x (List.mem_of_getElem? e2)
theorem wl_good {l : List Cond} (h : ∀ w ∈ l, w ∈ rx_wall) : GoodIn rx_wall l := fun w hw => ⟨h w hw, good_of_word (List.mem_filter.mp (h w hw)).2⟩
/-- words that the tables keep but that stand in no method's list: links among nest mates, and the arrays of byte arrays -/
def sd_n (U : State) : Prop := (∀ o n y k, Cond.methodLinkNest o n y k ∈ lw_tbl → va_Nw (.methodLinkNest o n y k) U) ∧ (Cond.arrayOver (.array .byte)).before #[] U = true
theorem sd_ao {u U : State} (hvm : u.vm.Alike U.vm) (h : (Cond.arrayOver (.array .byte)).before #[] u = true) : (Cond.arrayOver (.array .byte)).before #[] U = true := by
  obtain ⟨comp, c, k, h1, h2, h3, h4, h5⟩ := arrayOverA_spec h
  obtain ⟨k', hk', he⟩ := hvm.2.2 _ _ h3
  have e1 := va_idx_bare u.vm comp
  have e2 := va_idx_bare U.vm comp
  have e3 : u.vm.bare = U.vm.bare := by first | exact hvm.bare_eq | exact hvm.bare_eq.symm
  rw [← e3] at e2
  have hi := e2.symm.trans (e1.trans h2)
  have hkind : k'.kind = .array comp (.array .byte) := by rw [he]; exact h4
  have f1 : U.vm.findClass (FieldType.array .byte).toString = some comp := by rw [hvm.findClass]; exact h1
  have f2 : U.vm.findClass ("[" ++ (FieldType.array .byte).toString) = some c := by rw [hvm.findClass]; exact h5
  unfold Cond.before Cond.holds
  simp only [Cond.value]
  rw [f1, Option.bind_some]
  refine (congrArg (fun o : Option Nat => (o.bind (fun c => (U.vm.classes[c]?).map fun (k : Class) => match k.kind with | .array _ ty => decide (ty = FieldType.array .byte) && decide (U.vm.findClass ("[" ++ (FieldType.array .byte).toString) = some c) | _ => false) == some true)) hi).trans ?_
  simp [hk', hkind, f2]
theorem sd_nw {s U : State} (hW : s.WarmedH U.vm) (h : sd_n s) : sd_n U := ⟨fun o n y k hm => va_Nw.warmM hW (h.1 o n y k hm), sd_ao hW.alike h.2⟩
theorem sd_ns {s U : State} (hv : s.vm = U.vm) (h : sd_n s) : sd_n U := ⟨fun o n y k hm => va_Nw.same rfl hv (h.1 o n y k hm), sd_ao (by rw [hv]; exact Vm.Alike.refl _) h.2⟩
/-- what stays the same during a method's body -/
def sd_C (p : Program) (s : State) (m : MethodId) (args : Array Value) (meth : Method) (c : Code) (own nm : String) (cc : ByteArray) (nL : Nat) (ret : Option FieldType) (b h Lx : Nat) (xs : Nat → Int32) (tc : Nat → ClassId) (D : va_G) : Prop :=
  p.tables.exec = Jvm.exec ∧ c.code = cc ∧ c.maxLocals = nL ∧ s.vm.findClass own = some m.cls ∧ (∀ w ∈ rx_wall, w.before args s = true) ∧ va_K D rx_cl (rx_tys tc) s ∧ va_X b Lx xs s s.heap ∧ b < h ∧ h ≤ s.heap.size ∧ sd_n s ∧ meth.name = nm ∧ meth.locks = false ∧ meth.sig.returnType = ret
/-- a world in a state -/
def sd_W (b h Lx : Nat) (xs : Nat → Int32) (tc : Nat → ClassId) (D : va_G) (w : pW) (U : State) : Prop :=
  va_P D rx_cl (rx_cw b h tc h w) U.heap ∧ U.heap.size = h + w.length ∧ va_K D rx_cl (rx_tys tc) U ∧ va_X b Lx xs U U.heap ∧ sd_n U
def sd_rm (d M : Nat) : Room := { frames := d, cells := (mA M).1, slots := (mA M).2, locals := 40 * d }
def sd_Pc (b h Lx : Nat) (xs : Nat → Int32) (tc : Nat → ClassId) (D : va_G) (a : List Value) (w : pW) : Array Value → State → Prop := fun v U => v = (a.map (rx_cv b h)).toArray ∧ sd_W b h Lx xs tc D w U
def sd_Qc (b h Lx : Nat) (xs : Nat → Int32) (tc : Nat → ClassId) (D : va_G) (Q : rQ) : Array Value → State → Outcome → State → Prop := fun _ st o t => ∃ r w', o = .returned (r.map (rx_cv b h)) ∧ Q r w' ∧ sd_W b h Lx xs tc D w' t ∧ va_F (fun q => h ≤ q) st t
def sd_call (b h Lx : Nat) (xs : Nat → Int32) (tc : Nat → ClassId) (D : va_G) (l : Launch) (call : rC) (d : Nat) : Prop :=
  ∀ (M : Nat) (a : List Value) (w : pW) (Q : rQ), M < 149 → call M a w Q → Met l (mN M) (rx_ws M) (sd_rm d M) (sd_Pc b h Lx xs tc D a w) (sd_Qc b h Lx xs tc D Q) (mA M).1 (mA M).2 (fun q => h ≤ q)
theorem sd_blind (b h Lx : Nat) (xs : Nat → Int32) (tc : Nat → ClassId) (D : va_G) (a : List Value) (w : pW) : FrameBlind (sd_Pc b h Lx xs tc D a w) := by
  intro v U g mk hU
  obtain ⟨h1, h2, h3, h4, h5, h6⟩ := hU
  exact ⟨h1, h2, h3, va_K.moved (u := U) (U := U.calling g mk v) (Vm.Alike.refl U.vm) h4, va_X.moved (u := U) (U := U.calling g mk v) (Vm.Alike.refl U.vm) h5, sd_ns (s := U) (U := U.calling g mk v) rfl h6⟩
section SDG
variable {p : Program} {l : Launch} {e : Env} {R : Room} {s : State} {m : MethodId} {args : Array Value} {below : List Frame} {meth : Method} {c : Code} {H : Heap} {locs : List Loc} {cells slots : Nat} {Qw : State → Prop}
variable {b h Lx : Nat} {xs : Nat → Int32} {tc : Nat → ClassId} {D : va_G} {own nm : String} {cc : ByteArray} {nL : Nat} {ret : Option FieldType}
theorem sd_at (C : sd_C p s m args meth c own nm cc nL ret b h Lx xs tc D) {w : pW} (hP : va_P D rx_cl (rx_cw b h tc h w) H) (hz : H.size = h + w.length) (hS : va_S (fun q => h ≤ q) s.heap H locs) (U : State) (hU : U.heap = H) (hW : s.WarmedH U.vm) : sd_W b h Lx xs tc D w U := by
  obtain ⟨-, -, -, -, -, hK, hX, hbh, hh, hN, -⟩ := C
  refine ⟨by rw [hU]; exact hP, by rw [hU]; exact hz, va_K.moved hW.alike hK, ?_, sd_nw hW hN⟩
  rw [hU]
  exact (hX.kept (hS.2.1 b (by omega) (by omega))).moved hW.alike
theorem sd_go {mc ms pc : Nat} {ls : Array Slot} {st0 rest : List Value} {a : Array Value} {Q : rQ} {free : Addr → Prop}
    (hr : va_Run p l e R s m args below meth c H locs cells slots mc ms (F0 m pc ls st0) rest (sd_Qc b h Lx xs tc D Q a) free) (hS : va_S (fun q => h ≤ q) s.heap H locs) (hf : ∀ q, free q → h ≤ q)
    (kk : ∀ (r : Option Value) (w' : pW) (H1 : Heap) (locs1 : List Loc), Q r w' → va_P D rx_cl (rx_cw b h tc h w') H1 → H1.size = h + w'.length → va_S (fun q => h ≤ q) s.heap H1 locs1 → W p l e R s m args below meth c H1 locs1 (cells + mc) (slots + ms) Qw (F0 m (pc + 3) ls ((r.map (rx_cv b h)).toList ++ rest))) :
    W p l e R s m args below meth c H locs cells slots Qw (F0 m pc ls st0) := by
  intro T hT X
  obtain ⟨v, st₀, t, T', L, h0, X', hL, e1, e2, ⟨r, w', hv, hq, ⟨hP1, hz1, -, -, -⟩, hz, hk⟩, st⟩ := hr T hT X
  cases hv
  rw [h0] at hz hk
  obtain ⟨t2, a1, b1⟩ := kk r w' T'.heap (locs ++ L) hq (by rw [e1]; exact hP1) (by rw [e1]; exact hz1)
    ⟨Nat.le_trans hS.1 (by rw [e1]; exact hz), fun q h1 h2 => by rw [e1, hk q (Nat.lt_of_lt_of_le h1 hS.1) h2]; exact hS.2.1 q h1 h2, fun q hq => by
      rcases List.mem_append.mp hq with h | h
      · exact hS.2.2 q h
      · exact hf _ (hL q h)⟩ T' rfl X'
  exact ⟨t2, st t2 a1, b1⟩
/-- the words of a callee -/
theorem sd_mw {M : Nat} (hm : mk_m M) : ∀ w ∈ rx_ws M, w ∈ rx_wall := by
  intro w hw
  rcases List.mem_cons.mp hw with rfl | hw
  · exact wg_in hm.1
  · exact hw
theorem sd_V (C : sd_C p s m args meth c own nm cc nL ret b h Lx xs tc D) {d : Nat} {call : rC} (hcall : sd_call b h Lx xs tc D l call d) (hfr : d + 1 ≤ R.frames) (hlo : 40 * d + 40 ≤ R.locals) {pc M n idx : Nat} {ls : Array Slot} {w : pW} (hP : va_P D rx_cl (rx_cw b h tc h w) H) (hz : H.size = h + w.length) (hS : va_S (fun q => h ≤ q) s.heap H locs) (hls : ls.size = nL) (hM : M < 149) (hm : mk_m M) (hn : rx_at (mW M) 5 = n) (hf : cells + (mA M).1 ≤ R.cells ∧ slots + (mA M).2 ≤ R.slots) {Q : rQ} {o : Nat} {as rest : List Value} (hk : rx_at (mW M) 4 = 0) (hl : as.length = n) (hlink : Cond.methodLink own idx (mN M) ∈ rx_wall) (hd : decode cc pc = .ok (.invokevirtual idx, 3)) {ci : Nat} (hci : ci < 8) (hg : gt_c w o = some ci) (hcn : (rx_cd ci).1 = (mN M).cls) (hcd : rx_cl[ci]? = some (rx_cd ci)) (hsz : rx_sz rest ≤ 8) (hc : call M (.ref o :: as) w Q)
    (kk : ∀ (r : Option Value) (w' : pW) (H1 : Heap) (locs1 : List Loc), Q r w' → va_P D rx_cl (rx_cw b h tc h w') H1 → H1.size = h + w'.length → va_S (fun q => h ≤ q) s.heap H1 locs1 → W p l e R s m args below meth c H1 locs1 (cells + (mA M).1) (slots + (mA M).2) Qw (F0 m (pc + 3) ls ((r.map (rx_cv b h)).toList ++ rest.map (rx_cv b h)))) :
    W p l e R s m args below meth c H locs cells slots Qw (F0 m pc ls (as.reverse.map (rx_cv b h) ++ .ref (rx_ad b h o) :: rest.map (rx_cv b h))) := by
  have C' := C
  obtain ⟨hx, hb, hml, hown, hts, hK, hX, hbh, hh, hN, -⟩ := C
  obtain ⟨m1, m2, ⟨m3, m4, m5, m6, -⟩, m7⟩ := id hm
  rw [hk] at m7
  obtain ⟨j, fs, hj, hcell⟩ := gc_at (b := b) (h := h) (tc := tc) hg
  subst hj
  have hgood : GoodIn rx_wall (wsV own idx (mN M).cls (mN M) (rx_ws M)) := by
    refine wl_good fun w hw => ?_
    simp only [wsV, List.mem_append, List.mem_cons, List.not_mem_nil, or_false] at hw
    rcases hw with (rfl | rfl | rfl | rfl) | hw
    · exact hlink
    · exact wg_in m7.1
    · exact wg_in m7.2
    · exact wg_in m2
    · exact sd_mw hm w hw
  refine sd_go (va_runV (As := as.map (rx_cv b h)) (rest := rest.map (rx_cv b h)) (b := h + j) (C := (mN M).cls) ⟨hx, hb, hml, hown, hts⟩ (hcall M (.ref (j + 1) :: as) w Q hM hc) (cwV n hts hgood rfl rfl rfl ⟨rfl, m3, m4, by rw [m5, hn]⟩ ⟨hfr, by show 8 + (mL M + 11) + 40 * d ≤ R.locals; omega⟩) ⟨sd_blind _ _ _ _ _ _ _ _, ?_, fun U hU hW => ⟨rfl, sd_at C' hP hz hS U hU hW⟩⟩ rfl (by rw [List.length_map]; exact hl) hls ?_ (lv_room (by rw [cv_sum]; exact hsz)) hd hf) hS (fun q hq => hq) kk
  · rw [← hcn]
    exact va_recv hK hP hcd hcell
  · show as.reverse.map (rx_cv b h) ++ .ref (h + j) :: rest.map (rx_cv b h) = (as.map (rx_cv b h)).reverse ++ .ref (h + j) :: rest.map (rx_cv b h)
    rw [List.map_reverse]
theorem sd_S (C : sd_C p s m args meth c own nm cc nL ret b h Lx xs tc D) {d : Nat} {call : rC} (hcall : sd_call b h Lx xs tc D l call d) (hfr : d + 1 ≤ R.frames) (hlo : 40 * d + 40 ≤ R.locals) {pc M n idx : Nat} {ls : Array Slot} {w : pW} (hP : va_P D rx_cl (rx_cw b h tc h w) H) (hz : H.size = h + w.length) (hS : va_S (fun q => h ≤ q) s.heap H locs) (hls : ls.size = nL) (hM : M < 149) (hm : mk_m M) (hn : rx_at (mW M) 5 = n) (hf : cells + (mA M).1 ≤ R.cells ∧ slots + (mA M).2 ≤ R.slots) {Q : rQ} {as rest : List Value} (hk : rx_at (mW M) 4 = 1) (hl : as.length = n) (hlink : Cond.methodLink own idx (mN M) ∈ rx_wall) (hd : decode cc pc = .ok (.invokestatic idx, 3)) (hsz : rx_sz rest ≤ 8) (hc : call M as w Q)
    (kk : ∀ (r : Option Value) (w' : pW) (H1 : Heap) (locs1 : List Loc), Q r w' → va_P D rx_cl (rx_cw b h tc h w') H1 → H1.size = h + w'.length → va_S (fun q => h ≤ q) s.heap H1 locs1 → W p l e R s m args below meth c H1 locs1 (cells + (mA M).1) (slots + (mA M).2) Qw (F0 m (pc + 3) ls ((r.map (rx_cv b h)).toList ++ rest.map (rx_cv b h)))) :
    W p l e R s m args below meth c H locs cells slots Qw (F0 m pc ls (as.reverse.map (rx_cv b h) ++ rest.map (rx_cv b h))) := by
  have C' := C
  obtain ⟨hx, hb, hml, hown, hts, hK, hX, hbh, hh, hN, -⟩ := C
  obtain ⟨m1, m2, ⟨m3, m4, m5, m6, -⟩, m7⟩ := id hm
  rw [hk] at m7
  have hgood : GoodIn rx_wall (va_wsS own idx (mN M) (rx_ws M)) := by
    refine wl_good fun w hw => ?_
    simp only [va_wsS, List.mem_append, List.mem_cons, List.not_mem_nil, or_false] at hw
    rcases hw with (rfl | rfl | rfl) | hw
    · exact hlink
    · exact wg_in m7
    · exact wg_in m2
    · exact sd_mw hm w hw
  refine sd_go (va_runS (As := as.map (rx_cv b h)) (rest := rest.map (rx_cv b h)) ⟨hx, hb, hml, hown, hts⟩ (hcall M as w Q hM hc) (va_cwS n hts hgood rfl rfl rfl ⟨m3, m4, by rw [m5, hn]⟩ ⟨hfr, by show 8 + (mL M + 11) + 40 * d ≤ R.locals; omega⟩) ⟨sd_blind _ _ _ _ _ _ _ _, fun U hU hW => ⟨rfl, sd_at C' hP hz hS U hU hW⟩⟩ rfl (by rw [List.length_map]; exact hl) hls ?_ (lv_room (by rw [cv_sum]; exact hsz)) hd hf) hS (fun q hq => hq) kk
  show as.reverse.map (rx_cv b h) ++ rest.map (rx_cv b h) = (as.map (rx_cv b h)).reverse ++ rest.map (rx_cv b h)
  rw [List.map_reverse]
theorem sd_N (C : sd_C p s m args meth c own nm cc nL ret b h Lx xs tc D) {d : Nat} {call : rC} (hcall : sd_call b h Lx xs tc D l call d) (hfr : d + 1 ≤ R.frames) (hlo : 40 * d + 40 ≤ R.locals) {pc M n idx : Nat} {ls : Array Slot} {w : pW} (hP : va_P D rx_cl (rx_cw b h tc h w) H) (hz : H.size = h + w.length) (hS : va_S (fun q => h ≤ q) s.heap H locs) (hls : ls.size = nL) (hM : M < 149) (hm : mk_m M) (hn : rx_at (mW M) 5 = n) (hf : cells + (mA M).1 ≤ R.cells ∧ slots + (mA M).2 ≤ R.slots) {Q : rQ} {as rest : List Value} (hk : rx_at (mW M) 4 = 1) (hl : as.length = n) {host : String} (hlink : Cond.methodLinkNest own idx (mN M) host ∈ lw_tbl) (hd : decode cc pc = .ok (.invokestatic idx, 3)) (hsz : rx_sz rest ≤ 8) (hc : call M as w Q)
    (kk : ∀ (r : Option Value) (w' : pW) (H1 : Heap) (locs1 : List Loc), Q r w' → va_P D rx_cl (rx_cw b h tc h w') H1 → H1.size = h + w'.length → va_S (fun q => h ≤ q) s.heap H1 locs1 → W p l e R s m args below meth c H1 locs1 (cells + (mA M).1) (slots + (mA M).2) Qw (F0 m (pc + 3) ls ((r.map (rx_cv b h)).toList ++ rest.map (rx_cv b h)))) :
    W p l e R s m args below meth c H locs cells slots Qw (F0 m pc ls (as.reverse.map (rx_cv b h) ++ rest.map (rx_cv b h))) := by
  have C' := C
  obtain ⟨hx, hb, hml, hown, hts, hK, hX, hbh, hh, hN, -⟩ := C
  obtain ⟨m1, m2, ⟨m3, m4, m5, m6, -⟩, m7⟩ := id hm
  rw [hk] at m7
  refine sd_go (va_runSN (host := host) (As := as.map (rx_cv b h)) (rest := rest.map (rx_cv b h)) ⟨hx, hb, hml, hown, hts⟩ (hcall M as w Q hM hc) ⟨va_cnB n hts (wl_good (sd_mw hm)) rfl rfl rfl (hN.1 _ _ _ _ hlink) (hts _ (wg_in m2)) ⟨m3, m4, by rw [m5, hn]⟩ ⟨hfr, by show 8 + (mL M + 11) + 40 * d ≤ R.locals; omega⟩, hts _ (wg_in m7), trivial⟩ ⟨sd_blind _ _ _ _ _ _ _ _, fun U hU hW => ⟨rfl, sd_at C' hP hz hS U hU hW⟩⟩ rfl (by rw [List.length_map]; exact hl) hls ?_ (lv_room (by rw [cv_sum]; exact hsz)) hd hf) hS (fun q hq => hq) kk
  show as.reverse.map (rx_cv b h) ++ rest.map (rx_cv b h) = (as.map (rx_cv b h)).reverse ++ rest.map (rx_cv b h)
  rw [List.map_reverse]
theorem sd_I (C : sd_C p s m args meth c own nm cc nL ret b h Lx xs tc D) {d : Nat} {call : rC} (hcall : sd_call b h Lx xs tc D l call d) (hfr : d + 1 ≤ R.frames) (hlo : 40 * d + 40 ≤ R.locals) {pc M n idx : Nat} {ls : Array Slot} {w : pW} (hP : va_P D rx_cl (rx_cw b h tc h w) H) (hz : H.size = h + w.length) (hS : va_S (fun q => h ≤ q) s.heap H locs) (hls : ls.size = nL) (hM : M < 149) (hm : mk_m M) (hn : rx_at (mW M) 5 = n) (hf : cells + (mA M).1 ≤ R.cells ∧ slots + (mA M).2 ≤ R.slots) {Q : rQ} {o : Nat} {as rest : List Value} (hk : rx_at (mW M) 4 = 3) (hl : as.length = n) (hlink : Cond.methodLink own idx (mN M) ∈ rx_wall) (hd : decode cc pc = .ok (.invokespecial idx, 3)) (hsz : rx_sz rest ≤ 8) (hc : call M (.ref o :: as) w Q)
    (kk : ∀ (r : Option Value) (w' : pW) (H1 : Heap) (locs1 : List Loc), Q r w' → va_P D rx_cl (rx_cw b h tc h w') H1 → H1.size = h + w'.length → va_S (fun q => h ≤ q) s.heap H1 locs1 → W p l e R s m args below meth c H1 locs1 (cells + (mA M).1) (slots + (mA M).2) Qw (F0 m (pc + 3) ls ((r.map (rx_cv b h)).toList ++ rest.map (rx_cv b h)))) :
    W p l e R s m args below meth c H locs cells slots Qw (F0 m pc ls (as.reverse.map (rx_cv b h) ++ .ref (rx_ad b h o) :: rest.map (rx_cv b h))) := by
  have C' := C
  obtain ⟨hx, hb, hml, hown, hts, hK, hX, hbh, hh, hN, -⟩ := C
  obtain ⟨m1, m2, ⟨m3, m4, m5, m6, -⟩, m7⟩ := id hm
  rw [hk] at m7
  refine sd_go (va_runI (As := as.map (rx_cv b h)) (rest := rest.map (rx_cv b h)) (b := rx_ad b h o) ⟨hx, hb, hml, hown, hts⟩ (hcall M (.ref o :: as) w Q hM hc) (cwI (ws' := rx_wall) n hts (wl_good (sd_mw hm)) (by unfold rx_ws; rw [m7.2.2]) rfl rfl (hts _ (wg_in m2)) (hts _ hlink) (hts _ (wg_in m7.1)) m7.2.1 ⟨m3, m4, by rw [m5, hn]⟩ ⟨hfr, by show 8 + (mL M + 11) + 40 * d ≤ R.locals; omega⟩) ⟨sd_blind _ _ _ _ _ _ _ _, fun U hU hW => ⟨rfl, sd_at C' hP hz hS U hU hW⟩⟩ rfl (by rw [List.length_map]; exact hl) hls ?_ (lv_room (by rw [cv_sum]; exact hsz)) hd hf) hS (fun q hq => hq) kk
  show as.reverse.map (rx_cv b h) ++ .ref (rx_ad b h o) :: rest.map (rx_cv b h) = (as.map (rx_cv b h)).reverse ++ .ref (rx_ad b h o) :: rest.map (rx_cv b h)
  rw [List.map_reverse]
end SDG
end
section
/-! PART 09: the words of the classes: fields, their types and names -/
theorem ly_0 : ∀ w ∈ u_ws cn_0 cf_0 5, w ∈ rx_wall := by
  intro w hw
  obtain ⟨k, hk, rfl⟩ := List.mem_map.mp hw
  have hk := List.mem_range.mp hk
  match k, hk with
  | 0, _ => exact wg_in (k := 317) ⟨rfl, rfl⟩
  | 1, _ => exact wg_in (k := 319) ⟨rfl, rfl⟩
  | 2, _ => exact wg_in (k := 321) ⟨rfl, rfl⟩
  | 3, _ => exact wg_in (k := 323) ⟨rfl, rfl⟩
  | 4, _ => exact wg_in (k := 325) ⟨rfl, rfl⟩
  | k + 5, hk => exact absurd hk (by omega)
theorem nf_0 : ∀ a, a < 5 → ∀ b, b < 5 → a ≠ b → (cf_0 a).2.1 ≠ (cf_0 b).2.1 := by decide +kernel
theorem tf_0 : ∀ k, k < 5 → parseFieldDescriptor (cf_0 k).2.2.1 = some (ct_0 k) := by decide +kernel
theorem ly_1 : ∀ w ∈ u_ws cn_1 cf_1 11, w ∈ rx_wall := by
  intro w hw
  obtain ⟨k, hk, rfl⟩ := List.mem_map.mp hw
  have hk := List.mem_range.mp hk
  match k, hk with
  | 0, _ => exact wg_in (k := 105) ⟨rfl, rfl⟩
  | 1, _ => exact wg_in (k := 107) ⟨rfl, rfl⟩
  | 2, _ => exact wg_in (k := 109) ⟨rfl, rfl⟩
  | 3, _ => exact wg_in (k := 111) ⟨rfl, rfl⟩
  | 4, _ => exact wg_in (k := 113) ⟨rfl, rfl⟩
  | 5, _ => exact wg_in (k := 115) ⟨rfl, rfl⟩
  | 6, _ => exact wg_in (k := 117) ⟨rfl, rfl⟩
  | 7, _ => exact wg_in (k := 119) ⟨rfl, rfl⟩
  | 8, _ => exact wg_in (k := 121) ⟨rfl, rfl⟩
  | 9, _ => exact wg_in (k := 123) ⟨rfl, rfl⟩
  | 10, _ => exact wg_in (k := 125) ⟨rfl, rfl⟩
  | k + 11, hk => exact absurd hk (by omega)
theorem nf_1 : ∀ a, a < 11 → ∀ b, b < 11 → a ≠ b → (cf_1 a).2.1 ≠ (cf_1 b).2.1 := by decide +kernel
theorem tf_1 : ∀ k, k < 11 → parseFieldDescriptor (cf_1 k).2.2.1 = some (ct_1 k) := by decide +kernel
theorem ly_2 : ∀ w ∈ u_ws cn_2 cf_2 4, w ∈ rx_wall := by
  intro w hw
  obtain ⟨k, hk, rfl⟩ := List.mem_map.mp hw
  have hk := List.mem_range.mp hk
  match k, hk with
  | 0, _ => exact wg_in (k := 157) ⟨rfl, rfl⟩
  | 1, _ => exact wg_in (k := 159) ⟨rfl, rfl⟩
  | 2, _ => exact wg_in (k := 161) ⟨rfl, rfl⟩
  | 3, _ => exact wg_in (k := 163) ⟨rfl, rfl⟩
  | k + 4, hk => exact absurd hk (by omega)
theorem nf_2 : ∀ a, a < 4 → ∀ b, b < 4 → a ≠ b → (cf_2 a).2.1 ≠ (cf_2 b).2.1 := by decide +kernel
theorem tf_2 : ∀ k, k < 4 → parseFieldDescriptor (cf_2 k).2.2.1 = some (ct_2 k) := by decide +kernel
theorem ly_3 : ∀ w ∈ u_ws cn_3 cf_3 6, w ∈ rx_wall := by
  intro w hw
  obtain ⟨k, hk, rfl⟩ := List.mem_map.mp hw
  have hk := List.mem_range.mp hk
  match k, hk with
  | 0, _ => exact wg_in (k := 251) ⟨rfl, rfl⟩
  | 1, _ => exact wg_in (k := 253) ⟨rfl, rfl⟩
  | 2, _ => exact wg_in (k := 255) ⟨rfl, rfl⟩
  | 3, _ => exact wg_in (k := 257) ⟨rfl, rfl⟩
  | 4, _ => exact wg_in (k := 259) ⟨rfl, rfl⟩
  | 5, _ => exact wg_in (k := 261) ⟨rfl, rfl⟩
  | k + 6, hk => exact absurd hk (by omega)
theorem nf_3 : ∀ a, a < 6 → ∀ b, b < 6 → a ≠ b → (cf_3 a).2.1 ≠ (cf_3 b).2.1 := by decide +kernel
theorem tf_3 : ∀ k, k < 6 → parseFieldDescriptor (cf_3 k).2.2.1 = some (ct_3 k) := by decide +kernel
theorem ly_4 : ∀ w ∈ u_ws cn_4 cf_4 9, w ∈ rx_wall := by
  intro w hw
  obtain ⟨k, hk, rfl⟩ := List.mem_map.mp hw
  have hk := List.mem_range.mp hk
  match k, hk with
  | 0, _ => exact wg_in (k := 275) ⟨rfl, rfl⟩
  | 1, _ => exact wg_in (k := 277) ⟨rfl, rfl⟩
  | 2, _ => exact wg_in (k := 279) ⟨rfl, rfl⟩
  | 3, _ => exact wg_in (k := 281) ⟨rfl, rfl⟩
  | 4, _ => exact wg_in (k := 283) ⟨rfl, rfl⟩
  | 5, _ => exact wg_in (k := 285) ⟨rfl, rfl⟩
  | 6, _ => exact wg_in (k := 287) ⟨rfl, rfl⟩
  | 7, _ => exact wg_in (k := 289) ⟨rfl, rfl⟩
  | 8, _ => exact wg_in (k := 291) ⟨rfl, rfl⟩
  | k + 9, hk => exact absurd hk (by omega)
theorem nf_4 : ∀ a, a < 9 → ∀ b, b < 9 → a ≠ b → (cf_4 a).2.1 ≠ (cf_4 b).2.1 := by decide +kernel
theorem tf_4 : ∀ k, k < 9 → parseFieldDescriptor (cf_4 k).2.2.1 = some (ct_4 k) := by decide +kernel
theorem ly_5 : ∀ w ∈ u_ws cn_5 cf_5 11, w ∈ rx_wall := by
  intro w hw
  obtain ⟨k, hk, rfl⟩ := List.mem_map.mp hw
  have hk := List.mem_range.mp hk
  match k, hk with
  | 0, _ => exact wg_in (k := 196) ⟨rfl, rfl⟩
  | 1, _ => exact wg_in (k := 198) ⟨rfl, rfl⟩
  | 2, _ => exact wg_in (k := 200) ⟨rfl, rfl⟩
  | 3, _ => exact wg_in (k := 202) ⟨rfl, rfl⟩
  | 4, _ => exact wg_in (k := 204) ⟨rfl, rfl⟩
  | 5, _ => exact wg_in (k := 206) ⟨rfl, rfl⟩
  | 6, _ => exact wg_in (k := 208) ⟨rfl, rfl⟩
  | 7, _ => exact wg_in (k := 210) ⟨rfl, rfl⟩
  | 8, _ => exact wg_in (k := 212) ⟨rfl, rfl⟩
  | 9, _ => exact wg_in (k := 214) ⟨rfl, rfl⟩
  | 10, _ => exact wg_in (k := 216) ⟨rfl, rfl⟩
  | k + 11, hk => exact absurd hk (by omega)
theorem nf_5 : ∀ a, a < 11 → ∀ b, b < 11 → a ≠ b → (cf_5 a).2.1 ≠ (cf_5 b).2.1 := by decide +kernel
theorem tf_5 : ∀ k, k < 11 → parseFieldDescriptor (cf_5 k).2.2.1 = some (ct_5 k) := by decide +kernel
theorem ly_6 : ∀ w ∈ u_ws cn_6 cf_6 14, w ∈ rx_wall := by
  intro w hw
  obtain ⟨k, hk, rfl⟩ := List.mem_map.mp hw
  have hk := List.mem_range.mp hk
  match k, hk with
  | 0, _ => exact wg_in (k := 429) ⟨rfl, rfl⟩
  | 1, _ => exact wg_in (k := 431) ⟨rfl, rfl⟩
  | 2, _ => exact wg_in (k := 433) ⟨rfl, rfl⟩
  | 3, _ => exact wg_in (k := 435) ⟨rfl, rfl⟩
  | 4, _ => exact wg_in (k := 437) ⟨rfl, rfl⟩
  | 5, _ => exact wg_in (k := 439) ⟨rfl, rfl⟩
  | 6, _ => exact wg_in (k := 441) ⟨rfl, rfl⟩
  | 7, _ => exact wg_in (k := 443) ⟨rfl, rfl⟩
  | 8, _ => exact wg_in (k := 445) ⟨rfl, rfl⟩
  | 9, _ => exact wg_in (k := 447) ⟨rfl, rfl⟩
  | 10, _ => exact wg_in (k := 449) ⟨rfl, rfl⟩
  | 11, _ => exact wg_in (k := 451) ⟨rfl, rfl⟩
  | 12, _ => exact wg_in (k := 453) ⟨rfl, rfl⟩
  | 13, _ => exact wg_in (k := 455) ⟨rfl, rfl⟩
  | k + 14, hk => exact absurd hk (by omega)
theorem nf_6 : ∀ a, a < 14 → ∀ b, b < 14 → a ≠ b → (cf_6 a).2.1 ≠ (cf_6 b).2.1 := by decide +kernel
theorem tf_6 : ∀ k, k < 14 → parseFieldDescriptor (cf_6 k).2.2.1 = some (ct_6 k) := by decide +kernel
theorem ly_7 : ∀ w ∈ u_ws cn_7 cf_7 51, w ∈ rx_wall := by
  intro w hw
  obtain ⟨k, hk, rfl⟩ := List.mem_map.mp hw
  have hk := List.mem_range.mp hk
  match k, hk with
  | 0, _ => exact wg_in (k := 840) ⟨rfl, rfl⟩
  | 1, _ => exact wg_in (k := 842) ⟨rfl, rfl⟩
  | 2, _ => exact wg_in (k := 844) ⟨rfl, rfl⟩
  | 3, _ => exact wg_in (k := 846) ⟨rfl, rfl⟩
  | 4, _ => exact wg_in (k := 848) ⟨rfl, rfl⟩
  | 5, _ => exact wg_in (k := 850) ⟨rfl, rfl⟩
  | 6, _ => exact wg_in (k := 852) ⟨rfl, rfl⟩
  | 7, _ => exact wg_in (k := 854) ⟨rfl, rfl⟩
  | 8, _ => exact wg_in (k := 856) ⟨rfl, rfl⟩
  | 9, _ => exact wg_in (k := 858) ⟨rfl, rfl⟩
  | 10, _ => exact wg_in (k := 860) ⟨rfl, rfl⟩
  | 11, _ => exact wg_in (k := 862) ⟨rfl, rfl⟩
  | 12, _ => exact wg_in (k := 864) ⟨rfl, rfl⟩
  | 13, _ => exact wg_in (k := 866) ⟨rfl, rfl⟩
  | 14, _ => exact wg_in (k := 868) ⟨rfl, rfl⟩
  | 15, _ => exact wg_in (k := 870) ⟨rfl, rfl⟩
  | 16, _ => exact wg_in (k := 872) ⟨rfl, rfl⟩
  | 17, _ => exact wg_in (k := 874) ⟨rfl, rfl⟩
  | 18, _ => exact wg_in (k := 876) ⟨rfl, rfl⟩
  | 19, _ => exact wg_in (k := 878) ⟨rfl, rfl⟩
  | 20, _ => exact wg_in (k := 880) ⟨rfl, rfl⟩
  | 21, _ => exact wg_in (k := 882) ⟨rfl, rfl⟩
  | 22, _ => exact wg_in (k := 884) ⟨rfl, rfl⟩
  | 23, _ => exact wg_in (k := 886) ⟨rfl, rfl⟩
  | 24, _ => exact wg_in (k := 888) ⟨rfl, rfl⟩
  | 25, _ => exact wg_in (k := 890) ⟨rfl, rfl⟩
  | 26, _ => exact wg_in (k := 892) ⟨rfl, rfl⟩
  | 27, _ => exact wg_in (k := 894) ⟨rfl, rfl⟩
  | 28, _ => exact wg_in (k := 896) ⟨rfl, rfl⟩
  | 29, _ => exact wg_in (k := 898) ⟨rfl, rfl⟩
  | 30, _ => exact wg_in (k := 900) ⟨rfl, rfl⟩
  | 31, _ => exact wg_in (k := 902) ⟨rfl, rfl⟩
  | 32, _ => exact wg_in (k := 904) ⟨rfl, rfl⟩
  | 33, _ => exact wg_in (k := 906) ⟨rfl, rfl⟩
  | 34, _ => exact wg_in (k := 908) ⟨rfl, rfl⟩
  | 35, _ => exact wg_in (k := 910) ⟨rfl, rfl⟩
  | 36, _ => exact wg_in (k := 912) ⟨rfl, rfl⟩
  | 37, _ => exact wg_in (k := 914) ⟨rfl, rfl⟩
  | 38, _ => exact wg_in (k := 916) ⟨rfl, rfl⟩
  | 39, _ => exact wg_in (k := 918) ⟨rfl, rfl⟩
  | 40, _ => exact wg_in (k := 920) ⟨rfl, rfl⟩
  | 41, _ => exact wg_in (k := 922) ⟨rfl, rfl⟩
  | 42, _ => exact wg_in (k := 924) ⟨rfl, rfl⟩
  | 43, _ => exact wg_in (k := 926) ⟨rfl, rfl⟩
  | 44, _ => exact wg_in (k := 928) ⟨rfl, rfl⟩
  | 45, _ => exact wg_in (k := 930) ⟨rfl, rfl⟩
  | 46, _ => exact wg_in (k := 932) ⟨rfl, rfl⟩
  | 47, _ => exact wg_in (k := 934) ⟨rfl, rfl⟩
  | 48, _ => exact wg_in (k := 936) ⟨rfl, rfl⟩
  | 49, _ => exact wg_in (k := 938) ⟨rfl, rfl⟩
  | 50, _ => exact wg_in (k := 940) ⟨rfl, rfl⟩
  | k + 51, hk => exact absurd hk (by omega)
theorem nf_7 : ∀ a, a < 51 → ∀ b, b < 51 → a ≠ b → (cf_7 a).2.1 ≠ (cf_7 b).2.1 := by decide +kernel
theorem tf_7 : ∀ k, k < 51 → parseFieldDescriptor (cf_7 k).2.2.1 = some (ct_7 k) := by decide +kernel
theorem cl_at : ∀ ci, ci < 8 → rx_cl[ci]? = some (rx_cd ci)
  | 0, _ => rfl
  | 1, _ => rfl
  | 2, _ => rfl
  | 3, _ => rfl
  | 4, _ => rfl
  | 5, _ => rfl
  | 6, _ => rfl
  | 7, _ => rfl
  | k + 8, hk => absurd hk (by omega)
theorem cl_ly : ∀ ci, ci < 8 → ∀ w ∈ u_ws (rx_cd ci).1 (rx_cd ci).2.1 (rx_cd ci).2.2, w ∈ rx_wall
  | 0, _ => ly_0
  | 1, _ => ly_1
  | 2, _ => ly_2
  | 3, _ => ly_3
  | 4, _ => ly_4
  | 5, _ => ly_5
  | 6, _ => ly_6
  | 7, _ => ly_7
  | k + 8, hk => absurd hk (by omega)
theorem cl_nf : ∀ ci, ci < 8 → ∀ a, a < (rx_cd ci).2.2 → ∀ b, b < (rx_cd ci).2.2 → a ≠ b → ((rx_cd ci).2.1 a).2.1 ≠ ((rx_cd ci).2.1 b).2.1
  | 0, _ => nf_0
  | 1, _ => nf_1
  | 2, _ => nf_2
  | 3, _ => nf_3
  | 4, _ => nf_4
  | 5, _ => nf_5
  | 6, _ => nf_6
  | 7, _ => nf_7
  | k + 8, hk => absurd hk (by omega)
theorem cl_tf : ∀ ci, ci < 8 → ∀ k, k < (rx_cd ci).2.2 → parseFieldDescriptor ((rx_cd ci).2.1 k).2.2.1 = some (rx_ty ci k)
  | 0, _ => tf_0
  | 1, _ => tf_1
  | 2, _ => tf_2
  | 3, _ => tf_3
  | 4, _ => tf_4
  | 5, _ => tf_5
  | 6, _ => tf_6
  | 7, _ => tf_7
  | k + 8, hk => absurd hk (by omega)
theorem wo_mx : wk_w 82 (.static Lib.Math.max.name) ∧ wk_w 60 (.initialized "java/lang/Math") ∧ wk_w 83 (.code Lib.Math.max.name Lib.Math.max.code 2 (some .int)) := ⟨⟨rfl, rfl⟩, ⟨rfl, rfl⟩, ⟨rfl, rfl⟩⟩
theorem wo_mn : wk_w 79 (.static Lib.Math.min.name) ∧ wk_w 60 (.initialized "java/lang/Math") ∧ wk_w 80 (.code Lib.Math.min.name Lib.Math.min.code 2 (some .int)) := ⟨⟨rfl, rfl⟩, ⟨rfl, rfl⟩, ⟨rfl, rfl⟩⟩
theorem wo_ac : wk_w 509 (.native arraycopyName) ∧ wk_w 508 (.static arraycopyName) ∧ wk_w 67 (.initialized "java/lang/System") := ⟨⟨rfl, rfl⟩, ⟨rfl, rfl⟩, ⟨rfl, rfl⟩⟩
theorem wo_oi : wk_w 74 (.instanceMethod objectInit) ∧ wk_w 75 (.code objectInit ⟨#[0xb1]⟩ 1 none) := ⟨⟨rfl, rfl⟩, ⟨rfl, rfl⟩⟩
theorem wo_ar : wk_w 129 (.arrayClass .int) ∧ wk_w 128 (.arrayClass .byte) ∧ wk_w 943 (.arrayClass .boolean) := ⟨⟨rfl, rfl⟩, ⟨rfl, rfl⟩, ⟨rfl, rfl⟩⟩
end
section
/-! PART 10: the small machine is sound: a method's body -/
section SDB
variable {p : Program} {l : Launch} {e : Env} {R : Room} {s : State} {m : MethodId} {args : Array Value} {below : List Frame} {meth : Method} {c : Code} {H : Heap} {locs : List Loc} {cells slots : Nat} {Qw : State → Prop}
variable {b h Lx : Nat} {xs : Nat → Int32} {tc : Nat → ClassId} {D : va_G} {own nm : String} {cc : ByteArray} {nL : Nat} {ret : Option FieldType}
theorem sd_new (C : sd_C p s m args meth c own nm cc nL ret b h Lx xs tc D) {pc ci idx : Nat} {ls : Array Slot} {w : pW} {st : List Value} (hP : va_P D rx_cl (rx_cw b h tc h w) H) (hz : H.size = h + w.length) (hS : va_S (fun q => h ≤ q) s.heap H locs) (hci : ci < 8)
    (h1 : Cond.classLink own idx (rx_cd ci).1 ∈ rx_wall) (h2 : Cond.instantiable (rx_cd ci).1 (rx_cd ci).2.2 ∈ rx_wall) (h3 : Cond.initialized (rx_cd ci).1 ∈ rx_wall) (hd : decode cc pc = .ok (.new idx, 3)) (hc : cells + 1 ≤ R.cells) (hs : slots + (rx_cd ci).2.2 ≤ R.slots)
    (kk : ∀ H1 : Heap, va_P D rx_cl (rx_cw b h tc h (w ++ [.inr (ci, (List.range (rx_cd ci).2.2).map (fun k => defaultValue (rx_ty ci k)))])) H1 → H1.size = h + (w.length + 1) → va_S (fun q => h ≤ q) s.heap H1 locs → W p l e R s m args below meth c H1 locs (cells + 1) (slots + (rx_cd ci).2.2) Qw (F0 m (pc + 3) ls (.ref (h + w.length) :: st))) :
    W p l e R s m args below meth c H locs cells slots Qw (F0 m pc ls st) := by
  obtain ⟨hx, hb, hml, hown, hts, hK, hX, hbh, hh, hN, -⟩ := C
  have hKn := hK.1 ci _ (cl_at ci hci)
  refine W.newcK hx hb hown (hts _ h1) (hts _ h2) (hts _ h3) rfl hd hc hs hKn.2.1 hz fun H1 kC hkC e1 z1 o1 => ?_
  have hk : ∀ (k : Nat) (x : Nat × va_E), (rx_cw b h tc h w)[k]? = some x → H1[x.1]? = H[x.1]? := fun k x hx => o1 x.1 (by rw [← hz]; exact (hP k x hx).lt)
  refine kk H1 ?_ (by rw [z1]; omega) ⟨Nat.le_trans hS.1 (by omega), fun x g1 g2 => (o1 x (by rw [← hz]; exact Nat.lt_of_lt_of_le g1 hS.1)).trans (hS.2.1 x g1 g2), hS.2.2⟩
  rw [cw_app]
  refine (hP.kept hk).app (fun k x hx => ?_)
  have hz : k < 1 := (List.getElem?_eq_some_iff.mp hx).1
  rw [show k = 0 by omega] at hx
  cases hx
  refine ⟨_, cl_at ci hci, (u_born (rx_ty ci) hts (cl_ly ci hci) hKn hkC e1 (cl_tf ci hci)).to (fun j hj => ?_)⟩
  show defaultValue (rx_ty ci j) = vp_V (List.map (rx_cv b h) ((List.range (rx_cd ci).2.2).map (fun k => defaultValue (rx_ty ci k)))) j
  have hcv : ∀ ty : FieldType, rx_cv b h (defaultValue ty) = defaultValue ty := fun ty => by cases ty <;> rfl
  generalize (rx_cd ci).2.2 = N at hj ⊢
  generalize (rx_cd ci).2.2 = N at hj ⊢
  simp [vp_V, List.getD_eq_getElem?_getD, List.getElem?_range hj, hcv]
theorem sd_arr (C : sd_C p s m args meth c own nm cc nL ret b h Lx xs tc D) {pc tg : Nat} {ls : Array Slot} {w : pW} {st : List Value} {a : ArrayType} {n : Int32} (hP : va_P D rx_cl (rx_cw b h tc h w) H) (hz : H.size = h + w.length) (hS : va_S (fun q => h ≤ q) s.heap H locs) (htg : tg < 3) (hty : newarray.typeOf a = rx_tg tg)
    (hn : ¬ n < 0) (hsm : n.toNatClampNeg ≤ 100000) (hd : decode cc pc = .ok (.newarray a, 2)) (hc : cells + 1 ≤ R.cells) (hs : slots + n.toNatClampNeg ≤ R.slots)
    (kk : ∀ H1 : Heap, va_P D rx_cl (rx_cw b h tc h (w ++ [.inl (tg, n.toNatClampNeg, .inl (fun _ => 0))])) H1 → H1.size = h + (w.length + 1) → va_S (fun q => h ≤ q) s.heap H1 locs → W p l e R s m args below meth c H1 locs (cells + 1) (slots + n.toNatClampNeg) Qw (F0 m (pc + 2) ls (.ref (h + w.length) :: st))) :
    W p l e R s m args below meth c H locs cells slots Qw (F0 m pc ls (.int n :: st)) := by
  obtain ⟨hx, hb, hml, hown, hts, hK, hX, hbh, hh, hN, -⟩ := C
  have harr : (Cond.arrayClass (newarray.typeOf a)).before args s = true := by
    rw [hty]
    match tg, htg with
    | 0, _ => exact hts _ (wg_in wo_ar.1)
    | 1, _ => exact hts _ (wg_in wo_ar.2.1)
    | 2, _ => exact hts _ (wg_in wo_ar.2.2)
    | k + 3, hk => exact absurd hk (by omega)
  have hbytes : n.toNatClampNeg * componentBytes (newarray.typeOf a) ≤ 536870912 := by
    have : componentBytes (newarray.typeOf a) ≤ 8 := by cases a <;> decide
    calc n.toNatClampNeg * componentBytes (newarray.typeOf a) ≤ 100000 * 8 := Nat.mul_le_mul hsm this
      _ ≤ 536870912 := by decide
  refine va_newaK hx hb harr rfl hd rfl hn rfl hbytes hc hs hz fun H1 cA e1 z1 o1 hAr hNm => ?_
  have hk : ∀ (k : Nat) (x : Nat × va_E), (rx_cw b h tc h w)[k]? = some x → H1[x.1]? = H[x.1]? := fun k x hx => o1 x.1 (by rw [← hz]; exact (hP k x hx).lt)
  refine kk H1 ?_ (by rw [z1]; omega) ⟨Nat.le_trans hS.1 (by omega), fun x g1 g2 => (o1 x (by rw [← hz]; exact Nat.lt_of_lt_of_le g1 hS.1)).trans (hS.2.1 x g1 g2), hS.2.2⟩
  rw [cw_app]
  refine (hP.kept hk).app (fun k x hx => ?_)
  have hz : k < 1 := (List.getElem?_eq_some_iff.mp hx).1
  rw [show k = 0 by omega] at hx
  cases hx
  show H1[h + w.length]? = some (vp_cell (tc tg) (n.toNatClampNeg, .inl (fun _ => 0)))
  rw [e1, hty]
  have hcA : cA = tc tg := by
    rw [hty] at hNm
    have hk2 := (hK.2 tg (tc tg, rx_tg tg) (by
      match tg, htg with
      | 0, _ => rfl
      | 1, _ => rfl
      | 2, _ => rfl
      | k + 3, hk => exact absurd hk (by omega))).2
    have h3 : s.vm.findClass ("[" ++ (rx_tg tg).toString) = some (tc tg) := by
      match tg, htg, hk2 with
      | 0, _, hk2 => exact hk2
      | 1, _, hk2 => exact hk2
      | 2, _, hk2 => exact hk2
      | k + 3, hk, _ => exact absurd hk (by omega)
    exact Option.some.inj (hNm.symm.trans h3)
  subst hcA
  match tg, htg with
  | 0, _ => rfl
  | 1, _ => rfl
  | 2, _ => rfl
  | k + 3, hk => exact absurd hk (by omega)
theorem sd_put {cl : List vw_C} {A : Nat → Prop} {tys : List (ClassId × FieldType)} {ws : va_W} {H0 : Heap} {a pc : Nat} {ls : Array Slot} {rest : List Value} (hexec : p.tables.exec = Jvm.exec) (hb : c.code = cc) {own ref Cn : String} {T : u_T} {N ci index : Nat} {Ts : List Cond} (hts : ∀ w ∈ Ts, w.before args s = true) (hin : ∀ w ∈ u_ws Cn T N, w ∈ Ts) (ty0 : Nat → FieldType) (hty : ∀ k, k < N → parseFieldDescriptor (T k).2.2.1 = some (ty0 k)) (hnm : ∀ a, a < N → ∀ b, b < N → a ≠ b → (T a).2.1 ≠ (T b).2.1) (hown : s.vm.findClass own = some m.cls) (hK : va_K D cl tys s) (hP : va_P D cl ws H) (hD : va_D A ws) (hS0 : va_S A H0 H locs) (q0 : Nat) {fs : List Value} (he : ws[q0]? = some (a, .inr (ci, fs))) (hc : cl[ci]? = some (Cn, T, N)) (k : Nat) (hk : k < N) (hlink : (Cond.fieldLink own index ref (T k).2.1 (T k).2.2.1).before args s = true) (hsame : ∀ x, s.fieldFound? (T k).1 (T k).2.1 (T k).2.2.1 = some x → s.fieldFound? ref (T k).2.1 (T k).2.2.1 = some x) (hfin : (T k).2.2.2 = false) {ty : FieldType} {v : Value} (hd : parseFieldDescriptor (T k).2.2.1 = some ty) (hn : narrow ty v = v) (hfit : fits ty v = true) (hl : k < fs.length)
    (hdg : decode cc pc = .ok (.putfield index, 3)) (kk : ∀ (H1 : Heap) (locs1 : List Loc), H1.size = H.size → va_P D cl (ws.set q0 (a, .inr (ci, fs.set k v))) H1 → va_D A (ws.set q0 (a, .inr (ci, fs.set k v))) → va_S A H0 H1 locs1 → W p l e R s m args below meth c H1 locs1 cells slots Qw (F0 m (pc + 3) ls rest)) : W p l e R s m args below meth c H locs cells slots Qw (F0 m pc ls (v :: .ref a :: rest)) := by
  have hap := va_apart (own := own) hts hin ty0 hty hnm hK hc
  obtain ⟨r, h1, cell, q1, q2, q3, q4⟩ := hP q0 _ he
  have hr : r = (Cn, T, N) := Option.some.inj (h1.symm.trans hc)
  subst hr
  obtain ⟨hS, hfc, kC, hkC, hkind⟩ := hK.1 ci _ hc
  obtain ⟨cf, kf, fi, f, hi, hsl⟩ := hS k hk
  have hlay := hts _ (hin _ (u_in_lay hk))
  unfold u_lay at hlay
  rw [if_neg (by rw [hfin]; decide)] at hlay
  have hst := (u_facts hfc hkC (u_lays hts hin hk) hi).1
  have h6 := u_store hfc hkC hkind hlay hi hd hn hfit
  refine W.putK hexec hb (f := f) ⟨hown, hlink, ⟨_, _, _, hsame _ hi⟩, hst⟩ (by rw [q2]; exact h6) q1 q3 (by rw [hsl]; exact k2_hasslot (q4 k hk)) rfl rfl hdg fun H' e1 e2 e3 => ?_
  rw [hsl] at e1 ⊢
  exact kk H' _ e2 (hP.set hD he ⟨_, hc, t_OB.to (V := updV (vp_V fs) k v) ⟨_, e1, q2, q3, t_set q4 hap hk v⟩ (fun j _ => vp_updV_set hl v j)⟩ e3) (hD.set he) (hS0.put e2 e3 (hD.2 q0 _ he))
theorem sd_putF {cl : List vw_C} {A : Nat → Prop} {tys : List (ClassId × FieldType)} {ws : va_W} {H0 : Heap} {a pc : Nat} {ls : Array Slot} {rest : List Value} (hexec : p.tables.exec = Jvm.exec) (hb : c.code = cc) {own ref Cn : String} {T : u_T} {N ci index : Nat} {Ts : List Cond} (hts : ∀ w ∈ Ts, w.before args s = true) (hin : ∀ w ∈ u_ws Cn T N, w ∈ Ts) (ty0 : Nat → FieldType) (hty : ∀ k, k < N → parseFieldDescriptor (T k).2.2.1 = some (ty0 k)) (hnm : ∀ a, a < N → ∀ b, b < N → a ≠ b → (T a).2.1 ≠ (T b).2.1) (hown : s.vm.findClass own = some m.cls) (hK : va_K D cl tys s) (hP : va_P D cl ws H) (hD : va_D A ws) (hS0 : va_S A H0 H locs) (q0 : Nat) {fs : List Value} (he : ws[q0]? = some (a, .inr (ci, fs))) (hc : cl[ci]? = some (Cn, T, N)) (k : Nat) (hk : k < N) (hlink : (Cond.fieldLink own index ref (T k).2.1 (T k).2.2.1).before args s = true) (hsame : ∀ x, s.fieldFound? (T k).1 (T k).2.1 (T k).2.2.1 = some x → s.fieldFound? ref (T k).2.1 (T k).2.2.1 = some x) (hfin : (T k).2.2.2 = true) (hin2 : meth.name = "<init>") (hdecl : (T k).1 = own) {ty : FieldType} {v : Value} (hd : parseFieldDescriptor (T k).2.2.1 = some ty) (hn : narrow ty v = v) (hfit : fits ty v = true) (hl : k < fs.length)
    (hdg : decode cc pc = .ok (.putfield index, 3)) (kk : ∀ (H1 : Heap) (locs1 : List Loc), H1.size = H.size → va_P D cl (ws.set q0 (a, .inr (ci, fs.set k v))) H1 → va_D A (ws.set q0 (a, .inr (ci, fs.set k v))) → va_S A H0 H1 locs1 → W p l e R s m args below meth c H1 locs1 cells slots Qw (F0 m (pc + 3) ls rest)) : W p l e R s m args below meth c H locs cells slots Qw (F0 m pc ls (v :: .ref a :: rest)) := by
  have hap := va_apart (own := own) hts hin ty0 hty hnm hK hc
  obtain ⟨r, h1, cell, q1, q2, q3, q4⟩ := hP q0 _ he
  have hr : r = (Cn, T, N) := Option.some.inj (h1.symm.trans hc)
  subst hr
  obtain ⟨hS, hfc, kC, hkC, hkind⟩ := hK.1 ci _ hc
  obtain ⟨cf, kf, fi, f, hi, hsl⟩ := hS k hk
  have hlay := hts _ (hin _ (u_in_lay hk))
  unfold u_lay at hlay
  rw [if_pos hfin] at hlay
  have hst := (u_facts hfc hkC (u_lays hts hin hk) hi).1
  have hcf : m.cls = cf := by
    obtain ⟨_, _, c', _, _, _, -, -, hf', -, -, -, hown2, -⟩ := Cond.laysFinal_spec hlay
    have e1 : c' = cf := by have := hi.symm.trans hf'; simp at this; exact this.1.symm
    rw [hdecl] at hown2
    rw [← e1]; exact Option.some.inj (hown.symm.trans hown2)
  have h6 := u_fits hfc hkC hkind (Or.inr hlay) hi hd hn hfit
  refine W.putFinK hexec hb hown hlink (hsame _ hi) hst hcf hin2 (by rw [q2]; exact h6) q1 q3 (by rw [hsl]; exact k2_hasslot (q4 k hk)) rfl rfl hdg fun H' e1 e2 e3 => ?_
  rw [hsl] at e1 ⊢
  exact kk H' _ e2 (hP.set hD he ⟨_, hc, t_OB.to (V := updV (vp_V fs) k v) ⟨_, e1, q2, q3, t_set q4 hap hk v⟩ (fun j _ => vp_updV_set hl v j)⟩ e3) (hD.set he) (hS0.put e2 e3 (hD.2 q0 _ he))
/-- a store into an array of ints, bytes or booleans -/
theorem sd_ast (C : sd_C p s m args meth c own nm cc nL ret b h Lx xs tc D) {pc tg j n : Nat} {ls : Array Slot} {w : pW} {st : List Value} {f : Nat → Int32} {i x : Int32} {ins : Instr} (hP : va_P D rx_cl (rx_cw b h tc h w) H) (hz : H.size = h + w.length) (hS : va_S (fun q => h ≤ q) s.heap H locs) (hg : gt_a w (j + 1) = some (tg, n, .inl f)) (hin : vp_in i n)
    (hi : (tg = 0 ∧ ins = .iastore) ∨ ((tg = 1 ∨ tg = 2) ∧ ins = .bastore)) (hd : decode cc pc = .ok (ins, 1))
    (kk : ∀ (H1 : Heap) (locs1 : List Loc), va_P D rx_cl (rx_cw b h tc h (pt_a w (j + 1) (tg, n, .inl (upd f i.toNatClampNeg (vp_nar (rx_tg tg) x))))) H1 → H1.size = h + w.length → va_S (fun q => h ≤ q) s.heap H1 locs1 → W p l e R s m args below meth c H1 locs1 cells slots Qw (F0 m (pc + 1) ls st)) :
    W p l e R s m args below meth c H locs cells slots Qw (F0 m pc ls (.int x :: .int i :: .ref (h + j) :: st)) := by
  obtain ⟨hx, hb, hml, hown, hts, hK, hX, hbh, hh, hN, -⟩ := C
  have hD := cw_D b h tc w
  obtain ⟨j', hj', ha⟩ := ga_at (b := b) (h := h) (tc := tc) hg
  cases hj'
  replace ha : (rx_cw b h tc h w)[j]? = some (h + j, .inl (tc tg, n, .inl f)) := ha
  have hcell : H[h + j]? = some (vp_cell (tc tg) (n, .inl f)) := hP j _ ha
  have fin : ∀ (H1 : Heap) (y : Int32), vp_nar (rx_tg tg) x = y → H1[h + j]? = some ((vp_cell (tc tg) (n, .inl f)).setSlot i.toNatClampNeg (.int y)) → H1.size = H.size → (∀ q, q ≠ h + j → H1[q]? = H[q]?) → W p l e R s m args below meth c H1 (locs ++ [⟨h + j, i.toNatClampNeg⟩]) cells slots Qw (F0 m (pc + 1) ls st) := by
    intro H1 y hy e z oq
    refine kk H1 _ ?_ (z.trans hz) (hS.put z oq (hD.2 j _ ha))
    rw [(pa_at w j tg _).1]
    refine hP.set hD ha ?_ oq
    show H1[h + j]? = some (vp_cell (tc tg) (n, .inl (upd f i.toNatClampNeg (vp_nar (rx_tg tg) x))))
    rw [e, vp_cell_i, vp_cell_i, arrV_store, hy]
    congr 2
    funext q
    by_cases hq : q = i.toNatClampNeg
    · subst hq
      simp [updV, upd]
    · simp [updV, upd, hq]
  rcases hi with ⟨rfl, rfl⟩ | ⟨rfl | rfl, rfl⟩
  · exact W.iast hx hb hcell ((hK.2 0 _ rfl).1 n (fun j => .int (f j))) (fun q => by cases q) (by show ¬ (i < 0 ∨ (arrV _ _ _).slots.size ≤ _); rw [arrV_size]; exact hin) rfl rfl hd fun H1 e z oq => fin H1 x rfl e z oq
  · exact W.bast hx hb hcell ((hK.2 1 _ rfl).1 n (fun j => .int (f j))) (fun q => by cases q) (by show ¬ (i < 0 ∨ (arrV _ _ _).slots.size ≤ _); rw [arrV_size]; exact hin) rfl rfl hd fun H1 e z oq => fin H1 _ rfl e z oq
  · exact W.zast hx hb hcell ((hK.2 2 _ rfl).1 n (fun j => .int (f j))) (fun q => by cases q) (by show ¬ (i < 0 ∨ (arrV _ _ _).slots.size ≤ _); rw [arrV_size]; exact hin) rfl rfl hd fun H1 e z oq => fin H1 _ rfl e z oq
theorem sd_ne {M : Nat} (hm : mk_m M) : plainName (mN M).cls = true := hm.2.2.1.2.2.2.2
/-- System.arraycopy between int arrays of the world -/
theorem sd_copy (C : sd_C p s m args meth c own nm cc nL ret b h Lx xs tc D) {pc j0 j1 n0 n1 idx : Nat} {ls : Array Slot} {w : pW} {st : List Value} {f g : Nat → Int32} {sp dp n : Int32} (hP : va_P D rx_cl (rx_cw b h tc h w) H) (hz : H.size = h + w.length) (hS : va_S (fun q => h ≤ q) s.heap H locs)
    (ha0 : (rx_cw b h tc h w)[j0]? = some (h + j0, .inl (tc 0, n0, .inl f))) (ha1 : (rx_cw b h tc h w)[j1]? = some (h + j1, .inl (tc 0, n1, .inl g))) (h1 : ¬ sp < 0) (h2 : ¬ dp < 0) (h3 : ¬ n < 0) (h4 : sp.toNatClampNeg + n.toNatClampNeg ≤ n0) (h5 : dp.toNatClampNeg + n.toNatClampNeg ≤ n1) (hls : ls.size = nL)
    (hframes : 1 ≤ R.frames) (hlocals : (st.map fun v => v.category).sum + 18 ≤ R.locals) (hlink : (Cond.methodLink own idx arraycopyName).before args s = true) (hd : decode cc pc = .ok (.invokestatic idx, 3))
    (kk : ∀ (H1 : Heap) (locs1 : List Loc), va_P D rx_cl ((rx_cw b h tc h w).set j1 (h + j1, .inl (tc 0, n1, .inl (va_cpy f g sp.toNatClampNeg dp.toNatClampNeg n.toNatClampNeg)))) H1 → H1.size = h + w.length → va_S (fun q => h ≤ q) s.heap H1 locs1 → W p l e R s m args below meth c H1 locs1 cells slots Qw (F0 m (pc + 3) ls st)) :
    W p l e R s m args below meth c H locs cells slots Qw (F0 m pc ls (.int n :: .int dp :: .ref (h + j1) :: .int sp :: .ref (h + j0) :: st)) := by
  obtain ⟨hx, hb, hml, hown, hts, hK, hX, hbh, hh, hN, -⟩ := C
  have hD := cw_D b h tc w
  have nn : ∀ z : Int32, ¬ z < 0 → z.toInt = (z.toNatClampNeg : Int) := by
    intro z hz
    have hz0 : (0 : Int) ≤ z.toInt := by
      have := Int32.not_lt.mp hz
      simpa using Int32.le_iff_toInt_le.mp this
    show z.toInt = ((z.toInt.toNat : Nat) : Int)
    omega
  have hloc2 : 2 * (F0 m pc ls (.int n :: .int dp :: .ref (h + j1) :: .int sp :: .ref (h + j0) :: st)).monitorRoom + (st.map fun v => v.category).sum + (nativeFrameWords "java/lang/System" "arraycopy" 5 + 11) ≤ R.locals := by
    have e5 : nativeFrameWords "java/lang/System" "arraycopy" 5 = 7 := by decide +kernel
    rw [e5]
    show 2 * 0 + _ + (7 + 11) ≤ _
    omega
  intro T hT X
  have hc0 : H[h + j0]? = some (vp_cell (tc 0) (n0, .inl f)) := hP j0 _ ha0
  have hc1 : H[h + j1]? = some (vp_cell (tc 0) (n1, .inl g)) := hP j1 _ ha1
  obtain ⟨-, k0, hk0, cm0, hkk0⟩ := (hK.2 0 _ rfl).1 n0 (fun j => .int (f j))
  obtain ⟨-, k1, hk1, cm1, hkk1⟩ := (hK.2 0 _ rfl).1 n1 (fun j => .int (g j))
  obtain ⟨vm', X', step⟩ := X.arraycopy hx hown hlink (hts _ (wg_in wo_ac.1)) (hts _ (wg_in wo_ac.2.1)) (hts _ (wg_in wo_ac.2.2)) (src := h + j0) (dst := h + j1) (cs := vp_cell (tc 0) (n0, .inl f)) (cd := vp_cell (tc 0) (n1, .inl g)) (srcPos := sp) (destPos := dp) (n := n) (by rw [hT]; exact hc0) (by rw [hT]; exact hc1)
    (fun _ h => by cases h) (fun _ h => by cases h) (fun h => by cases h) (fun h => by cases h) hk0 hk1 hkk0 hkk1 rfl h1 h2 h3
    (by rw [nn sp h1, nn n h3]; show ¬ _ > ((arrV (tc 0) n0 (fun j => .int (f j))).slots.size : Int); rw [arrV_size]; omega)
    (by rw [nn dp h2, nn n h3]; show ¬ _ > ((arrV (tc 0) n1 (fun j => .int (g j))).slots.size : Int); rw [arrV_size]; omega)
    (fun vm₁ _ i hi => by
      have e : (vp_cell (tc 0) (n0, .inl f)).slots.getD (sp.toNatClampNeg + i) .null = .int (f (sp.toNatClampNeg + i)) := by
        show (arrV (tc 0) n0 (fun j => .int (f j))).slots.getD _ _ = _
        rw [Array.getD_eq_getD_getElem?, arrV_read _ _ (by omega)]
        rfl
      refine ⟨?_, ?_⟩
      · rw [e]
        rfl
      · rw [e]
        exact trivial)
    (g := F0 m pc ls (.int n :: .int dp :: .ref (h + j1) :: .int sp :: .ref (h + j0) :: st)) rfl (by rw [hml]; exact hls) (rest := st) rfl (by rw [hb]; exact hd) hframes hloc2
  have e1 : copied (vp_cell (tc 0) (n0, .inl f)) (vp_cell (tc 0) (n1, .inl g)) sp dp n = vp_cell (tc 0) (n1, .inl (va_cpy f g sp.toNatClampNeg dp.toNatClampNeg n.toNatClampNeg)) := va_copied (fun z => .int z) (tc 0) (tc 0) f g h4
  rw [e1] at X' step
  have hl : h + j1 < H.size := (Array.getElem?_eq_some_iff.mp hc1).1
  have hheap : ((T.setVm vm').setCell (h + j1) (vp_cell (tc 0) (n1, .inl (va_cpy f g sp.toNatClampNeg dp.toNatClampNeg n.toNatClampNeg)))).heap = H.setIfInBounds (h + j1) (vp_cell (tc 0) (n1, .inl (va_cpy f g sp.toNatClampNeg dp.toNatClampNeg n.toNatClampNeg))) := by rw [← hT]; rfl
  have oq : ∀ q : Nat, q ≠ h + j1 → (H.setIfInBounds (h + j1) (vp_cell (tc 0) (n1, .inl (va_cpy f g sp.toNatClampNeg dp.toNatClampNeg n.toNatClampNeg))))[q]? = H[q]? := fun q hq => by simp [Array.getElem?_setIfInBounds, Ne.symm hq]
  obtain ⟨t, a1, b1⟩ := kk _ _ (hP.set hD ha1 (show (H.setIfInBounds (h + j1) _)[h + j1]? = some _ by simp [Array.getElem?_setIfInBounds, hl]) oq) (by simp; exact hz) ⟨by simp; exact hS.1, fun q g1 g2 => by
      rw [oq q (fun e => g2 (by rw [e]; exact hD.2 j1 _ ha1))]
      exact hS.2.1 q g1 g2, fun q hq => by
      rcases List.mem_append.mp hq with h | h
      · exact hS.2.2 q h
      · obtain ⟨z, -, hz⟩ := List.mem_map.mp h
        rw [← hz]
        exact hD.2 j1 _ ha1⟩ _ hheap X'
  exact ⟨t, step t a1, b1⟩
/-- new byte[8][64]: what is wanted of it (proved in a part of its own, over the whole library) -/
def sd_mna : Prop := ∀ (p : Program) (l : Launch) (e : Env) (R : Room) (s : State) (m : MethodId) (args : Array Value) (below : List Frame) (meth : Method) (c : Code) (H : Heap) (locs : List Loc) (cells slots : Nat) (Qw : State → Prop) (b h Lx : Nat) (xs : Nat → Int32) (tc : Nat → ClassId) (D : va_G) (own nm : String) (cc : ByteArray) (nL : Nat) (ret : Option FieldType) (pc idx : Nat) (ls : Array Slot) (w : pW) (st : List Value),
  sd_C p s m args meth c own nm cc nL ret b h Lx xs tc D → va_P D rx_cl (rx_cw b h tc h w) H → H.size = h + w.length → va_S (fun q => h ≤ q) s.heap H locs → Cond.classLink own idx "[[B" ∈ rx_wall → decode cc pc = .ok (.multianewarray idx 2, 4) → cells + 9 ≤ R.cells → slots + 520 ≤ R.slots →
  (∀ H1 : Heap, va_P D rx_cl (rx_cw b h tc h (w ++ .inl (3, 8, .inr (.inr (.inr (.inr (fun j => if j < 8 then some (w.length + 2 + j) else none))))) :: List.replicate 8 (.inl (1, 64, .inl (fun _ => 0))))) H1 → H1.size = h + (w.length + 9) → va_S (fun q => h ≤ q) s.heap H1 locs → W p l e R s m args below meth c H1 locs (cells + 9) (slots + 520) Qw (F0 m (pc + 4) ls (.ref (h + w.length) :: st))) →
  W p l e R s m args below meth c H locs cells slots Qw (F0 m pc ls (.int 64 :: .int 8 :: st))
/-- a method's body: from a run of the small machine to one of the machine -/
def sd_G (p : Program) (l : Launch) (e : Env) (R : Room) (s : State) (m : MethodId) (args : Array Value) (below : List Frame) (meth : Method) (c : Code) (Qw : State → Prop) (b h : Nat) (tc : Nat → ClassId) (D : va_G) (nL : Nat) (t : List (List rI)) : rK := fun i L st w cells slots =>
  ∀ (H : Heap) (locs : List Loc) (ls : Array Slot), va_P D rx_cl (rx_cw b h tc h w) H → H.size = h + w.length → va_S (fun q => h ≤ q) s.heap H locs → rx_has b h ls nL L → cells ≤ R.cells → slots ≤ R.slots → W p l e R s m args below meth c H locs cells slots Qw (F0 m (rx_e t i).1 ls (st.map (rx_cv b h)))
set_option maxHeartbeats 8000000 in
set_option maxRecDepth 100000 in
theorem sd_step (hmna : sd_mna) (C : sd_C p s m args meth c own nm cc nL ret b h Lx xs tc D) {t : List (List rI)} (hdk : ∀ i, dk_i cc t i = true) (hwk : ∀ i, wk_i own nm (rx_e t i)) (hmk : ∀ M, M < 149 → mk_m M) {d : Nat} {call : rC} (hcall : sd_call b h Lx xs tc D l call d) (hfr : d + 1 ≤ R.frames) (hlo : 40 * d + 40 ≤ R.locals) {Q : rQ}
    (hri : ∀ (x : Int32) (w : pW) (H : Heap) (locs : List Loc) (cells slots pc : Nat) (ls : Array Slot), decode cc pc = .ok (.ireturn, 1) → (∃ ty, ret = some ty ∧ narrow ty (.int x) = .int x) → Q (some (.int x)) w → va_P D rx_cl (rx_cw b h tc h w) H → H.size = h + w.length → va_S (fun q => h ≤ q) s.heap H locs → cells ≤ R.cells → slots ≤ R.slots → W p l e R s m args below meth c H locs cells slots Qw (F0 m pc ls [.int x]))
    (hrv : ∀ (w : pW) (H : Heap) (locs : List Loc) (cells slots pc : Nat) (ls : Array Slot), decode cc pc = .ok (.return_, 1) → ret = none → Q none w → va_P D rx_cl (rx_cw b h tc h w) H → H.size = h + w.length → va_S (fun q => h ≤ q) s.heap H locs → cells ≤ R.cells → slots ≤ R.slots → W p l e R s m args below meth c H locs cells slots Qw (F0 m pc ls []))
    (i : Nat) (L : List (Option Value)) (st : List Value) (w : pW) (cells slots : Nat) (hst : rx_st call Lx xs t ret (R.cells, R.slots) Q (sd_G p l e R s m args below meth c Qw b h tc D nL t) i L st w cells slots) : sd_G p l e R s m args below meth c Qw b h tc D nL t i L st w cells slots := by
  intro H locs ls hP hz hS hl hcc hcs
  have C' := C
  obtain ⟨hx, hb, hml, hown, hts, hK, hX, hbh, hh, hN, hnm, hlk, hrt⟩ := C
  have hD := cw_D b h tc w
  have hd := hdk i
  have hw := hwk i
  have hbl : b < s.heap.size := by omega
  have hbA : ¬ (fun q : Nat => h ≤ q) b := by show ¬ h ≤ b; omega
  simp only [rx_st] at hst
  simp only [dk_i, ck_nx, ck_to] at hd
  generalize hee : rx_e t i = ee at hst hd hw ⊢
  obtain ⟨pc, ins, ln, info, v⟩ := ee
  cases ins with
  | iconst z =>
    simp only [Bool.and_eq_true, decide_eq_true_eq] at hd
    obtain ⟨⟨hd, hnx⟩, hv⟩ := hd
    have k := hst H locs ls hP hz hS hl hcc hcs
    rw [hnx] at k
    exact lv_iconst hx hb hd hv k
  | bipush z =>
    simp only [Bool.and_eq_true, decide_eq_true_eq] at hd
    obtain ⟨⟨hd, hnx⟩, hv⟩ := hd
    have k := hst H locs ls hP hz hS hl hcc hcs
    rw [hnx] at k
    exact lv_bipush hx hb hd hv k
  | sipush z =>
    simp only [Bool.and_eq_true, decide_eq_true_eq] at hd
    obtain ⟨⟨hd, hnx⟩, hv⟩ := hd
    have k := hst H locs ls hP hz hS hl hcc hcs
    rw [hnx] at k
    exact lv_sipush hx hb hd hv k
  | ldc z =>
    simp only [Bool.and_eq_true, decide_eq_true_eq] at hd
    obtain ⟨hd, hnx⟩ := hd
    have k := hst H locs ls hP hz hS hl hcc hcs
    rw [hnx] at k
    exact lv_ldc hx hb hown (hts _ (wg_in hw)) hd k
  | ldc2_w z =>
    simp only [Bool.and_eq_true, decide_eq_true_eq] at hd
    obtain ⟨hd, hnx⟩ := hd
    have k := hst H locs ls hP hz hS hl hcc hcs
    rw [hnx] at k
    exact lv_ldc2 hx hb hown (hts _ (wg_in hw)) hd k
  | iload z =>
    simp only [Bool.and_eq_true, decide_eq_true_eq] at hd
    obtain ⟨hd, hnx⟩ := hd
    simp only [rx_ldi] at hst
    split at hst
    · rename_i x hq
      have k := hst H locs ls hP hz hS hl hcc hcs
      rw [hnx] at k
      exact lv_iload hx hb hd (hl.2.2.1 _ _ hq) k
    · exact hst.elim
  | iload_n z =>
    simp only [Bool.and_eq_true, decide_eq_true_eq] at hd
    obtain ⟨hd, hnx⟩ := hd
    simp only [rx_ldi] at hst
    split at hst
    · rename_i x hq
      have k := hst H locs ls hP hz hS hl hcc hcs
      rw [hnx] at k
      exact lv_iload_n hx hb hd rfl (hl.2.2.1 _ _ hq) k
    · exact hst.elim
  | lload_n z =>
    simp only [Bool.and_eq_true, decide_eq_true_eq] at hd
    obtain ⟨hd, hnx⟩ := hd
    simp only [rx_ldl] at hst
    split at hst
    · rename_i x hq
      have k := hst H locs ls hP hz hS hl hcc hcs
      rw [hnx] at k
      exact lv_lload_n hx hb hd rfl (hl.2.2.1 _ _ hq) k
    · exact hst.elim
  | aload z =>
    simp only [Bool.and_eq_true, decide_eq_true_eq] at hd
    obtain ⟨hd, hnx⟩ := hd
    simp only [rx_lda] at hst
    split at hst
    · rename_i x hq
      have k := hst H locs ls hP hz hS hl hcc hcs
      rw [hnx] at k
      exact lv_aload hx hb hd (hl.2.2.1 _ _ hq) k
    · exact hst.elim
  | aload_n z =>
    simp only [Bool.and_eq_true, decide_eq_true_eq] at hd
    obtain ⟨hd, hnx⟩ := hd
    simp only [rx_lda] at hst
    split at hst
    · rename_i x hq
      have k := hst H locs ls hP hz hS hl hcc hcs
      rw [hnx] at k
      exact lv_aload_n hx hb hd rfl (hl.2.2.1 _ _ hq) k
    · exact hst.elim
  | istore z =>
    simp only [Bool.and_eq_true, decide_eq_true_eq] at hd
    obtain ⟨hd, hnx⟩ := hd
    simp only [rx_sti] at hst
    split at hst
    · rename_i x r
      obtain ⟨⟨h1, h2⟩, h3⟩ := hst
      refine lv_istore hx hb hd (has_lv hl) (by rw [← hl.2.2.2]; exact h2) rfl (fun ls' hl' => ?_)
      have k := h3 H locs ls' hP hz hS (has_set (v := .int x) h1 h2 hl.2.2.2 hl') hcc hcs
      rw [hnx] at k
      exact k
    · exact hst.elim
  | istore_n z =>
    simp only [Bool.and_eq_true, decide_eq_true_eq] at hd
    obtain ⟨hd, hnx⟩ := hd
    simp only [rx_sti] at hst
    split at hst
    · rename_i x r
      obtain ⟨⟨h1, h2⟩, h3⟩ := hst
      refine lv_istore_n hx hb hd rfl (has_lv hl) (by rw [← hl.2.2.2]; exact h2) rfl (fun ls' hl' => ?_)
      have k := h3 H locs ls' hP hz hS (has_set (v := .int x) h1 h2 hl.2.2.2 hl') hcc hcs
      rw [hnx] at k
      exact k
    · exact hst.elim
  | astore_n z =>
    simp only [Bool.and_eq_true, decide_eq_true_eq] at hd
    obtain ⟨hd, hnx⟩ := hd
    simp only [rx_sta] at hst
    split at hst
    · rename_i x r
      obtain ⟨⟨h1, h2⟩, h3⟩ := hst
      refine lv_astore_n hx hb hd rfl (has_lv hl) (by rw [← hl.2.2.2]; exact h2) rfl (fun ls' hl' => ?_)
      have k := h3 H locs ls' hP hz hS (has_set (v := .ref x) h1 h2 hl.2.2.2 hl') hcc hcs
      rw [hnx] at k
      exact k
    · exact hst.elim
  | iinc z zz =>
    simp only [Bool.and_eq_true, decide_eq_true_eq] at hd
    obtain ⟨⟨hd, hnx⟩, hv⟩ := hd
    simp only [rx_inc] at hst
    split at hst
    · rename_i x hq
      obtain ⟨h1, h3⟩ := hst
      have h2 : z < L.length := (List.getElem?_eq_some_iff.mp hq).1
      obtain ⟨k0, hk0⟩ := List.getElem?_of_mem (lv_mem.mpr ⟨.int x, hq, rfl⟩ : (z, rx_cv b h (.int x)) ∈ rx_lv b h L)
      refine lv_iinc (v := x + v) hx hb hd (has_lv hl) hk0 (by rw [hv]) (by rw [← hl.2.2.2]; exact h2) rfl (fun ls' hl' => ?_)
      have k := h3 H locs ls' hP hz hS (has_set (v := .int (x + v)) h1 h2 hl.2.2.2 hl') hcc hcs
      rw [hnx] at k
      exact k
    · exact hst.elim
  | iadd =>
    simp only [Bool.and_eq_true, decide_eq_true_eq] at hd
    obtain ⟨hd, hnx⟩ := hd
    simp only [rx_ii] at hst
    split at hst
    · have k := hst H locs ls hP hz hS hl hcc hcs
      rw [hnx] at k
      exact lv_iadd hx hb hd k
    · exact hst.elim
  | isub =>
    simp only [Bool.and_eq_true, decide_eq_true_eq] at hd
    obtain ⟨hd, hnx⟩ := hd
    simp only [rx_ii] at hst
    split at hst
    · have k := hst H locs ls hP hz hS hl hcc hcs
      rw [hnx] at k
      exact lv_isub hx hb hd k
    · exact hst.elim
  | imul =>
    simp only [Bool.and_eq_true, decide_eq_true_eq] at hd
    obtain ⟨hd, hnx⟩ := hd
    simp only [rx_ii] at hst
    split at hst
    · have k := hst H locs ls hP hz hS hl hcc hcs
      rw [hnx] at k
      exact lv_imul hx hb hd k
    · exact hst.elim
  | iand =>
    simp only [Bool.and_eq_true, decide_eq_true_eq] at hd
    obtain ⟨hd, hnx⟩ := hd
    simp only [rx_ii] at hst
    split at hst
    · have k := hst H locs ls hP hz hS hl hcc hcs
      rw [hnx] at k
      exact lv_iand hx hb hd k
    · exact hst.elim
  | ior =>
    simp only [Bool.and_eq_true, decide_eq_true_eq] at hd
    obtain ⟨hd, hnx⟩ := hd
    simp only [rx_ii] at hst
    split at hst
    · have k := hst H locs ls hP hz hS hl hcc hcs
      rw [hnx] at k
      exact lv_ior hx hb hd k
    · exact hst.elim
  | ishl =>
    simp only [Bool.and_eq_true, decide_eq_true_eq] at hd
    obtain ⟨hd, hnx⟩ := hd
    simp only [rx_ii] at hst
    split at hst
    · have k := hst H locs ls hP hz hS hl hcc hcs
      rw [hnx] at k
      exact lv_ishl hx hb hd k
    · exact hst.elim
  | ishr =>
    simp only [Bool.and_eq_true, decide_eq_true_eq] at hd
    obtain ⟨hd, hnx⟩ := hd
    simp only [rx_ii] at hst
    split at hst
    · have k := hst H locs ls hP hz hS hl hcc hcs
      rw [hnx] at k
      exact lv_ishr hx hb hd k
    · exact hst.elim
  | iushr =>
    simp only [Bool.and_eq_true, decide_eq_true_eq] at hd
    obtain ⟨hd, hnx⟩ := hd
    simp only [rx_ii] at hst
    split at hst
    · have k := hst H locs ls hP hz hS hl hcc hcs
      rw [hnx] at k
      exact lv_iushr hx hb hd rfl k
    · exact hst.elim
  | idiv =>
    simp only [Bool.and_eq_true, decide_eq_true_eq] at hd
    obtain ⟨hd, hnx⟩ := hd
    simp only [rx_di] at hst
    split at hst
    · obtain ⟨h0, hst⟩ := hst
      have k := hst H locs ls hP hz hS hl hcc hcs
      rw [hnx] at k
      exact lv_idiv hx hb hd h0 k
    · exact hst.elim
  | irem =>
    simp only [Bool.and_eq_true, decide_eq_true_eq] at hd
    obtain ⟨hd, hnx⟩ := hd
    simp only [rx_di] at hst
    split at hst
    · obtain ⟨h0, hst⟩ := hst
      have k := hst H locs ls hP hz hS hl hcc hcs
      rw [hnx] at k
      exact lv_irem hx hb hd h0 k
    · exact hst.elim
  | i2b =>
    simp only [Bool.and_eq_true, decide_eq_true_eq] at hd
    obtain ⟨hd, hnx⟩ := hd
    simp only [rx_i] at hst
    split at hst
    · have k := hst H locs ls hP hz hS hl hcc hcs
      rw [hnx] at k
      exact lv_i2b hx hb hd rfl k
    · exact hst.elim
  | i2l =>
    simp only [Bool.and_eq_true, decide_eq_true_eq] at hd
    obtain ⟨hd, hnx⟩ := hd
    dsimp only at hst
    split at hst
    · have k := hst H locs ls hP hz hS hl hcc hcs
      rw [hnx] at k
      exact lv_i2l hx hb hd rfl k
    · exact hst.elim
  | l2i =>
    simp only [Bool.and_eq_true, decide_eq_true_eq] at hd
    obtain ⟨hd, hnx⟩ := hd
    dsimp only at hst
    split at hst
    · have k := hst H locs ls hP hz hS hl hcc hcs
      rw [hnx] at k
      exact lv_l2i hx hb hd rfl k
    · exact hst.elim
  | ladd =>
    simp only [Bool.and_eq_true, decide_eq_true_eq] at hd
    obtain ⟨hd, hnx⟩ := hd
    simp only [rx_ll] at hst
    split at hst
    · have k := hst H locs ls hP hz hS hl hcc hcs
      rw [hnx] at k
      exact lv_ladd hx hb hd k
    · exact hst.elim
  | lsub =>
    simp only [Bool.and_eq_true, decide_eq_true_eq] at hd
    obtain ⟨hd, hnx⟩ := hd
    simp only [rx_ll] at hst
    split at hst
    · have k := hst H locs ls hP hz hS hl hcc hcs
      rw [hnx] at k
      exact lv_lsub hx hb hd k
    · exact hst.elim
  | land =>
    simp only [Bool.and_eq_true, decide_eq_true_eq] at hd
    obtain ⟨hd, hnx⟩ := hd
    simp only [rx_ll] at hst
    split at hst
    · have k := hst H locs ls hP hz hS hl hcc hcs
      rw [hnx] at k
      exact lv_land hx hb hd k
    · exact hst.elim
  | lor =>
    simp only [Bool.and_eq_true, decide_eq_true_eq] at hd
    obtain ⟨hd, hnx⟩ := hd
    simp only [rx_ll] at hst
    split at hst
    · have k := hst H locs ls hP hz hS hl hcc hcs
      rw [hnx] at k
      exact lv_lor hx hb hd k
    · exact hst.elim
  | lshl =>
    simp only [Bool.and_eq_true, decide_eq_true_eq] at hd
    obtain ⟨hd, hnx⟩ := hd
    simp only [rx_li] at hst
    split at hst
    · have k := hst H locs ls hP hz hS hl hcc hcs
      rw [hnx] at k
      exact lv_lshl hx hb hd rfl k
    · exact hst.elim
  | lshr =>
    simp only [Bool.and_eq_true, decide_eq_true_eq] at hd
    obtain ⟨hd, hnx⟩ := hd
    simp only [rx_li] at hst
    split at hst
    · have k := hst H locs ls hP hz hS hl hcc hcs
      rw [hnx] at k
      exact lv_lshr hx hb hd rfl k
    · exact hst.elim
  | lushr =>
    simp only [Bool.and_eq_true, decide_eq_true_eq] at hd
    obtain ⟨hd, hnx⟩ := hd
    simp only [rx_li] at hst
    split at hst
    · have k := hst H locs ls hP hz hS hl hcc hcs
      rw [hnx] at k
      exact lv_lushr hx hb hd rfl k
    · exact hst.elim
  | lcmp =>
    simp only [Bool.and_eq_true, decide_eq_true_eq] at hd
    obtain ⟨hd, hnx⟩ := hd
    dsimp only at hst
    split at hst
    · have k := hst H locs ls hP hz hS hl hcc hcs
      rw [hnx] at k
      exact W.lcmp hx hb hd k
    · exact hst.elim
  | dup =>
    simp only [Bool.and_eq_true, decide_eq_true_eq] at hd
    obtain ⟨hd, hnx⟩ := hd
    dsimp only at hst
    split at hst
    · obtain ⟨h0, hst⟩ := hst
      have k := hst H locs ls hP hz hS hl hcc hcs
      rw [hnx] at k
      exact lv_dup hx hb hd (by rw [cv_cat]; exact h0) k
    · exact hst.elim
  | pop =>
    simp only [Bool.and_eq_true, decide_eq_true_eq] at hd
    obtain ⟨hd, hnx⟩ := hd
    dsimp only at hst
    split at hst
    · obtain ⟨h0, hst⟩ := hst
      have k := hst H locs ls hP hz hS hl hcc hcs
      rw [hnx] at k
      exact lv_pop hx hb hd (by rw [cv_cat]; exact h0) k
    · exact hst.elim
  | goto z =>
    simp only [Bool.and_eq_true, decide_eq_true_eq] at hd
    obtain ⟨hd, ht⟩ := hd
    have k := hst H locs ls hP hz hS hl hcc hcs
    exact lv_goto hx hb hd ht k
  | ifCond o z =>
    simp only [Bool.and_eq_true, decide_eq_true_eq] at hd
    obtain ⟨⟨hd, hnx⟩, ht⟩ := hd
    dsimp only at hst
    split at hst
    · cases o with
      | eq =>
        refine lv_if_eq hx hb hd ht (fun q => ?_) (fun q => ?_)
        · exact hst.1 q H locs ls hP hz hS hl hcc hcs
        · have k := hst.2 q H locs ls hP hz hS hl hcc hcs
          rw [hnx] at k
          exact k
      | ne =>
        refine lv_if_ne hx hb hd ht (fun q => ?_) (fun q => ?_)
        · exact hst.1 q H locs ls hP hz hS hl hcc hcs
        · have k := hst.2 q H locs ls hP hz hS hl hcc hcs
          rw [hnx] at k
          exact k
      | lt =>
        refine lv_if_lt hx hb hd ht (fun q => ?_) (fun q => ?_)
        · exact hst.1 q H locs ls hP hz hS hl hcc hcs
        · have k := hst.2 q H locs ls hP hz hS hl hcc hcs
          rw [hnx] at k
          exact k
      | ge =>
        refine lv_if_ge hx hb hd ht (fun q => ?_) (fun q => ?_)
        · exact hst.1 q H locs ls hP hz hS hl hcc hcs
        · have k := hst.2 q H locs ls hP hz hS hl hcc hcs
          rw [hnx] at k
          exact k
      | gt =>
        refine lv_if_gt hx hb hd ht (fun q => ?_) (fun q => ?_)
        · exact hst.1 q H locs ls hP hz hS hl hcc hcs
        · have k := hst.2 q H locs ls hP hz hS hl hcc hcs
          rw [hnx] at k
          exact k
      | le =>
        refine lv_if_le hx hb hd ht (fun q => ?_) (fun q => ?_)
        · exact hst.1 q H locs ls hP hz hS hl hcc hcs
        · have k := hst.2 q H locs ls hP hz hS hl hcc hcs
          rw [hnx] at k
          exact k
    · exact hst.elim
  | if_icmp o z =>
    simp only [Bool.and_eq_true, decide_eq_true_eq] at hd
    obtain ⟨⟨hd, hnx⟩, ht⟩ := hd
    dsimp only at hst
    split at hst
    · cases o with
      | eq =>
        refine lv_icmp_eq hx hb hd ht (fun q => ?_) (fun q => ?_)
        · exact hst.1 q H locs ls hP hz hS hl hcc hcs
        · have k := hst.2 q H locs ls hP hz hS hl hcc hcs
          rw [hnx] at k
          exact k
      | ne =>
        refine lv_icmp_ne hx hb hd ht (fun q => ?_) (fun q => ?_)
        · exact hst.1 q H locs ls hP hz hS hl hcc hcs
        · have k := hst.2 q H locs ls hP hz hS hl hcc hcs
          rw [hnx] at k
          exact k
      | lt =>
        refine lv_icmp_lt hx hb hd ht (fun q => ?_) (fun q => ?_)
        · exact hst.1 q H locs ls hP hz hS hl hcc hcs
        · have k := hst.2 q H locs ls hP hz hS hl hcc hcs
          rw [hnx] at k
          exact k
      | ge =>
        refine lv_icmp_ge hx hb hd ht (fun q => ?_) (fun q => ?_)
        · exact hst.1 q H locs ls hP hz hS hl hcc hcs
        · have k := hst.2 q H locs ls hP hz hS hl hcc hcs
          rw [hnx] at k
          exact k
      | gt =>
        refine lv_icmp_gt hx hb hd ht (fun q => ?_) (fun q => ?_)
        · exact hst.1 q H locs ls hP hz hS hl hcc hcs
        · have k := hst.2 q H locs ls hP hz hS hl hcc hcs
          rw [hnx] at k
          exact k
      | le =>
        refine lv_icmp_le hx hb hd ht (fun q => ?_) (fun q => ?_)
        · exact hst.1 q H locs ls hP hz hS hl hcc hcs
        · have k := hst.2 q H locs ls hP hz hS hl hcc hcs
          rw [hnx] at k
          exact k
    · exact hst.elim
  | tableswitch df lo hi offs =>
    simp only [Bool.and_eq_true, decide_eq_true_eq] at hd
    obtain ⟨⟨⟨hd, ht⟩, hsz⟩, hall⟩ := hd
    simp only [rx_tsw] at hst
    split at hst
    · rename_i x r
      by_cases q : x.toInt < lo ∨ hi < x.toInt
      · exact lv_tableOut hx hb hd q ht (hst.1 q H locs ls hP hz hS hl hcc hcs)
      · have q1 : ¬ x.toInt < lo := fun z => q (Or.inl z)
        have q2 : ¬ hi < x.toInt := fun z => q (Or.inr z)
        have hlt : (x.toInt - lo).toNat < offs.size := by rw [hsz]; omega
        have hto := List.all_eq_true.mp hall (x.toInt - lo).toNat (List.mem_range.mpr hlt)
        simp only [decide_eq_true_eq] at hto
        refine lv_tableIn hx hb hd q1 q2 (off := offs.getD (x.toInt - lo).toNat 0) ?_ hto (hst.2 q1 q2 H locs ls hP hz hS hl hcc hcs)
        simp [Array.getD, hlt]
    · exact hst.elim
  | getfield z =>
    simp only [Bool.and_eq_true, decide_eq_true_eq] at hd
    obtain ⟨⟨⟨hd, hnx⟩, hci⟩, hk⟩ := hd
    dsimp only at hst
    split at hst
    · split at hst
      · rename_i o r y hg
        have k := hst H locs ls hP hz hS hl hcc hcs
        rw [hnx] at k
        obtain ⟨j, fs, rfl, hcell, hv⟩ := gf_at (b := b) (h := h) (tc := tc) hg
        exact va_get hx hb hts (cl_ly _ hci) hown hK hP j hcell (cl_at _ hci) _ hk (hts _ (wg_in hw)) (fun _ q => q) hv hd k
      · exact hst.elim
    · exact hst.elim
  | putfield z =>
    simp only [Bool.and_eq_true, decide_eq_true_eq] at hd
    obtain ⟨⟨⟨hd, hnx⟩, hci⟩, hk⟩ := hd
    dsimp only at hst
    split at hst
    · split at hst
      · rename_i y o r q0 w' hg
        obtain ⟨⟨hna, hfi⟩, hst⟩ := hst
        obtain ⟨j, fs, rfl, hcell, hlen, hw', hl'⟩ := pf_at (b := b) (h := h) (tc := tc) hg
        have hgo : ∀ (H1 : Heap) (locs1 : List Loc), H1.size = H.size → va_P D rx_cl ((rx_cw b h tc h w).set j (h + j, .inr (rx_at info 0, fs.set (rx_at info 1) (rx_cv b h y)))) H1 → va_D (fun q => h ≤ q) ((rx_cw b h tc h w).set j (h + j, .inr (rx_at info 0, fs.set (rx_at info 1) (rx_cv b h y)))) → va_S (fun q => h ≤ q) s.heap H1 locs1 → W p l e R s m args below meth c H1 locs1 cells slots Qw (F0 m (pc + 3) ls (r.map (rx_cv b h))) := by
          intro H1 locs1 hz1 hP1 _ hS1
          have k := hst H1 locs1 ls (by rw [hw']; exact hP1) (by rw [hz1, hz, hl']) hS1 hl hcc hcs
          rw [hnx] at k
          exact k
        rcases hw.2 with hf | ⟨hi, ho, hf⟩
        · exact sd_put hx hb hts (cl_ly _ hci) (rx_ty (rx_at info 0)) (cl_tf _ hci) (cl_nf _ hci) hown hK hP hD hS j hcell (cl_at _ hci) _ hk (hts _ (wg_in hw.1)) (fun _ q => q) hf (cl_tf _ hci _ hk) (cv_nar b h hna) (by rw [cv_fit]; exact hfi) hlen hd hgo
        · exact sd_putF hx hb hts (cl_ly _ hci) (rx_ty (rx_at info 0)) (cl_tf _ hci) (cl_nf _ hci) hown hK hP hD hS j hcell (cl_at _ hci) _ hk (hts _ (wg_in hw.1)) (fun _ q => q) hf (by rw [hnm]; exact hi) ho (cl_tf _ hci _ hk) (cv_nar b h hna) (by rw [cv_fit]; exact hfi) hlen hd hgo
      · exact hst.elim
    · exact hst.elim
  | iaload =>
    simp only [Bool.and_eq_true, decide_eq_true_eq] at hd
    obtain ⟨hd, hnx⟩ := hd
    simp only [rx_ald] at hst
    split at hst
    · obtain ⟨-, hin, hst⟩ := hst
      have k := hst H locs ls hP hz hS hl hcc hcs
      rw [hnx] at k
      exact va_sld hx hb hX hbl hbA hS hin hd k
    · split at hst
      · rename_i q1 x0 o r q2 tg n f hg
        obtain ⟨htg, hin, hst⟩ := hst
        obtain ⟨j, hj, ha⟩ := ga_at (b := b) (h := h) (tc := tc) hg
        cases hj
        have k := hst H locs ls hP hz hS hl hcc hcs
        rw [hnx] at k
        have htg : tg = 0 := by simpa using htg
        subst htg
        exact va_iald hx hb hK hP o 0 ha rfl hin hd k
      · exact hst.elim
    · exact hst.elim
  | baload =>
    simp only [Bool.and_eq_true, decide_eq_true_eq] at hd
    obtain ⟨hd, hnx⟩ := hd
    simp only [rx_ald] at hst
    split at hst
    · exact absurd hst.1 (by decide)
    · split at hst
      · rename_i q1 x0 o r q2 tg n f hg
        obtain ⟨htg, hin, hst⟩ := hst
        obtain ⟨j, hj, ha⟩ := ga_at (b := b) (h := h) (tc := tc) hg
        cases hj
        have k := hst H locs ls hP hz hS hl hcc hcs
        rw [hnx] at k
        have htg : tg = 1 ∨ tg = 2 := by simpa using htg
        rcases htg with rfl | rfl
        · exact va_bald hx hb hK hP o 1 ha rfl hin hd k
        · exact va_zald hx hb hK hP o 2 ha rfl hin hd k
      · exact hst.elim
    · exact hst.elim
  | aaload =>
    simp only [Bool.and_eq_true, decide_eq_true_eq] at hd
    obtain ⟨hd, hnx⟩ := hd
    simp only [rx_aald] at hst
    split at hst
    · split at hst
      · rename_i q1 x0 o r q2 n f hg
        obtain ⟨hin, y, hy, hst⟩ := hst
        obtain ⟨j, hj, ha⟩ := ga_at (b := b) (h := h) (tc := tc) hg
        cases hj
        have k := hst H locs ls hP hz hS hl hcc hcs
        rw [hnx] at k
        replace ha : (rx_cw b h tc h w)[j]? = some (h + j, .inl (tc 3, n, .inr (.inr (.inr (.inr (fun j => (f j).map (rx_ad b h)))))))  := ha
        have hlt : x0.toNatClampNeg < n := Nat.not_le.mp fun q => hin (Or.inr q)
        refine W.aald (v := .ref (rx_ad b h y)) (ty := .array .byte) hx hb (hP j _ ha) ((hK.2 3 _ rfl).1 n (fun j => va_rf ((f j).map (rx_ad b h)))) rfl (fun q => by cases q) (by show ¬ (x0 < 0 ∨ (arrV _ _ _).slots.size ≤ _); rw [arrV_size]; exact hin) ?_ rfl rfl hd k
        show (arrV _ _ _).slots[_]? = _
        rw [arrV_read _ _ hlt]
        show some (va_rf ((f x0.toNatClampNeg).map (rx_ad b h))) = _
        rw [hy]
        rfl
      · exact hst.elim
    · exact hst.elim
  | iastore =>
    simp only [Bool.and_eq_true, decide_eq_true_eq] at hd
    obtain ⟨hd, hnx⟩ := hd
    simp only [rx_ast] at hst
    split at hst
    · split at hst
      · rename_i q1 x0 i0 o r q2 tg n f hg
        obtain ⟨htg, hin, hst⟩ := hst
        obtain ⟨j, hj, -⟩ := ga_at (b := b) (h := h) (tc := tc) hg
        subst hj
        refine sd_ast C' hP hz hS hg hin (Or.inl ⟨by simpa using htg, rfl⟩) hd (fun H1 locs1 hP1 hz1 hS1 => ?_)
        have k := hst H1 locs1 ls hP1 (by rw [hz1, (pa_at (b := b) (h := h) (tc := tc) w j tg _).2]) hS1 hl hcc hcs
        rw [hnx] at k
        exact k
      · exact hst.elim
    · exact hst.elim
  | bastore =>
    simp only [Bool.and_eq_true, decide_eq_true_eq] at hd
    obtain ⟨hd, hnx⟩ := hd
    simp only [rx_ast] at hst
    split at hst
    · split at hst
      · rename_i q1 x0 i0 o r q2 tg n f hg
        obtain ⟨htg, hin, hst⟩ := hst
        obtain ⟨j, hj, -⟩ := ga_at (b := b) (h := h) (tc := tc) hg
        subst hj
        refine sd_ast C' hP hz hS hg hin (Or.inr ⟨by simpa using htg, rfl⟩) hd (fun H1 locs1 hP1 hz1 hS1 => ?_)
        have k := hst H1 locs1 ls hP1 (by rw [hz1, (pa_at (b := b) (h := h) (tc := tc) w j tg _).2]) hS1 hl hcc hcs
        rw [hnx] at k
        exact k
      · exact hst.elim
    · exact hst.elim
  | arraylength =>
    simp only [Bool.and_eq_true, decide_eq_true_eq] at hd
    obtain ⟨hd, hnx⟩ := hd
    simp only [rx_len] at hst
    split at hst
    · have k := hst H locs ls hP hz hS hl hcc hcs
      rw [hnx] at k
      exact va_slen hx hb hX hbl hbA hS hd k
    · split at hst
      · rename_i q1 o r q2 tg n a0 hg
        obtain ⟨htg, hst⟩ := hst
        obtain ⟨j, hj, ha⟩ := ga_at (b := b) (h := h) (tc := tc) hg
        cases hj
        have k := hst H locs ls hP hz hS hl hcc hcs
        rw [hnx] at k
        have hty : (rx_tys tc)[tg]? = some (tc tg, rx_tg tg) := by
          match tg, htg with
          | 0, _ => rfl
          | 1, _ => rfl
          | 2, _ => rfl
          | 3, _ => rfl
          | z + 4, hz => exact absurd hz (by omega)
        refine va_alen hx hb hK hP o tg ha hty (v := Int32.ofNat n) ?_ hd k
        obtain f | f | f | f | f := a0 <;> rfl
      · exact hst.elim
    · exact hst.elim
  | newarray a =>
    simp only [Bool.and_eq_true, decide_eq_true_eq] at hd
    obtain ⟨⟨⟨hd, hnx⟩, htg⟩, hty⟩ := hd
    dsimp only at hst
    split at hst
    · obtain ⟨⟨h1, h2, h3, h4⟩, hst⟩ := hst
      refine sd_arr C' hP hz hS htg hty h1 h2 hd h3 h4 (fun H1 hP1 hz1 hS1 => ?_)
      have k := hst H1 locs ls hP1 (by rw [hz1, List.length_append]; rfl) hS1 hl h3 h4
      rw [hnx] at k
      exact k
    · exact hst.elim
  | new z =>
    simp only [Bool.and_eq_true, decide_eq_true_eq] at hd
    obtain ⟨⟨hd, hnx⟩, hci⟩ := hd
    obtain ⟨⟨h3, h4⟩, hst⟩ := hst
    refine sd_new C' hP hz hS hci (wg_in hw.1) (wg_in hw.2.1) (wg_in hw.2.2) hd h3 h4 (fun H1 hP1 hz1 hS1 => ?_)
    have k := hst H1 locs ls hP1 (by rw [hz1, List.length_append]; rfl) hS1 hl h3 h4
    rw [hnx] at k
    exact k
  | multianewarray z zz =>
    simp only [Bool.and_eq_true, decide_eq_true_eq] at hd
    obtain ⟨⟨hd, hzz⟩, hnx⟩ := hd
    dsimp only at hst
    split at hst
    · obtain ⟨⟨h3, h4⟩, hst⟩ := hst
      refine hmna p l e R s m args below meth c H locs cells slots Qw b h Lx xs tc D own nm cc nL ret pc z ls w _ C' hP hz hS (wg_in hw) hd h3 h4 (fun H1 hP1 hz1 hS1 => ?_)
      have k := hst H1 locs ls hP1 (by rw [hz1, List.length_append]; rfl) hS1 hl h3 h4
      rw [hnx] at k
      exact k
    · exact hst.elim
  | invokevirtual z =>
    simp only [Bool.and_eq_true, decide_eq_true_eq] at hd
    obtain ⟨⟨hd, hnx⟩, hck⟩ := hd
    simp only [ck_k, Bool.and_eq_true, decide_eq_true_eq] at hck
    obtain ⟨hk0, hst⟩ := hst
    simp only [rx_call, hk0] at hst
    split at hst
    · rename_i q1 o r hdr
      obtain ⟨⟨h1, h2, h3, h4, h5⟩, hst⟩ := hst
      have hst2 : st.map (rx_cv b h) = (st.take (rx_at info 1)).reverse.reverse.map (rx_cv b h) ++ (st.drop (rx_at info 1)).map (rx_cv b h) := by rw [List.reverse_reverse, ← List.map_append, List.take_append_drop]
      obtain ⟨ci, hg, hcn⟩ := Option.map_eq_some_iff.mp h2
      have hci : ci < 8 := by
        obtain ⟨j, fs, hj, hcell⟩ := gc_at (b := b) (h := h) (tc := tc) hg
        obtain ⟨r0, hr0, -⟩ := hP j _ hcell
        exact (List.getElem?_eq_some_iff.mp hr0).1
      rw [hst2, hdr]
      have hlen : (st.take (rx_at info 1)).reverse.length = rx_at info 1 := by rw [List.length_reverse, List.length_take]; omega
      refine sd_V C' hcall hfr hlo hP hz hS hl.1 hck.1.1 (hmk _ hck.1.1) hck.2 ⟨h4, h5⟩ hck.1.2 hlen (wg_in hw) hd hci hg hcn (cl_at ci hci) h3 hst ?_
      · intro r0 w' H1 locs1 hq hP1 hz1 hS1
        have k := hq H1 locs1 ls hP1 hz1 hS1 hl h4 h5
        rw [hnx, List.map_append] at k
        cases r0 <;> exact k
    · exact hst.elim
  | invokestatic z =>
    simp only [Bool.and_eq_true, decide_eq_true_eq] at hd
    obtain ⟨⟨hd, hnx⟩, hck⟩ := hd
    obtain ⟨hk0, hst⟩ := hst
    rcases hk0 with hk0 | hk0 | hk0 | hk0 | hk0
    · simp only [hk0] at hck
      simp only [ck_k, Bool.and_eq_true, decide_eq_true_eq] at hck
      simp only [wk_i, hk0] at hw
      simp only [rx_call, hk0] at hst
      obtain ⟨⟨h1, h3, h4, h5⟩, hst⟩ := hst
      have hst2 : st.map (rx_cv b h) = (st.take (rx_at info 1)).reverse.reverse.map (rx_cv b h) ++ (st.drop (rx_at info 1)).map (rx_cv b h) := by rw [List.reverse_reverse, ← List.map_append, List.take_append_drop]
      rw [hst2]
      have hlen : (st.take (rx_at info 1)).reverse.length = rx_at info 1 := by rw [List.length_reverse, List.length_take]; omega
      refine sd_S C' hcall hfr hlo hP hz hS hl.1 hck.1.1 (hmk _ hck.1.1) hck.2 ⟨h4, h5⟩ hck.1.2 hlen (wg_in hw) hd h3 hst ?_
      · intro r0 w' H1 locs1 hq hP1 hz1 hS1
        have k := hq H1 locs1 ls hP1 hz1 hS1 hl h4 h5
        rw [hnx, List.map_append] at k
        cases r0 <;> exact k
    · simp only [hk0] at hck
      simp only [ck_k, Bool.and_eq_true, decide_eq_true_eq] at hck
      simp only [wk_i, hk0] at hw
      simp only [rx_call, hk0] at hst
      obtain ⟨⟨h1, h3, h4, h5⟩, hst⟩ := hst
      have hst2 : st.map (rx_cv b h) = (st.take (rx_at info 1)).reverse.reverse.map (rx_cv b h) ++ (st.drop (rx_at info 1)).map (rx_cv b h) := by rw [List.reverse_reverse, ← List.map_append, List.take_append_drop]
      rw [hst2]
      have hlen : (st.take (rx_at info 1)).reverse.length = rx_at info 1 := by rw [List.length_reverse, List.length_take]; omega
      refine sd_N C' hcall hfr hlo hP hz hS hl.1 hck.1.1 (hmk _ hck.1.1) hck.2 ⟨h4, h5⟩ hck.1.2 hlen (wg_nest hw) hd h3 hst ?_
      · intro r0 w' H1 locs1 hq hP1 hz1 hS1
        have k := hq H1 locs1 ls hP1 hz1 hS1 hl h4 h5
        rw [hnx, List.map_append] at k
        cases r0 <;> exact k
    · simp only [wk_i, hk0] at hw
      simp only [rx_call, hk0] at hst
      split at hst
      · obtain ⟨h3, hst⟩ := hst
        have k := hst H locs ls hP hz hS hl hcc hcs
        rw [hnx] at k
        exact va_mmax hx hb (by rw [hml, hl.1]) hown (hts _ (wg_in hw)) (hts _ (wg_in wo_mx.1)) (hts _ (wg_in wo_mx.2.1)) (hts _ (wg_in wo_mx.2.2)) (by omega) (by rw [cv_sum]; omega) hcc hcs hd k
      · exact hst.elim
    · simp only [wk_i, hk0] at hw
      simp only [rx_call, hk0] at hst
      split at hst
      · obtain ⟨h3, hst⟩ := hst
        have k := hst H locs ls hP hz hS hl hcc hcs
        rw [hnx] at k
        exact va_mmin hx hb (by rw [hml, hl.1]) hown (hts _ (wg_in hw)) (hts _ (wg_in wo_mn.1)) (hts _ (wg_in wo_mn.2.1)) (hts _ (wg_in wo_mn.2.2)) (by omega) (by rw [cv_sum]; omega) hcc hcs hd k
      · exact hst.elim
    · simp only [wk_i, hk0] at hw
      simp only [rx_call, hk0] at hst
      split at hst
      · split at hst
        · rename_i q1 n0 dp a1 sp a0 r q2 q3 nn0 f nn1 g hg0 hg1
          obtain ⟨⟨h3, g1, g2, g3, g4, g5⟩, hst⟩ := hst
          obtain ⟨j0, hj0, ha0⟩ := ga_at (b := b) (h := h) (tc := tc) hg0
          obtain ⟨j1, hj1, ha1⟩ := ga_at (b := b) (h := h) (tc := tc) hg1
          subst hj0
          subst hj1
          refine sd_copy C' hP hz hS ha0 ha1 g1 g2 g3 g4 g5 hl.1 (by omega) (by rw [cv_sum]; omega) (hts _ (wg_in hw)) hd (fun H1 locs1 hP1 hz1 hS1 => ?_)
          have k := hst H1 locs1 ls (by rw [(pa_at w j1 0 _).1]; exact hP1) (by rw [hz1, (pa_at (b := b) (h := h) (tc := tc) w j1 0 _).2]) hS1 hl hcc hcs
          rw [hnx] at k
          exact k
        · exact hst.elim
      · exact hst.elim
  | invokespecial z =>
    simp only [Bool.and_eq_true, decide_eq_true_eq] at hd
    obtain ⟨⟨hd, hnx⟩, hck⟩ := hd
    obtain ⟨hk0, hst⟩ := hst
    rcases hk0 with hk0 | hk0
    · simp only [hk0] at hck
      simp only [ck_k, Bool.and_eq_true, decide_eq_true_eq] at hck
      simp only [wk_i, hk0] at hw
      simp only [rx_call, hk0] at hst
      split at hst
      · rename_i q1 o r hdr
        obtain ⟨⟨h1, h3, h4, h5⟩, hst⟩ := hst
        have hst2 : st.map (rx_cv b h) = (st.take (rx_at info 1)).reverse.reverse.map (rx_cv b h) ++ (st.drop (rx_at info 1)).map (rx_cv b h) := by rw [List.reverse_reverse, ← List.map_append, List.take_append_drop]
        rw [hst2, hdr]
        have hlen : (st.take (rx_at info 1)).reverse.length = rx_at info 1 := by rw [List.length_reverse, List.length_take]; omega
        refine sd_I C' hcall hfr hlo hP hz hS hl.1 hck.1.1 (hmk _ hck.1.1) hck.2 ⟨h4, h5⟩ hck.1.2 hlen (wg_in hw) hd h3 hst ?_
        · intro r0 w' H1 locs1 hq hP1 hz1 hS1
          have k := hq H1 locs1 ls hP1 hz1 hS1 hl h4 h5
          rw [hnx, List.map_append] at k
          cases r0 <;> exact k
      · exact hst.elim
    · simp only [wk_i, hk0] at hw
      simp only [rx_call, hk0] at hst
      split at hst
      · obtain ⟨h3, hst⟩ := hst
        have k := hst H locs ls hP hz hS hl hcc hcs
        rw [hnx] at k
        exact W.objInit hx hb hown (hts _ (wg_in hw)) (hts _ (wg_in wo_oi.1)) (hts _ (wg_in wo_oi.2)) rfl (by rw [hml]; exact hl.1) rfl hd (by omega) (by show 2 * 0 + _ + 12 ≤ _; rw [cv_sum]; omega) k
      · exact hst.elim
  | ireturn =>
    simp only [decide_eq_true_eq] at hd
    dsimp only at hst
    split at hst
    · exact hri _ w H locs cells slots pc ls hd hst.1 hst.2 hP hz hS hcc hcs
    · exact hst.elim
  | return_ =>
    simp only [decide_eq_true_eq] at hd
    dsimp only at hst
    split at hst
    · exact hrv w H locs cells slots pc ls hd hst.1 hst.2 hP hz hS hcc hcs
    · exact hst.elim
  | _ => exact hst.elim
end SDB
end
section
/-! PART 11: methods by contract, and the law -/
/-- what the tables say of a method -/
def tb_ok (M : Nat) : Prop := (∀ i, dk_i (mC M) (rx_tt.getD M []) i = true) ∧ (∀ i, wk_i (mN M).cls (mN M).name (rx_e (rx_tt.getD M []) i)) ∧ mk_m M
theorem tb_0 : tb_ok 0 := ⟨dk_all (n := 32) (by decide) dk_0, wk_at wk_0, mk_0⟩
theorem tb_1 : tb_ok 1 := ⟨dk_all (n := 64) (by decide) dk_1, wk_at wk_1, mk_1⟩
theorem tb_2 : tb_ok 2 := ⟨dk_all (n := 32) (by decide) dk_2, wk_at wk_2, mk_2⟩
theorem tb_3 : tb_ok 3 := ⟨dk_all (n := 32) (by decide) dk_3, wk_at wk_3, mk_3⟩
theorem tb_4 : tb_ok 4 := ⟨dk_all (n := 32) (by decide) dk_4, wk_at wk_4, mk_4⟩
theorem tb_5 : tb_ok 5 := ⟨dk_all (n := 48) (by decide) dk_5, wk_at wk_5, mk_5⟩
theorem tb_6 : tb_ok 6 := ⟨dk_all (n := 16) (by decide) dk_6, wk_at wk_6, mk_6⟩
theorem tb_7 : tb_ok 7 := ⟨dk_all (n := 16) (by decide) dk_7, wk_at wk_7, mk_7⟩
theorem tb_8 : tb_ok 8 := ⟨dk_all (n := 16) (by decide) dk_8, wk_at wk_8, mk_8⟩
theorem tb_9 : tb_ok 9 := ⟨dk_all (n := 16) (by decide) dk_9, wk_at wk_9, mk_9⟩
theorem tb_10 : tb_ok 10 := ⟨dk_all (n := 32) (by decide) dk_10, wk_at wk_10, mk_10⟩
theorem tb_11 : tb_ok 11 := ⟨dk_all (n := 16) (by decide) dk_11, wk_at wk_11, mk_11⟩
theorem tb_12 : tb_ok 12 := ⟨dk_all (n := 32) (by decide) dk_12, wk_at wk_12, mk_12⟩
theorem tb_13 : tb_ok 13 := ⟨dk_all (n := 16) (by decide) dk_13, wk_at wk_13, mk_13⟩
theorem tb_14 : tb_ok 14 := ⟨dk_all (n := 32) (by decide) dk_14, wk_at wk_14, mk_14⟩
theorem tb_15 : tb_ok 15 := ⟨dk_all (n := 48) (by decide) dk_15, wk_at wk_15, mk_15⟩
theorem tb_16 : tb_ok 16 := ⟨dk_all (n := 112) (by decide) dk_16, wk_at wk_16, mk_16⟩
theorem tb_17 : tb_ok 17 := ⟨dk_all (n := 16) (by decide) dk_17, wk_at wk_17, mk_17⟩
theorem tb_18 : tb_ok 18 := ⟨dk_all (n := 80) (by decide) dk_18, wk_at wk_18, mk_18⟩
theorem tb_19 : tb_ok 19 := ⟨dk_all (n := 32) (by decide) dk_19, wk_at wk_19, mk_19⟩
theorem tb_20 : tb_ok 20 := ⟨dk_all (n := 16) (by decide) dk_20, wk_at wk_20, mk_20⟩
theorem tb_21 : tb_ok 21 := ⟨dk_all (n := 16) (by decide) dk_21, wk_at wk_21, mk_21⟩
theorem tb_22 : tb_ok 22 := ⟨dk_all (n := 16) (by decide) dk_22, wk_at wk_22, mk_22⟩
theorem tb_23 : tb_ok 23 := ⟨dk_all (n := 16) (by decide) dk_23, wk_at wk_23, mk_23⟩
theorem tb_24 : tb_ok 24 := ⟨dk_all (n := 32) (by decide) dk_24, wk_at wk_24, mk_24⟩
theorem tb_25 : tb_ok 25 := ⟨dk_all (n := 32) (by decide) dk_25, wk_at wk_25, mk_25⟩
theorem tb_26 : tb_ok 26 := ⟨dk_all (n := 32) (by decide) dk_26, wk_at wk_26, mk_26⟩
theorem tb_27 : tb_ok 27 := ⟨dk_all (n := 16) (by decide) dk_27, wk_at wk_27, mk_27⟩
theorem tb_28 : tb_ok 28 := ⟨dk_all (n := 32) (by decide) dk_28, wk_at wk_28, mk_28⟩
theorem tb_29 : tb_ok 29 := ⟨dk_all (n := 48) (by decide) dk_29, wk_at wk_29, mk_29⟩
theorem tb_30 : tb_ok 30 := ⟨dk_all (n := 32) (by decide) dk_30, wk_at wk_30, mk_30⟩
theorem tb_31 : tb_ok 31 := ⟨dk_all (n := 64) (by decide) dk_31, wk_at wk_31, mk_31⟩
theorem tb_32 : tb_ok 32 := ⟨dk_all (n := 48) (by decide) dk_32, wk_at wk_32, mk_32⟩
theorem tb_33 : tb_ok 33 := ⟨dk_all (n := 32) (by decide) dk_33, wk_at wk_33, mk_33⟩
theorem tb_34 : tb_ok 34 := ⟨dk_all (n := 112) (by decide) dk_34, wk_at wk_34, mk_34⟩
theorem tb_35 : tb_ok 35 := ⟨dk_all (n := 96) (by decide) dk_35, wk_at wk_35, mk_35⟩
theorem tb_36 : tb_ok 36 := ⟨dk_all (n := 160) (by decide) dk_36, wk_at wk_36, mk_36⟩
theorem tb_37 : tb_ok 37 := ⟨dk_all (n := 16) (by decide) dk_37, wk_at wk_37, mk_37⟩
theorem tb_38 : tb_ok 38 := ⟨dk_all (n := 128) (by decide) dk_38, wk_at wk_38, mk_38⟩
theorem tb_39 : tb_ok 39 := ⟨dk_all (n := 128) (by decide) dk_39, wk_at wk_39, mk_39⟩
theorem tb_40 : tb_ok 40 := ⟨dk_all (n := 48) (by decide) dk_40, wk_at wk_40, mk_40⟩
theorem tb_41 : tb_ok 41 := ⟨dk_all (n := 16) (by decide) dk_41, wk_at wk_41, mk_41⟩
theorem tb_42 : tb_ok 42 := ⟨dk_all (n := 80) (by decide) dk_42, wk_at wk_42, mk_42⟩
theorem tb_43 : tb_ok 43 := ⟨dk_all (n := 64) (by decide) dk_43, wk_at wk_43, mk_43⟩
theorem tb_44 : tb_ok 44 := ⟨dk_all (n := 80) (by decide) dk_44, wk_at wk_44, mk_44⟩
theorem tb_45 : tb_ok 45 := ⟨dk_all (n := 80) (by decide) dk_45, wk_at wk_45, mk_45⟩
theorem tb_46 : tb_ok 46 := ⟨dk_all (n := 48) (by decide) dk_46, wk_at wk_46, mk_46⟩
theorem tb_47 : tb_ok 47 := ⟨dk_all (n := 16) (by decide) dk_47, wk_at wk_47, mk_47⟩
theorem tb_48 : tb_ok 48 := ⟨dk_all (n := 32) (by decide) dk_48, wk_at wk_48, mk_48⟩
theorem tb_49 : tb_ok 49 := ⟨dk_all (n := 32) (by decide) dk_49, wk_at wk_49, mk_49⟩
theorem tb_50 : tb_ok 50 := ⟨dk_all (n := 48) (by decide) dk_50, wk_at wk_50, mk_50⟩
theorem tb_51 : tb_ok 51 := ⟨dk_all (n := 80) (by decide) dk_51, wk_at wk_51, mk_51⟩
theorem tb_52 : tb_ok 52 := ⟨dk_all (n := 64) (by decide) dk_52, wk_at wk_52, mk_52⟩
theorem tb_53 : tb_ok 53 := ⟨dk_all (n := 32) (by decide) dk_53, wk_at wk_53, mk_53⟩
theorem tb_54 : tb_ok 54 := ⟨dk_all (n := 48) (by decide) dk_54, wk_at wk_54, mk_54⟩
theorem tb_55 : tb_ok 55 := ⟨dk_all (n := 64) (by decide) dk_55, wk_at wk_55, mk_55⟩
theorem tb_56 : tb_ok 56 := ⟨dk_all (n := 48) (by decide) dk_56, wk_at wk_56, mk_56⟩
theorem tb_57 : tb_ok 57 := ⟨dk_all (n := 80) (by decide) dk_57, wk_at wk_57, mk_57⟩
theorem tb_58 : tb_ok 58 := ⟨dk_all (n := 64) (by decide) dk_58, wk_at wk_58, mk_58⟩
theorem tb_59 : tb_ok 59 := ⟨dk_all (n := 48) (by decide) dk_59, wk_at wk_59, mk_59⟩
theorem tb_60 : tb_ok 60 := ⟨dk_all (n := 48) (by decide) dk_60, wk_at wk_60, mk_60⟩
theorem tb_61 : tb_ok 61 := ⟨dk_all (n := 16) (by decide) dk_61, wk_at wk_61, mk_61⟩
theorem tb_62 : tb_ok 62 := ⟨dk_all (n := 32) (by decide) dk_62, wk_at wk_62, mk_62⟩
theorem tb_63 : tb_ok 63 := ⟨dk_all (n := 32) (by decide) dk_63, wk_at wk_63, mk_63⟩
theorem tb_64 : tb_ok 64 := ⟨dk_all (n := 48) (by decide) dk_64, wk_at wk_64, mk_64⟩
theorem tb_65 : tb_ok 65 := ⟨dk_all (n := 16) (by decide) dk_65, wk_at wk_65, mk_65⟩
theorem tb_66 : tb_ok 66 := ⟨dk_all (n := 32) (by decide) dk_66, wk_at wk_66, mk_66⟩
theorem tb_67 : tb_ok 67 := ⟨dk_all (n := 16) (by decide) dk_67, wk_at wk_67, mk_67⟩
theorem tb_68 : tb_ok 68 := ⟨dk_all (n := 16) (by decide) dk_68, wk_at wk_68, mk_68⟩
theorem tb_69 : tb_ok 69 := ⟨dk_all (n := 32) (by decide) dk_69, wk_at wk_69, mk_69⟩
theorem tb_70 : tb_ok 70 := ⟨dk_all (n := 32) (by decide) dk_70, wk_at wk_70, mk_70⟩
theorem tb_71 : tb_ok 71 := ⟨dk_all (n := 32) (by decide) dk_71, wk_at wk_71, mk_71⟩
theorem tb_72 : tb_ok 72 := ⟨dk_all (n := 32) (by decide) dk_72, wk_at wk_72, mk_72⟩
theorem tb_73 : tb_ok 73 := ⟨dk_all (n := 16) (by decide) dk_73, wk_at wk_73, mk_73⟩
theorem tb_74 : tb_ok 74 := ⟨dk_all (n := 80) (by decide) dk_74, wk_at wk_74, mk_74⟩
theorem tb_75 : tb_ok 75 := ⟨dk_all (n := 80) (by decide) dk_75, wk_at wk_75, mk_75⟩
theorem tb_76 : tb_ok 76 := ⟨dk_all (n := 48) (by decide) dk_76, wk_at wk_76, mk_76⟩
theorem tb_77 : tb_ok 77 := ⟨dk_all (n := 16) (by decide) dk_77, wk_at wk_77, mk_77⟩
theorem tb_78 : tb_ok 78 := ⟨dk_all (n := 80) (by decide) dk_78, wk_at wk_78, mk_78⟩
theorem tb_79 : tb_ok 79 := ⟨dk_all (n := 16) (by decide) dk_79, wk_at wk_79, mk_79⟩
theorem tb_80 : tb_ok 80 := ⟨dk_all (n := 16) (by decide) dk_80, wk_at wk_80, mk_80⟩
theorem tb_81 : tb_ok 81 := ⟨dk_all (n := 32) (by decide) dk_81, wk_at wk_81, mk_81⟩
theorem tb_82 : tb_ok 82 := ⟨dk_all (n := 48) (by decide) dk_82, wk_at wk_82, mk_82⟩
theorem tb_83 : tb_ok 83 := ⟨dk_all (n := 64) (by decide) dk_83, wk_at wk_83, mk_83⟩
theorem tb_84 : tb_ok 84 := ⟨dk_all (n := 48) (by decide) dk_84, wk_at wk_84, mk_84⟩
theorem tb_85 : tb_ok 85 := ⟨dk_all (n := 16) (by decide) dk_85, wk_at wk_85, mk_85⟩
theorem tb_86 : tb_ok 86 := ⟨dk_all (n := 16) (by decide) dk_86, wk_at wk_86, mk_86⟩
theorem tb_87 : tb_ok 87 := ⟨dk_all (n := 16) (by decide) dk_87, wk_at wk_87, mk_87⟩
theorem tb_88 : tb_ok 88 := ⟨dk_all (n := 160) (by decide) dk_88, wk_at wk_88, mk_88⟩
theorem tb_89 : tb_ok 89 := ⟨dk_all (n := 16) (by decide) dk_89, wk_at wk_89, mk_89⟩
theorem tb_90 : tb_ok 90 := ⟨dk_all (n := 16) (by decide) dk_90, wk_at wk_90, mk_90⟩
theorem tb_91 : tb_ok 91 := ⟨dk_all (n := 32) (by decide) dk_91, wk_at wk_91, mk_91⟩
theorem tb_92 : tb_ok 92 := ⟨dk_all (n := 32) (by decide) dk_92, wk_at wk_92, mk_92⟩
theorem tb_93 : tb_ok 93 := ⟨dk_all (n := 16) (by decide) dk_93, wk_at wk_93, mk_93⟩
theorem tb_94 : tb_ok 94 := ⟨dk_all (n := 96) (by decide) dk_94, wk_at wk_94, mk_94⟩
theorem tb_95 : tb_ok 95 := ⟨dk_all (n := 32) (by decide) dk_95, wk_at wk_95, mk_95⟩
theorem tb_96 : tb_ok 96 := ⟨dk_all (n := 32) (by decide) dk_96, wk_at wk_96, mk_96⟩
theorem tb_97 : tb_ok 97 := ⟨dk_all (n := 96) (by decide) dk_97, wk_at wk_97, mk_97⟩
theorem tb_98 : tb_ok 98 := ⟨dk_all (n := 96) (by decide) dk_98, wk_at wk_98, mk_98⟩
theorem tb_99 : tb_ok 99 := ⟨dk_all (n := 16) (by decide) dk_99, wk_at wk_99, mk_99⟩
theorem tb_100 : tb_ok 100 := ⟨dk_all (n := 112) (by decide) dk_100, wk_at wk_100, mk_100⟩
theorem tb_101 : tb_ok 101 := ⟨dk_all (n := 32) (by decide) dk_101, wk_at wk_101, mk_101⟩
theorem tb_102 : tb_ok 102 := ⟨dk_all (n := 16) (by decide) dk_102, wk_at wk_102, mk_102⟩
theorem tb_103 : tb_ok 103 := ⟨dk_all (n := 16) (by decide) dk_103, wk_at wk_103, mk_103⟩
theorem tb_104 : tb_ok 104 := ⟨dk_all (n := 16) (by decide) dk_104, wk_at wk_104, mk_104⟩
theorem tb_105 : tb_ok 105 := ⟨dk_all (n := 32) (by decide) dk_105, wk_at wk_105, mk_105⟩
theorem tb_106 : tb_ok 106 := ⟨dk_all (n := 32) (by decide) dk_106, wk_at wk_106, mk_106⟩
theorem tb_107 : tb_ok 107 := ⟨dk_all (n := 80) (by decide) dk_107, wk_at wk_107, mk_107⟩
theorem tb_108 : tb_ok 108 := ⟨dk_all (n := 16) (by decide) dk_108, wk_at wk_108, mk_108⟩
theorem tb_109 : tb_ok 109 := ⟨dk_all (n := 16) (by decide) dk_109, wk_at wk_109, mk_109⟩
theorem tb_110 : tb_ok 110 := ⟨dk_all (n := 64) (by decide) dk_110, wk_at wk_110, mk_110⟩
theorem tb_111 : tb_ok 111 := ⟨dk_all (n := 32) (by decide) dk_111, wk_at wk_111, mk_111⟩
theorem tb_112 : tb_ok 112 := ⟨dk_all (n := 160) (by decide) dk_112, wk_at wk_112, mk_112⟩
theorem tb_113 : tb_ok 113 := ⟨dk_all (n := 48) (by decide) dk_113, wk_at wk_113, mk_113⟩
theorem tb_114 : tb_ok 114 := ⟨dk_all (n := 32) (by decide) dk_114, wk_at wk_114, mk_114⟩
theorem tb_115 : tb_ok 115 := ⟨dk_all (n := 32) (by decide) dk_115, wk_at wk_115, mk_115⟩
theorem tb_116 : tb_ok 116 := ⟨dk_all (n := 112) (by decide) dk_116, wk_at wk_116, mk_116⟩
theorem tb_117 : tb_ok 117 := ⟨dk_all (n := 176) (by decide) dk_117, wk_at wk_117, mk_117⟩
theorem tb_118 : tb_ok 118 := ⟨dk_all (n := 48) (by decide) dk_118, wk_at wk_118, mk_118⟩
theorem tb_119 : tb_ok 119 := ⟨dk_all (n := 32) (by decide) dk_119, wk_at wk_119, mk_119⟩
theorem tb_120 : tb_ok 120 := ⟨dk_all (n := 160) (by decide) dk_120, wk_at wk_120, mk_120⟩
theorem tb_121 : tb_ok 121 := ⟨dk_all (n := 32) (by decide) dk_121, wk_at wk_121, mk_121⟩
theorem tb_122 : tb_ok 122 := ⟨dk_all (n := 64) (by decide) dk_122, wk_at wk_122, mk_122⟩
theorem tb_123 : tb_ok 123 := ⟨dk_all (n := 176) (by decide) dk_123, wk_at wk_123, mk_123⟩
theorem tb_124 : tb_ok 124 := ⟨dk_all (n := 64) (by decide) dk_124, wk_at wk_124, mk_124⟩
theorem tb_125 : tb_ok 125 := ⟨dk_all (n := 256) (by decide) dk_125, wk_at wk_125, mk_125⟩
theorem tb_126 : tb_ok 126 := ⟨dk_all (n := 16) (by decide) dk_126, wk_at wk_126, mk_126⟩
theorem tb_127 : tb_ok 127 := ⟨dk_all (n := 16) (by decide) dk_127, wk_at wk_127, mk_127⟩
theorem tb_128 : tb_ok 128 := ⟨dk_all (n := 48) (by decide) dk_128, wk_at wk_128, mk_128⟩
theorem tb_129 : tb_ok 129 := ⟨dk_all (n := 48) (by decide) dk_129, wk_at wk_129, mk_129⟩
theorem tb_130 : tb_ok 130 := ⟨dk_all (n := 48) (by decide) dk_130, wk_at wk_130, mk_130⟩
theorem tb_131 : tb_ok 131 := ⟨dk_all (n := 32) (by decide) dk_131, wk_at wk_131, mk_131⟩
theorem tb_132 : tb_ok 132 := ⟨dk_all (n := 32) (by decide) dk_132, wk_at wk_132, mk_132⟩
theorem tb_133 : tb_ok 133 := ⟨dk_all (n := 32) (by decide) dk_133, wk_at wk_133, mk_133⟩
theorem tb_134 : tb_ok 134 := ⟨dk_all (n := 112) (by decide) dk_134, wk_at wk_134, mk_134⟩
theorem tb_135 : tb_ok 135 := ⟨dk_all (n := 16) (by decide) dk_135, wk_at wk_135, mk_135⟩
theorem tb_136 : tb_ok 136 := ⟨dk_all (n := 32) (by decide) dk_136, wk_at wk_136, mk_136⟩
theorem tb_137 : tb_ok 137 := ⟨dk_all (n := 16) (by decide) dk_137, wk_at wk_137, mk_137⟩
theorem tb_138 : tb_ok 138 := ⟨dk_all (n := 16) (by decide) dk_138, wk_at wk_138, mk_138⟩
theorem tb_139 : tb_ok 139 := ⟨dk_all (n := 32) (by decide) dk_139, wk_at wk_139, mk_139⟩
theorem tb_140 : tb_ok 140 := ⟨dk_all (n := 32) (by decide) dk_140, wk_at wk_140, mk_140⟩
theorem tb_141 : tb_ok 141 := ⟨dk_all (n := 32) (by decide) dk_141, wk_at wk_141, mk_141⟩
theorem tb_142 : tb_ok 142 := ⟨dk_all (n := 32) (by decide) dk_142, wk_at wk_142, mk_142⟩
theorem tb_143 : tb_ok 143 := ⟨dk_all (n := 112) (by decide) dk_143, wk_at wk_143, mk_143⟩
theorem tb_144 : tb_ok 144 := ⟨dk_all (n := 64) (by decide) dk_144, wk_at wk_144, mk_144⟩
theorem tb_145 : tb_ok 145 := ⟨dk_all (n := 48) (by decide) dk_145, wk_at wk_145, mk_145⟩
theorem tb_146 : tb_ok 146 := ⟨dk_all (n := 32) (by decide) dk_146, wk_at wk_146, mk_146⟩
theorem tb_147 : tb_ok 147 := ⟨dk_all (n := 16) (by decide) dk_147, wk_at wk_147, mk_147⟩
theorem tb_148 : tb_ok 148 := ⟨dk_all (n := 16) (by decide) dk_148, wk_at wk_148, mk_148⟩
theorem tb_all (M : Nat) (hM : M < 149) : tb_ok M := by
  rcases Nat.lt_or_ge M 74 with h0_149 | h0_149
  · rcases Nat.lt_or_ge M 37 with h0_74 | h0_74
    · rcases Nat.lt_or_ge M 18 with h0_37 | h0_37
      · rcases Nat.lt_or_ge M 9 with h0_18 | h0_18
        · rcases Nat.lt_or_ge M 4 with h0_9 | h0_9
          · rcases Nat.lt_or_ge M 2 with h0_4 | h0_4
            · rcases Nat.lt_or_ge M 1 with h0_2 | h0_2
              · obtain rfl : M = 0 := by omega
                exact tb_0
              · obtain rfl : M = 1 := by omega
                exact tb_1
            · rcases Nat.lt_or_ge M 3 with h2_4 | h2_4
              · obtain rfl : M = 2 := by omega
                exact tb_2
              · obtain rfl : M = 3 := by omega
                exact tb_3
          · rcases Nat.lt_or_ge M 6 with h4_9 | h4_9
            · rcases Nat.lt_or_ge M 5 with h4_6 | h4_6
              · obtain rfl : M = 4 := by omega
                exact tb_4
              · obtain rfl : M = 5 := by omega
                exact tb_5
            · rcases Nat.lt_or_ge M 7 with h6_9 | h6_9
              · obtain rfl : M = 6 := by omega
                exact tb_6
              · rcases Nat.lt_or_ge M 8 with h7_9 | h7_9
                · obtain rfl : M = 7 := by omega
                  exact tb_7
                · obtain rfl : M = 8 := by omega
                  exact tb_8
        · rcases Nat.lt_or_ge M 13 with h9_18 | h9_18
          · rcases Nat.lt_or_ge M 11 with h9_13 | h9_13
            · rcases Nat.lt_or_ge M 10 with h9_11 | h9_11
              · obtain rfl : M = 9 := by omega
                exact tb_9
              · obtain rfl : M = 10 := by omega
                exact tb_10
            · rcases Nat.lt_or_ge M 12 with h11_13 | h11_13
              · obtain rfl : M = 11 := by omega
                exact tb_11
              · obtain rfl : M = 12 := by omega
                exact tb_12
          · rcases Nat.lt_or_ge M 15 with h13_18 | h13_18
            · rcases Nat.lt_or_ge M 14 with h13_15 | h13_15
              · obtain rfl : M = 13 := by omega
                exact tb_13
              · obtain rfl : M = 14 := by omega
                exact tb_14
            · rcases Nat.lt_or_ge M 16 with h15_18 | h15_18
              · obtain rfl : M = 15 := by omega
                exact tb_15
              · rcases Nat.lt_or_ge M 17 with h16_18 | h16_18
                · obtain rfl : M = 16 := by omega
                  exact tb_16
                · obtain rfl : M = 17 := by omega
                  exact tb_17
      · rcases Nat.lt_or_ge M 27 with h18_37 | h18_37
        · rcases Nat.lt_or_ge M 22 with h18_27 | h18_27
          · rcases Nat.lt_or_ge M 20 with h18_22 | h18_22
            · rcases Nat.lt_or_ge M 19 with h18_20 | h18_20
              · obtain rfl : M = 18 := by omega
                exact tb_18
              · obtain rfl : M = 19 := by omega
                exact tb_19
            · rcases Nat.lt_or_ge M 21 with h20_22 | h20_22
              · obtain rfl : M = 20 := by omega
                exact tb_20
              · obtain rfl : M = 21 := by omega
                exact tb_21
          · rcases Nat.lt_or_ge M 24 with h22_27 | h22_27
            · rcases Nat.lt_or_ge M 23 with h22_24 | h22_24
              · obtain rfl : M = 22 := by omega
                exact tb_22
              · obtain rfl : M = 23 := by omega
                exact tb_23
            · rcases Nat.lt_or_ge M 25 with h24_27 | h24_27
              · obtain rfl : M = 24 := by omega
                exact tb_24
              · rcases Nat.lt_or_ge M 26 with h25_27 | h25_27
                · obtain rfl : M = 25 := by omega
                  exact tb_25
                · obtain rfl : M = 26 := by omega
                  exact tb_26
        · rcases Nat.lt_or_ge M 32 with h27_37 | h27_37
          · rcases Nat.lt_or_ge M 29 with h27_32 | h27_32
            · rcases Nat.lt_or_ge M 28 with h27_29 | h27_29
              · obtain rfl : M = 27 := by omega
                exact tb_27
              · obtain rfl : M = 28 := by omega
                exact tb_28
            · rcases Nat.lt_or_ge M 30 with h29_32 | h29_32
              · obtain rfl : M = 29 := by omega
                exact tb_29
              · rcases Nat.lt_or_ge M 31 with h30_32 | h30_32
                · obtain rfl : M = 30 := by omega
                  exact tb_30
                · obtain rfl : M = 31 := by omega
                  exact tb_31
          · rcases Nat.lt_or_ge M 34 with h32_37 | h32_37
            · rcases Nat.lt_or_ge M 33 with h32_34 | h32_34
              · obtain rfl : M = 32 := by omega
                exact tb_32
              · obtain rfl : M = 33 := by omega
                exact tb_33
            · rcases Nat.lt_or_ge M 35 with h34_37 | h34_37
              · obtain rfl : M = 34 := by omega
                exact tb_34
              · rcases Nat.lt_or_ge M 36 with h35_37 | h35_37
                · obtain rfl : M = 35 := by omega
                  exact tb_35
                · obtain rfl : M = 36 := by omega
                  exact tb_36
    · rcases Nat.lt_or_ge M 55 with h37_74 | h37_74
      · rcases Nat.lt_or_ge M 46 with h37_55 | h37_55
        · rcases Nat.lt_or_ge M 41 with h37_46 | h37_46
          · rcases Nat.lt_or_ge M 39 with h37_41 | h37_41
            · rcases Nat.lt_or_ge M 38 with h37_39 | h37_39
              · obtain rfl : M = 37 := by omega
                exact tb_37
              · obtain rfl : M = 38 := by omega
                exact tb_38
            · rcases Nat.lt_or_ge M 40 with h39_41 | h39_41
              · obtain rfl : M = 39 := by omega
                exact tb_39
              · obtain rfl : M = 40 := by omega
                exact tb_40
          · rcases Nat.lt_or_ge M 43 with h41_46 | h41_46
            · rcases Nat.lt_or_ge M 42 with h41_43 | h41_43
              · obtain rfl : M = 41 := by omega
                exact tb_41
              · obtain rfl : M = 42 := by omega
                exact tb_42
            · rcases Nat.lt_or_ge M 44 with h43_46 | h43_46
              · obtain rfl : M = 43 := by omega
                exact tb_43
              · rcases Nat.lt_or_ge M 45 with h44_46 | h44_46
                · obtain rfl : M = 44 := by omega
                  exact tb_44
                · obtain rfl : M = 45 := by omega
                  exact tb_45
        · rcases Nat.lt_or_ge M 50 with h46_55 | h46_55
          · rcases Nat.lt_or_ge M 48 with h46_50 | h46_50
            · rcases Nat.lt_or_ge M 47 with h46_48 | h46_48
              · obtain rfl : M = 46 := by omega
                exact tb_46
              · obtain rfl : M = 47 := by omega
                exact tb_47
            · rcases Nat.lt_or_ge M 49 with h48_50 | h48_50
              · obtain rfl : M = 48 := by omega
                exact tb_48
              · obtain rfl : M = 49 := by omega
                exact tb_49
          · rcases Nat.lt_or_ge M 52 with h50_55 | h50_55
            · rcases Nat.lt_or_ge M 51 with h50_52 | h50_52
              · obtain rfl : M = 50 := by omega
                exact tb_50
              · obtain rfl : M = 51 := by omega
                exact tb_51
            · rcases Nat.lt_or_ge M 53 with h52_55 | h52_55
              · obtain rfl : M = 52 := by omega
                exact tb_52
              · rcases Nat.lt_or_ge M 54 with h53_55 | h53_55
                · obtain rfl : M = 53 := by omega
                  exact tb_53
                · obtain rfl : M = 54 := by omega
                  exact tb_54
      · rcases Nat.lt_or_ge M 64 with h55_74 | h55_74
        · rcases Nat.lt_or_ge M 59 with h55_64 | h55_64
          · rcases Nat.lt_or_ge M 57 with h55_59 | h55_59
            · rcases Nat.lt_or_ge M 56 with h55_57 | h55_57
              · obtain rfl : M = 55 := by omega
                exact tb_55
              · obtain rfl : M = 56 := by omega
                exact tb_56
            · rcases Nat.lt_or_ge M 58 with h57_59 | h57_59
              · obtain rfl : M = 57 := by omega
                exact tb_57
              · obtain rfl : M = 58 := by omega
                exact tb_58
          · rcases Nat.lt_or_ge M 61 with h59_64 | h59_64
            · rcases Nat.lt_or_ge M 60 with h59_61 | h59_61
              · obtain rfl : M = 59 := by omega
                exact tb_59
              · obtain rfl : M = 60 := by omega
                exact tb_60
            · rcases Nat.lt_or_ge M 62 with h61_64 | h61_64
              · obtain rfl : M = 61 := by omega
                exact tb_61
              · rcases Nat.lt_or_ge M 63 with h62_64 | h62_64
                · obtain rfl : M = 62 := by omega
                  exact tb_62
                · obtain rfl : M = 63 := by omega
                  exact tb_63
        · rcases Nat.lt_or_ge M 69 with h64_74 | h64_74
          · rcases Nat.lt_or_ge M 66 with h64_69 | h64_69
            · rcases Nat.lt_or_ge M 65 with h64_66 | h64_66
              · obtain rfl : M = 64 := by omega
                exact tb_64
              · obtain rfl : M = 65 := by omega
                exact tb_65
            · rcases Nat.lt_or_ge M 67 with h66_69 | h66_69
              · obtain rfl : M = 66 := by omega
                exact tb_66
              · rcases Nat.lt_or_ge M 68 with h67_69 | h67_69
                · obtain rfl : M = 67 := by omega
                  exact tb_67
                · obtain rfl : M = 68 := by omega
                  exact tb_68
          · rcases Nat.lt_or_ge M 71 with h69_74 | h69_74
            · rcases Nat.lt_or_ge M 70 with h69_71 | h69_71
              · obtain rfl : M = 69 := by omega
                exact tb_69
              · obtain rfl : M = 70 := by omega
                exact tb_70
            · rcases Nat.lt_or_ge M 72 with h71_74 | h71_74
              · obtain rfl : M = 71 := by omega
                exact tb_71
              · rcases Nat.lt_or_ge M 73 with h72_74 | h72_74
                · obtain rfl : M = 72 := by omega
                  exact tb_72
                · obtain rfl : M = 73 := by omega
                  exact tb_73
  · rcases Nat.lt_or_ge M 111 with h74_149 | h74_149
    · rcases Nat.lt_or_ge M 92 with h74_111 | h74_111
      · rcases Nat.lt_or_ge M 83 with h74_92 | h74_92
        · rcases Nat.lt_or_ge M 78 with h74_83 | h74_83
          · rcases Nat.lt_or_ge M 76 with h74_78 | h74_78
            · rcases Nat.lt_or_ge M 75 with h74_76 | h74_76
              · obtain rfl : M = 74 := by omega
                exact tb_74
              · obtain rfl : M = 75 := by omega
                exact tb_75
            · rcases Nat.lt_or_ge M 77 with h76_78 | h76_78
              · obtain rfl : M = 76 := by omega
                exact tb_76
              · obtain rfl : M = 77 := by omega
                exact tb_77
          · rcases Nat.lt_or_ge M 80 with h78_83 | h78_83
            · rcases Nat.lt_or_ge M 79 with h78_80 | h78_80
              · obtain rfl : M = 78 := by omega
                exact tb_78
              · obtain rfl : M = 79 := by omega
                exact tb_79
            · rcases Nat.lt_or_ge M 81 with h80_83 | h80_83
              · obtain rfl : M = 80 := by omega
                exact tb_80
              · rcases Nat.lt_or_ge M 82 with h81_83 | h81_83
                · obtain rfl : M = 81 := by omega
                  exact tb_81
                · obtain rfl : M = 82 := by omega
                  exact tb_82
        · rcases Nat.lt_or_ge M 87 with h83_92 | h83_92
          · rcases Nat.lt_or_ge M 85 with h83_87 | h83_87
            · rcases Nat.lt_or_ge M 84 with h83_85 | h83_85
              · obtain rfl : M = 83 := by omega
                exact tb_83
              · obtain rfl : M = 84 := by omega
                exact tb_84
            · rcases Nat.lt_or_ge M 86 with h85_87 | h85_87
              · obtain rfl : M = 85 := by omega
                exact tb_85
              · obtain rfl : M = 86 := by omega
                exact tb_86
          · rcases Nat.lt_or_ge M 89 with h87_92 | h87_92
            · rcases Nat.lt_or_ge M 88 with h87_89 | h87_89
              · obtain rfl : M = 87 := by omega
                exact tb_87
              · obtain rfl : M = 88 := by omega
                exact tb_88
            · rcases Nat.lt_or_ge M 90 with h89_92 | h89_92
              · obtain rfl : M = 89 := by omega
                exact tb_89
              · rcases Nat.lt_or_ge M 91 with h90_92 | h90_92
                · obtain rfl : M = 90 := by omega
                  exact tb_90
                · obtain rfl : M = 91 := by omega
                  exact tb_91
      · rcases Nat.lt_or_ge M 101 with h92_111 | h92_111
        · rcases Nat.lt_or_ge M 96 with h92_101 | h92_101
          · rcases Nat.lt_or_ge M 94 with h92_96 | h92_96
            · rcases Nat.lt_or_ge M 93 with h92_94 | h92_94
              · obtain rfl : M = 92 := by omega
                exact tb_92
              · obtain rfl : M = 93 := by omega
                exact tb_93
            · rcases Nat.lt_or_ge M 95 with h94_96 | h94_96
              · obtain rfl : M = 94 := by omega
                exact tb_94
              · obtain rfl : M = 95 := by omega
                exact tb_95
          · rcases Nat.lt_or_ge M 98 with h96_101 | h96_101
            · rcases Nat.lt_or_ge M 97 with h96_98 | h96_98
              · obtain rfl : M = 96 := by omega
                exact tb_96
              · obtain rfl : M = 97 := by omega
                exact tb_97
            · rcases Nat.lt_or_ge M 99 with h98_101 | h98_101
              · obtain rfl : M = 98 := by omega
                exact tb_98
              · rcases Nat.lt_or_ge M 100 with h99_101 | h99_101
                · obtain rfl : M = 99 := by omega
                  exact tb_99
                · obtain rfl : M = 100 := by omega
                  exact tb_100
        · rcases Nat.lt_or_ge M 106 with h101_111 | h101_111
          · rcases Nat.lt_or_ge M 103 with h101_106 | h101_106
            · rcases Nat.lt_or_ge M 102 with h101_103 | h101_103
              · obtain rfl : M = 101 := by omega
                exact tb_101
              · obtain rfl : M = 102 := by omega
                exact tb_102
            · rcases Nat.lt_or_ge M 104 with h103_106 | h103_106
              · obtain rfl : M = 103 := by omega
                exact tb_103
              · rcases Nat.lt_or_ge M 105 with h104_106 | h104_106
                · obtain rfl : M = 104 := by omega
                  exact tb_104
                · obtain rfl : M = 105 := by omega
                  exact tb_105
          · rcases Nat.lt_or_ge M 108 with h106_111 | h106_111
            · rcases Nat.lt_or_ge M 107 with h106_108 | h106_108
              · obtain rfl : M = 106 := by omega
                exact tb_106
              · obtain rfl : M = 107 := by omega
                exact tb_107
            · rcases Nat.lt_or_ge M 109 with h108_111 | h108_111
              · obtain rfl : M = 108 := by omega
                exact tb_108
              · rcases Nat.lt_or_ge M 110 with h109_111 | h109_111
                · obtain rfl : M = 109 := by omega
                  exact tb_109
                · obtain rfl : M = 110 := by omega
                  exact tb_110
    · rcases Nat.lt_or_ge M 130 with h111_149 | h111_149
      · rcases Nat.lt_or_ge M 120 with h111_130 | h111_130
        · rcases Nat.lt_or_ge M 115 with h111_120 | h111_120
          · rcases Nat.lt_or_ge M 113 with h111_115 | h111_115
            · rcases Nat.lt_or_ge M 112 with h111_113 | h111_113
              · obtain rfl : M = 111 := by omega
                exact tb_111
              · obtain rfl : M = 112 := by omega
                exact tb_112
            · rcases Nat.lt_or_ge M 114 with h113_115 | h113_115
              · obtain rfl : M = 113 := by omega
                exact tb_113
              · obtain rfl : M = 114 := by omega
                exact tb_114
          · rcases Nat.lt_or_ge M 117 with h115_120 | h115_120
            · rcases Nat.lt_or_ge M 116 with h115_117 | h115_117
              · obtain rfl : M = 115 := by omega
                exact tb_115
              · obtain rfl : M = 116 := by omega
                exact tb_116
            · rcases Nat.lt_or_ge M 118 with h117_120 | h117_120
              · obtain rfl : M = 117 := by omega
                exact tb_117
              · rcases Nat.lt_or_ge M 119 with h118_120 | h118_120
                · obtain rfl : M = 118 := by omega
                  exact tb_118
                · obtain rfl : M = 119 := by omega
                  exact tb_119
        · rcases Nat.lt_or_ge M 125 with h120_130 | h120_130
          · rcases Nat.lt_or_ge M 122 with h120_125 | h120_125
            · rcases Nat.lt_or_ge M 121 with h120_122 | h120_122
              · obtain rfl : M = 120 := by omega
                exact tb_120
              · obtain rfl : M = 121 := by omega
                exact tb_121
            · rcases Nat.lt_or_ge M 123 with h122_125 | h122_125
              · obtain rfl : M = 122 := by omega
                exact tb_122
              · rcases Nat.lt_or_ge M 124 with h123_125 | h123_125
                · obtain rfl : M = 123 := by omega
                  exact tb_123
                · obtain rfl : M = 124 := by omega
                  exact tb_124
          · rcases Nat.lt_or_ge M 127 with h125_130 | h125_130
            · rcases Nat.lt_or_ge M 126 with h125_127 | h125_127
              · obtain rfl : M = 125 := by omega
                exact tb_125
              · obtain rfl : M = 126 := by omega
                exact tb_126
            · rcases Nat.lt_or_ge M 128 with h127_130 | h127_130
              · obtain rfl : M = 127 := by omega
                exact tb_127
              · rcases Nat.lt_or_ge M 129 with h128_130 | h128_130
                · obtain rfl : M = 128 := by omega
                  exact tb_128
                · obtain rfl : M = 129 := by omega
                  exact tb_129
      · rcases Nat.lt_or_ge M 139 with h130_149 | h130_149
        · rcases Nat.lt_or_ge M 134 with h130_139 | h130_139
          · rcases Nat.lt_or_ge M 132 with h130_134 | h130_134
            · rcases Nat.lt_or_ge M 131 with h130_132 | h130_132
              · obtain rfl : M = 130 := by omega
                exact tb_130
              · obtain rfl : M = 131 := by omega
                exact tb_131
            · rcases Nat.lt_or_ge M 133 with h132_134 | h132_134
              · obtain rfl : M = 132 := by omega
                exact tb_132
              · obtain rfl : M = 133 := by omega
                exact tb_133
          · rcases Nat.lt_or_ge M 136 with h134_139 | h134_139
            · rcases Nat.lt_or_ge M 135 with h134_136 | h134_136
              · obtain rfl : M = 134 := by omega
                exact tb_134
              · obtain rfl : M = 135 := by omega
                exact tb_135
            · rcases Nat.lt_or_ge M 137 with h136_139 | h136_139
              · obtain rfl : M = 136 := by omega
                exact tb_136
              · rcases Nat.lt_or_ge M 138 with h137_139 | h137_139
                · obtain rfl : M = 137 := by omega
                  exact tb_137
                · obtain rfl : M = 138 := by omega
                  exact tb_138
        · rcases Nat.lt_or_ge M 144 with h139_149 | h139_149
          · rcases Nat.lt_or_ge M 141 with h139_144 | h139_144
            · rcases Nat.lt_or_ge M 140 with h139_141 | h139_141
              · obtain rfl : M = 139 := by omega
                exact tb_139
              · obtain rfl : M = 140 := by omega
                exact tb_140
            · rcases Nat.lt_or_ge M 142 with h141_144 | h141_144
              · obtain rfl : M = 141 := by omega
                exact tb_141
              · rcases Nat.lt_or_ge M 143 with h142_144 | h142_144
                · obtain rfl : M = 142 := by omega
                  exact tb_142
                · obtain rfl : M = 143 := by omega
                  exact tb_143
          · rcases Nat.lt_or_ge M 146 with h144_149 | h144_149
            · rcases Nat.lt_or_ge M 145 with h144_146 | h144_146
              · obtain rfl : M = 144 := by omega
                exact tb_144
              · obtain rfl : M = 145 := by omega
                exact tb_145
            · rcases Nat.lt_or_ge M 147 with h146_149 | h146_149
              · obtain rfl : M = 146 := by omega
                exact tb_146
              · rcases Nat.lt_or_ge M 148 with h147_149 | h147_149
                · obtain rfl : M = 147 := by omega
                  exact tb_147
                · obtain rfl : M = 148 := by omega
                  exact tb_148
theorem tb_pc0 (M : Nat) (hM : M < 149) : (rx_e (rx_tt.getD M []) 0).1 = 0 := by
  have h : (List.range 149).all (fun M => decide ((rx_e (rx_tt.getD M []) 0).1 = 0)) = true := by decide +kernel
  simpa using List.all_eq_true.mp h M (List.mem_range.mpr hM)
section SDM
variable {b h Lx : Nat} {xs : Nat → Int32} {tc : Nat → ClassId} {D : va_G}
set_option maxHeartbeats 1000000 in
/-- every call of the small machine is a contract of the machine -/
theorem sd_met (hmna : sd_mna) (l : Launch) (hbh : b < h) : ∀ d, sd_call b h Lx xs tc D l (rx_R Lx xs d) d
  | 0 => fun _ _ _ _ _ hc => hc.elim
  | d + 1 => by
    intro M a w Q hM hc
    obtain ⟨hen, hrun⟩ := hc
    obtain ⟨hdk, hwk, hmk⟩ := tb_all M hM
    refine Met.ofW (cc := mC M) (maxL := mL M) (ret := mR M) (sd_ne hmk) rfl ?_
    intro p e s m args below meth c s₁ B hml hv
    obtain ⟨rfl, hP, hz, hK, hX, hN⟩ := hv
    have hts := atoms_spec (ws := rx_ws M) B.pre
    have hown : s.vm.findClass (mN M).cls = some m.cls := findClass_of_methodNamed B.named
    have hnm : meth.name = (mN M).name := (name_of_methodNamed B.named B.method).1
    have C : sd_C p s m (a.map (rx_cv b h)).toArray meth c (mN M).cls (mN M).name (mC M) (mL M) (mR M) b h Lx xs tc D := ⟨B.exec, B.bytes, hml, hown, fun w hw => hts w (List.mem_cons_of_mem _ hw), hK, hX, hbh, by omega, hN, hnm, B.notSynchronized, B.returns⟩
    have key := hrun (sd_G p l e (headSpec (rx_ws M) (sd_rm (d + 1) M)).room s m (a.map (rx_cv b h)).toArray below meth c (MQ below (sd_Qc b h Lx xs tc D Q) (a.map (rx_cv b h)).toArray s (mA M).1 (mA M).2 (fun q => h ≤ q)) b h tc D (mL M) (rx_tt.getD M []))
      (sd_step hmna C hdk hwk (fun M hM => (tb_all M hM).2.2) (sd_met hmna l hbh d) (Nat.le_refl _) (by show 40 * d + 40 ≤ 40 * (d + 1); omega)
        (fun x w' H locs cells slots pc ls hd hty hq hP' hz' hS' hcc hcs => by
          obtain ⟨ty, hty, hna⟩ := hty
          refine W.widen (k := (mA M).1) (n := (mA M).2) hcc hcs ?_
          exact W.zret B.exec B.bytes (B.returns.trans hty) hna (fun t ht hW => ⟨some (.int x), w', rfl, hq, sd_at C hP' hz' hS' t ht hW, hS'.F ht⟩) hS'.2.2 hd)
        (fun w' H locs cells slots pc ls hd hty hq hP' hz' hS' hcc hcs => by
          refine W.widen (k := (mA M).1) (n := (mA M).2) hcc hcs ?_
          exact W.vret B.exec B.bytes (B.returns.trans hty) (fun t ht hW => ⟨none, w', rfl, hq, sd_at C hP' hz' hS' t ht hW, hS'.F ht⟩) hS'.2.2 hd))
    rw [lg_entry_eq]
    have k := key s.heap [] _ hP hz va_S.rf (has_en b h hen) (Nat.zero_le _) (Nat.zero_le _)
    have h0 : (rx_e (rx_tt.getD M []) 0).1 = 0 := tb_pc0 M hM
    rw [h0] at k
    exact k
end SDM
end
section
/-! PART 12: the law, out of one run of the small machine -/
/-! THE CLAIM OUT OF ONE WALK OF THE LAW'S BODY. Your part is whole_start (and what it stands on); all else here is the same for every law, but numbers. -/
def R_law : String := "TrailStoreLaw"
def lw_P (b : Addr) (xs : List Int32) (args : Array Value) (s : State) : Prop := args = #[.ref b] ∧ s.IntsAt b xs ∧ xs.length ≤ 2049 ∧ (Jvm.Cond.and given_1 narrow_1).before args s = true
def lw_Q (_ : Array Value) (s : State) (o : Outcome) (t : State) : Prop := o = .returned (some (.int 1)) ∧ Framed s o t [] 600000 7302250
def lw_Z (below : List Frame) (a : Array Value) (s : State) : State → Prop := fun t => ∃ o, t.status = .running ∧ Ended t below o ∧ lw_Q a s o t
/-- the law's own end, with 1 on the stack, nothing written that was there before, its room as the claim has it -/
theorem lw_ret {p : Program} {l : Launch} {e : Env} {s : State} {m : MethodId} {below : List Frame} {meth : Method} {c : Code} {b : Nat} (hx : p.tables.exec = Jvm.exec) (hb : c.code = code) (hr : meth.sig.returnType = ret) (hlocks : meth.locks = false) {pc : Nat} {H : Heap} {ls : Array Slot} (hdg : decode code pc = .ok (.ireturn, 1)) : W p l e room_1 s m #[Value.ref b] below meth c H [] 600000 7302250 (lw_Z below #[Value.ref b] s) (F0 m pc ls [.int 1]) := by
  intro T hT X
  obtain ⟨fs, hret, hrun, hended, hW, hframe⟩ := X.leave (v := some (.int 1)) (hlocks := hlocks) (fun h => by rw [hr] at h; cases h)
  have hmeth' : T.vm.method? m = some meth := X.method'
  refine ⟨T.setFrames fs, ?_, .returned (some (.int 1)), hrun, hended, rfl, ⟨_, rfl⟩, hW, hframe⟩
  jvm_step X.here [X.here.top, hx, hb, hdg, hmeth', hr, ret, narrow_b1]
  (try refine ⟨rfl, ?_⟩); (try refine ⟨rfl, ?_⟩)
  first | (intro acts; rw [hret _ acts rfl rfl rfl]) | rw [hret _ _ rfl rfl rfl]
  exact Steps.refl _
/-- what holds at the law's entry: the machine, the code, the tables' words (any of lw_tbl by 'hts w (by decide +kernel)'), the script of L ints xs at the cell b, what the Statement gives of the start (any of its parts by flat_of_before) -/
def lw_At (p : Program) (s : State) (m : MethodId) (meth : Method) (c : Code) (b L : Nat) (xs : Nat → Int32) : Prop :=
  p.tables.exec = Jvm.exec ∧ c.code = code ∧ meth.sig.returnType = ret ∧ c.maxLocals = 4 ∧ s.vm.findClass R_law = some m.cls ∧ (∀ w ∈ lw_tbl, w.before #[Value.ref b] s = true) ∧ va_X b L xs s s.heap ∧ b < s.heap.size ∧ meth.locks = false ∧ (Jvm.Cond.and given_1 narrow_1).before #[Value.ref b] s = true
theorem wl_0 (nm : String) : wk_l "TrailStoreLaw" nm rt_149_0 := ⟨⟨⟨rfl, rfl⟩, ⟨rfl, rfl⟩, ⟨rfl, rfl⟩⟩, trivial, trivial, trivial, ⟨rfl, rfl⟩, ⟨rfl, rfl⟩, trivial, ⟨⟨rfl, rfl⟩, ⟨rfl, rfl⟩, ⟨rfl, rfl⟩⟩, trivial, trivial, trivial, ⟨rfl, rfl⟩, ⟨rfl, rfl⟩, trivial, trivial, trivial, trivial⟩
theorem wl_1 (nm : String) : wk_l "TrailStoreLaw" nm rt_149_1 := ⟨trivial, trivial, trivial, trivial, trivial, trivial, trivial, trivial, trivial, trivial, trivial, trivial, trivial, trivial, trivial, trivial, trivial⟩
theorem wl_2 (nm : String) : wk_l "TrailStoreLaw" nm rt_149_2 := ⟨trivial, trivial, trivial, trivial, trivial, trivial, trivial, trivial, trivial, trivial, trivial, ⟨rfl, rfl⟩, trivial, trivial, trivial, trivial, trivial⟩
theorem wl_3 (nm : String) : wk_l "TrailStoreLaw" nm rt_149_3 := ⟨trivial, trivial, trivial, ⟨rfl, rfl⟩, trivial, trivial, trivial, trivial, trivial, trivial, trivial, trivial, trivial, trivial, trivial, trivial, trivial⟩
theorem wl_4 (nm : String) : wk_l "TrailStoreLaw" nm rt_149_4 := ⟨trivial, trivial, trivial, ⟨rfl, rfl⟩, trivial, trivial, trivial, trivial, trivial, trivial, trivial, ⟨rfl, rfl⟩, trivial, trivial, trivial, trivial, trivial⟩
theorem wl_5 (nm : String) : wk_l "TrailStoreLaw" nm rt_149_5 := ⟨trivial, trivial, trivial, trivial, trivial, ⟨rfl, rfl⟩, trivial, trivial, trivial, trivial, trivial, trivial, ⟨rfl, rfl⟩, trivial, trivial, trivial, trivial⟩
theorem wl_6 (nm : String) : wk_l "TrailStoreLaw" nm rt_149_6 := ⟨trivial, trivial, trivial, trivial, trivial, trivial, ⟨rfl, rfl⟩, trivial, trivial, trivial, trivial, trivial, trivial, ⟨rfl, rfl⟩, trivial, trivial, trivial⟩
theorem wl_7 (nm : String) : wk_l "TrailStoreLaw" nm rt_149_7 := ⟨trivial, trivial, ⟨rfl, rfl⟩, trivial, ⟨rfl, rfl⟩, trivial, trivial, trivial, trivial, ⟨rfl, rfl⟩, trivial, ⟨rfl, rfl⟩, trivial, trivial, trivial, trivial, trivial⟩
theorem wl_8 (nm : String) : wk_l "TrailStoreLaw" nm rt_149_8 := ⟨⟨rfl, rfl⟩, trivial, ⟨rfl, rfl⟩, trivial, trivial, trivial, trivial, trivial, trivial, trivial, trivial, trivial, ⟨rfl, rfl⟩, trivial, trivial, trivial, trivial⟩
theorem wl_9 (nm : String) : wk_l "TrailStoreLaw" nm rt_149_9 := ⟨trivial, trivial, trivial, ⟨rfl, rfl⟩, trivial, trivial, trivial, trivial, trivial, trivial, trivial, trivial, trivial, ⟨rfl, rfl⟩, trivial, trivial, trivial⟩
theorem wl_10 (nm : String) : wk_l "TrailStoreLaw" nm rt_149_10 := ⟨trivial, trivial, trivial, trivial, ⟨rfl, rfl⟩, trivial, trivial, trivial, trivial, trivial, trivial, trivial, trivial, trivial, ⟨rfl, rfl⟩, trivial, trivial⟩
theorem wl_11 (nm : String) : wk_l "TrailStoreLaw" nm rt_149_11 := ⟨trivial, trivial, trivial, trivial, trivial, ⟨rfl, rfl⟩, trivial, trivial, trivial, trivial, ⟨rfl, rfl⟩, trivial, ⟨rfl, rfl⟩, trivial, trivial, trivial, trivial⟩
theorem wl_12 (nm : String) : wk_l "TrailStoreLaw" nm rt_149_12 := ⟨trivial, ⟨rfl, rfl⟩, trivial, ⟨rfl, rfl⟩, trivial, trivial, trivial, trivial, trivial, trivial, trivial, trivial, trivial, ⟨rfl, rfl⟩, trivial, trivial, trivial⟩
theorem wl_13 (nm : String) : wk_l "TrailStoreLaw" nm rt_149_13 := ⟨trivial, trivial, trivial, trivial, ⟨rfl, rfl⟩, trivial, trivial, trivial, trivial, trivial, trivial, trivial, trivial, trivial, trivial, trivial, trivial⟩
theorem wl_14 (nm : String) : wk_l "TrailStoreLaw" nm rt_149_14 := ⟨trivial, trivial, trivial, ⟨rfl, rfl⟩, trivial, trivial, trivial, trivial, trivial, trivial, trivial, trivial, trivial, trivial, trivial, ⟨rfl, rfl⟩, trivial⟩
theorem wl_15 (nm : String) : wk_l "TrailStoreLaw" nm rt_149_15 := ⟨trivial, trivial, trivial, trivial, trivial, trivial, trivial, trivial, trivial, trivial, trivial, trivial, trivial, trivial, trivial, trivial, trivial⟩
theorem wl_16 (nm : String) : wk_l "TrailStoreLaw" nm rt_149_16 := ⟨trivial, trivial, trivial, ⟨rfl, rfl⟩, trivial, trivial, trivial, trivial, trivial, trivial, trivial, trivial, trivial, trivial, trivial, trivial, trivial⟩
theorem wl_17 (nm : String) : wk_l "TrailStoreLaw" nm rt_149_17 := ⟨trivial, trivial, trivial, trivial, ⟨rfl, rfl⟩, trivial, trivial, trivial, trivial, ⟨rfl, rfl⟩, trivial, ⟨rfl, rfl⟩, trivial, trivial, trivial, trivial, trivial⟩
theorem wl_18 (nm : String) : wk_l "TrailStoreLaw" nm rt_149_18 := ⟨⟨rfl, rfl⟩, trivial, ⟨rfl, rfl⟩, trivial, trivial, trivial, trivial, trivial, trivial, trivial, trivial, trivial, ⟨rfl, rfl⟩, trivial, trivial, trivial, trivial⟩
theorem wl_19 (nm : String) : wk_l "TrailStoreLaw" nm rt_149_19 := ⟨trivial, trivial, trivial, ⟨rfl, rfl⟩, trivial, trivial, trivial, trivial, trivial, trivial, trivial, trivial, trivial, trivial, trivial, trivial, trivial⟩
theorem wl_20 (nm : String) : wk_l "TrailStoreLaw" nm rt_149_20 := ⟨trivial, trivial, ⟨rfl, rfl⟩, trivial, trivial, trivial, trivial, trivial, trivial, trivial, trivial, trivial, trivial, trivial, ⟨rfl, rfl⟩, trivial, trivial⟩
theorem wl_21 (nm : String) : wk_l "TrailStoreLaw" nm rt_149_21 := ⟨trivial, trivial, trivial, trivial, trivial, trivial, trivial, trivial, trivial, trivial, trivial, trivial, trivial, ⟨rfl, rfl⟩, trivial, trivial, trivial⟩
theorem wl_22 (nm : String) : wk_l "TrailStoreLaw" nm rt_149_22 := ⟨trivial, trivial, trivial, trivial, trivial, trivial, trivial, trivial, trivial, ⟨rfl, rfl⟩, trivial, trivial, trivial, trivial, trivial, trivial, trivial⟩
theorem wl_23 (nm : String) : wk_l "TrailStoreLaw" nm rt_149_23 := ⟨trivial, trivial, trivial, trivial, trivial, trivial, trivial, trivial, ⟨rfl, rfl⟩, trivial, trivial, trivial, trivial, trivial, trivial, trivial, trivial⟩
theorem wl_24 (nm : String) : wk_l "TrailStoreLaw" nm rt_149_24 := ⟨trivial, trivial, trivial, trivial, ⟨rfl, rfl⟩, trivial, trivial, trivial, trivial, ⟨rfl, rfl⟩, trivial, ⟨rfl, rfl⟩, trivial, trivial, trivial, trivial, trivial⟩
theorem wl_25 (nm : String) : wk_l "TrailStoreLaw" nm rt_149_25 := ⟨trivial, trivial, trivial, trivial⟩
theorem wl_all (nm : String) : ∀ l ∈ rt_149, wk_l "TrailStoreLaw" nm l := by
  intro l hl
  simp only [rt_149, List.mem_cons, List.not_mem_nil, or_false] at hl
  rcases hl with rfl | rfl | rfl | rfl | rfl | rfl | rfl | rfl | rfl | rfl | rfl | rfl | rfl | rfl | rfl | rfl | rfl | rfl | rfl | rfl | rfl | rfl | rfl | rfl | rfl | rfl
  · exact wl_0 nm
  · exact wl_1 nm
  · exact wl_2 nm
  · exact wl_3 nm
  · exact wl_4 nm
  · exact wl_5 nm
  · exact wl_6 nm
  · exact wl_7 nm
  · exact wl_8 nm
  · exact wl_9 nm
  · exact wl_10 nm
  · exact wl_11 nm
  · exact wl_12 nm
  · exact wl_13 nm
  · exact wl_14 nm
  · exact wl_15 nm
  · exact wl_16 nm
  · exact wl_17 nm
  · exact wl_18 nm
  · exact wl_19 nm
  · exact wl_20 nm
  · exact wl_21 nm
  · exact wl_22 nm
  · exact wl_23 nm
  · exact wl_24 nm
  · exact wl_25 nm
theorem law_K {s : State} {args : Array Value} (hts : ∀ w ∈ lw_tbl, w.before args s = true) : ∃ (D : va_G) (tc : Nat → ClassId), va_K D rx_cl (rx_tys tc) s ∧ (Cond.arrayOver (.array .byte)).before #[] s = true := by
  have hw : ∀ w ∈ rx_wall, w.before args s = true := fun w h => hts w (List.mem_filter.mp h).1
  obtain ⟨c0, i0, k0⟩ := u_known (C := cn_0) (T := cf_0) (N := 5) (n := 5) hw ly_0 (hw _ (wg_in (k := 297) (w := .instantiable cn_0 5) ⟨rfl, rfl⟩))
  obtain ⟨c1, i1, k1⟩ := u_known (C := cn_1) (T := cf_1) (N := 11) (n := 11) hw ly_1 (hw _ (wg_in (k := 77) (w := .instantiable cn_1 11) ⟨rfl, rfl⟩))
  obtain ⟨c2, i2, k2⟩ := u_known (C := cn_2) (T := cf_2) (N := 4) (n := 4) hw ly_2 (hw _ (wg_in (k := 137) (w := .instantiable cn_2 4) ⟨rfl, rfl⟩))
  obtain ⟨c3, i3, k3⟩ := u_known (C := cn_3) (T := cf_3) (N := 6) (n := 6) hw ly_3 (hw _ (wg_in (k := 226) (w := .instantiable cn_3 6) ⟨rfl, rfl⟩))
  obtain ⟨c4, i4, k4⟩ := u_known (C := cn_4) (T := cf_4) (N := 9) (n := 9) hw ly_4 (hw _ (wg_in (k := 220) (w := .instantiable cn_4 9) ⟨rfl, rfl⟩))
  obtain ⟨c5, i5, k5⟩ := u_known (C := cn_5) (T := cf_5) (N := 11) (n := 11) hw ly_5 (hw _ (wg_in (k := 131) (w := .instantiable cn_5 11) ⟨rfl, rfl⟩))
  obtain ⟨c6, i6, k6⟩ := u_known (C := cn_6) (T := cf_6) (N := 14) (n := 14) hw ly_6 (hw _ (wg_in (k := 69) (w := .instantiable cn_6 14) ⟨rfl, rfl⟩))
  obtain ⟨c7, i7, k7⟩ := u_known (C := cn_7) (T := cf_7) (N := 51) (n := 51) hw ly_7 (hw _ (wg_in (k := 735) (w := .instantiable cn_7 51) ⟨rfl, rfl⟩))
  obtain ⟨a0, b0, d0, e0, f0, g0⟩ := Cond.arrayClass_spec (hw _ (wg_in wo_ar.1))
  obtain ⟨a1, b1, d1, e1, f1, g1⟩ := Cond.arrayClass_spec (hw _ (wg_in wo_ar.2.1))
  obtain ⟨a2, b2, d2, e2, f2, g2⟩ := Cond.arrayClass_spec (hw _ (wg_in wo_ar.2.2))
  have hao : (Cond.arrayOver (.array .byte)).before args s = true := hts _ (cw_in rw_9 (List.mem_of_getElem? (i := 9) rfl) _ (List.mem_of_getElem? (i := 15) rfl))
  obtain ⟨d3, a3, b3, -, -, f3, g3, e3⟩ := arrayOverA_spec hao
  refine ⟨(fun k => if k = 0 then c0 else if k = 1 then c1 else if k = 2 then c2 else if k = 3 then c3 else if k = 4 then c4 else if k = 5 then c5 else if k = 6 then c6 else c7, fun k => if k = 0 then i0 else if k = 1 then i1 else if k = 2 then i2 else if k = 3 then i3 else if k = 4 then i4 else if k = 5 then i5 else if k = 6 then i6 else i7), fun k => if k = 0 then a0 else if k = 1 then a1 else if k = 2 then a2 else a3, ⟨fun c q hq => ?_, fun k q hq => ?_⟩, hao⟩
  · match c, hq with
    | 0, hq => cases hq; exact k0
    | 1, hq => cases hq; exact k1
    | 2, hq => cases hq; exact k2
    | 3, hq => cases hq; exact k3
    | 4, hq => cases hq; exact k4
    | 5, hq => cases hq; exact k5
    | 6, hq => cases hq; exact k6
    | 7, hq => cases hq; exact k7
    | k + 8, hq => simp [rx_cl] at hq
  · match k, hq with
    | 0, hq => cases hq; exact ⟨fun n z => ⟨fun k h => (by cases h), b0, f0, d0, g0⟩, e0⟩
    | 1, hq => cases hq; exact ⟨fun n z => ⟨fun k h => (by cases h), b1, f1, d1, g1⟩, e1⟩
    | 2, hq => cases hq; exact ⟨fun n z => ⟨fun k h => (by cases h), b2, f2, d2, g2⟩, e2⟩
    | 3, hq => cases hq; exact ⟨fun n z => ⟨fun k h => (by cases h), b3, f3, d3, g3⟩, e3⟩
    | k + 4, hq => simp [rx_tys] at hq
set_option maxHeartbeats 1000000 in
theorem law_W (hmna : sd_mna) {p : Program} {e : Env} {s : State} {m : MethodId} {below : List Frame} {meth : Method} {c : Code} (l : Launch) {b L : Nat} {xs : Nat → Int32} (C0 : lw_At p s m meth c b L xs)
    (hrun : rx_P (rx_R L xs 12) L xs rt_149 (some .boolean) (600000, 7302250) (fun r _ => r = some (.int 1)) 0 (rx_l0 [.ref 0] 4) [] [] 0 0) :
    W p l e room_1 s m #[Value.ref b] below meth c s.heap [] 0 0 (lw_Z below #[Value.ref b] s) (entryFrame m ([Value.ref b] : List Value).toArray 4) := by
  obtain ⟨hx, hb, hr, hml, hown, hts, hX, hbl, hlocks, hgv⟩ := C0
  obtain ⟨D, tc, hK, hao⟩ := law_K hts
  have C : sd_C p s m #[Value.ref b] meth c "TrailStoreLaw" meth.name code 4 (some .boolean) b s.heap.size L xs tc D := ⟨hx, hb, hml, hown, fun w h => hts w (List.mem_filter.mp h).1, hK, hX, hbl, Nat.le_refl _, ⟨fun o n y k hm => va_Nw.of rfl (hts _ hm), hao⟩, rfl, hlocks, hr⟩
  have key := hrun (sd_G p l e room_1 s m #[Value.ref b] below meth c (lw_Z below #[Value.ref b] s) b s.heap.size tc D 4 rt_149)
    (sd_step (R := room_1) (e := e) (below := below) (Qw := lw_Z below #[Value.ref b] s) (Q := fun r _ => r = some (.int 1)) hmna C (dk_all (n := 416) (by decide) dk_149) (wk_at (wl_all meth.name)) (fun M hM => (tb_all M hM).2.2) (sd_met hmna l hbl 12) (by decide) (by decide)
      (fun x w' H locs cells slots pc ls hd hty hq hP' hz' hS' hcc hcs => by
        have hx1 : x = 1 := by
          have h1 : some (Value.int x) = some (Value.int 1) := hq
          cases h1
          rfl
        subst hx1
        refine va_forget (fun q hq => hS'.2.2 q hq) ?_
        refine W.widen (k := 600000) (n := 7302250) hcc hcs ?_
        exact lw_ret hx hb hr hlocks hd)
      (fun w' H locs cells slots pc ls hd hty => by cases hty))
  rw [lg_entry_eq]
  have k := key s.heap [] _ (fun k q hk => by simp [rx_cw] at hk) rfl va_S.rf (has_en b s.heap.size (l := [.ref 0]) (by decide)) (Nat.zero_le _) (Nat.zero_le _)
  exact k
end
section
/-! PART 20: rules, one an instruction: a method that makes nothing (cells and slots stay 0) -/
/-- a run of a method that makes nothing, d calls deep at most below it -/
def pz (Lx : Nat) (xs : Nat → Int32) (d : Nat) (t : List (List rI)) (ret : Option FieldType) (Q : rQ) (i : Nat) (L : List (Option Value)) (st : List Value) (w : pW) : Prop := rx_P (rx_R Lx xs d) Lx xs t ret (0, 0) Q i L st w 0 0
section PZ
variable {Lx : Nat} {xs : Nat → Int32} {d : Nat} {t : List (List rI)} {ret : Option FieldType} {Q : rQ} {i j pc ln : Nat} {info : List Nat} {v : Int32} {L : List (Option Value)} {st : List Value} {w : pW}
theorem pz_en {M : Nat} {args : List Value} (hl : ((rx_en args).length ≤ mL M) ∧ mA M = (0, 0)) (ht : rx_tt.getD M [] = t) (hr : mR M = ret) (k : pz Lx xs d t ret Q 0 (rx_l0 args (mL M)) [] w) : rx_R Lx xs (d + 1) M args w Q := by
  refine ⟨hl.1, ?_⟩
  rw [hl.2, ht, hr]
  exact k
theorem pz_st (h : rx_st (rx_R Lx xs d) Lx xs t ret (0, 0) Q (rx_P (rx_R Lx xs d) Lx xs t ret (0, 0) Q) i L st w 0 0) : pz Lx xs d t ret Q i L st w := px_st (mo_R Lx xs d) h
theorem pz_ic {n : Int} (h : rx_e t i = (pc, .iconst n, ln, info, v)) (k : pz Lx xs d t ret Q (i + 1) L (.int v :: st) w) : pz Lx xs d t ret Q i L st w := pz_st (by unfold rx_st; rw [h]; exact k)
theorem pz_bi {n : Int} (h : rx_e t i = (pc, .bipush n, ln, info, v)) (k : pz Lx xs d t ret Q (i + 1) L (.int v :: st) w) : pz Lx xs d t ret Q i L st w := pz_st (by unfold rx_st; rw [h]; exact k)
theorem pz_si {n : Int} (h : rx_e t i = (pc, .sipush n, ln, info, v)) (k : pz Lx xs d t ret Q (i + 1) L (.int v :: st) w) : pz Lx xs d t ret Q i L st w := pz_st (by unfold rx_st; rw [h]; exact k)
theorem pz_l2 {n : Nat} (h : rx_e t i = (pc, .ldc2_w n, ln, info, v)) (k : pz Lx xs d t ret Q (i + 1) L (.long (Int64.ofNat (rx_at info 0)) :: st) w) : pz Lx xs d t ret Q i L st w := pz_st (by unfold rx_st; rw [h]; exact k)
theorem pz_il {n : Nat} {x : Int32} (h : rx_e t i = (pc, .iload n, ln, info, v)) (hl : L[n]? = some (some (.int x))) (k : pz Lx xs d t ret Q (i + 1) L (.int x :: st) w) : pz Lx xs d t ret Q i L st w := pz_st (by unfold rx_st; rw [h]; simp only [rx_ldi, hl]; exact k)
theorem pz_iln {n : Fin 4} {x : Int32} (h : rx_e t i = (pc, .iload_n n, ln, info, v)) (hl : L[n.val]? = some (some (.int x))) (k : pz Lx xs d t ret Q (i + 1) L (.int x :: st) w) : pz Lx xs d t ret Q i L st w := pz_st (by unfold rx_st; rw [h]; simp only [rx_ldi, hl]; exact k)
theorem pz_lln {n : Fin 4} {x : Int64} (h : rx_e t i = (pc, .lload_n n, ln, info, v)) (hl : L[n.val]? = some (some (.long x))) (k : pz Lx xs d t ret Q (i + 1) L (.long x :: st) w) : pz Lx xs d t ret Q i L st w := pz_st (by unfold rx_st; rw [h]; simp only [rx_ldl, hl]; exact k)
theorem pz_al {n : Nat} {x : Nat} (h : rx_e t i = (pc, .aload n, ln, info, v)) (hl : L[n]? = some (some (.ref x))) (k : pz Lx xs d t ret Q (i + 1) L (.ref x :: st) w) : pz Lx xs d t ret Q i L st w := pz_st (by unfold rx_st; rw [h]; simp only [rx_lda, hl]; exact k)
theorem pz_aln {n : Fin 4} {x : Nat} (h : rx_e t i = (pc, .aload_n n, ln, info, v)) (hl : L[n.val]? = some (some (.ref x))) (k : pz Lx xs d t ret Q (i + 1) L (.ref x :: st) w) : pz Lx xs d t ret Q i L st w := pz_st (by unfold rx_st; rw [h]; simp only [rx_lda, hl]; exact k)
theorem pz_is {n : Nat} {x : Int32} {L' : List (Option Value)} (h : rx_e t i = (pc, .istore n, ln, info, v)) (hw : rx_nw L n = true ∧ n < L.length) (hL : L.set n (some (.int x)) = L') (k : pz Lx xs d t ret Q (i + 1) L' st w) : pz Lx xs d t ret Q i L (.int x :: st) w := pz_st (by unfold rx_st; rw [h]; subst hL; exact ⟨hw, k⟩)
theorem pz_isn {n : Fin 4} {x : Int32} {L' : List (Option Value)} (h : rx_e t i = (pc, .istore_n n, ln, info, v)) (hw : rx_nw L n.val = true ∧ n.val < L.length) (hL : L.set n.val (some (.int x)) = L') (k : pz Lx xs d t ret Q (i + 1) L' st w) : pz Lx xs d t ret Q i L (.int x :: st) w := pz_st (by unfold rx_st; rw [h]; subst hL; exact ⟨hw, k⟩)
theorem pz_inc {n : Nat} {m : Int} {x : Int32} {L' : List (Option Value)} (h : rx_e t i = (pc, .iinc n m, ln, info, v)) (hl : L[n]? = some (some (.int x))) (hw : rx_nw L n = true) (hL : L.set n (some (.int (x + v))) = L') (k : pz Lx xs d t ret Q (i + 1) L' st w) : pz Lx xs d t ret Q i L st w := pz_st (by unfold rx_st; rw [h]; subst hL; simp only [rx_inc, hl]; exact ⟨hw, k⟩)
theorem pz_add {x y : Int32} (h : rx_e t i = (pc, .iadd, ln, info, v)) (k : pz Lx xs d t ret Q (i + 1) L (.int (x + y) :: st) w) : pz Lx xs d t ret Q i L (.int y :: .int x :: st) w := pz_st (by unfold rx_st; rw [h]; exact k)
theorem pz_sub {x y : Int32} (h : rx_e t i = (pc, .isub, ln, info, v)) (k : pz Lx xs d t ret Q (i + 1) L (.int (x - y) :: st) w) : pz Lx xs d t ret Q i L (.int y :: .int x :: st) w := pz_st (by unfold rx_st; rw [h]; exact k)
theorem pz_mul {x y : Int32} (h : rx_e t i = (pc, .imul, ln, info, v)) (k : pz Lx xs d t ret Q (i + 1) L (.int (x * y) :: st) w) : pz Lx xs d t ret Q i L (.int y :: .int x :: st) w := pz_st (by unfold rx_st; rw [h]; exact k)
theorem pz_and {x y : Int32} (h : rx_e t i = (pc, .iand, ln, info, v)) (k : pz Lx xs d t ret Q (i + 1) L (.int (x &&& y) :: st) w) : pz Lx xs d t ret Q i L (.int y :: .int x :: st) w := pz_st (by unfold rx_st; rw [h]; exact k)
theorem pz_or {x y : Int32} (h : rx_e t i = (pc, .ior, ln, info, v)) (k : pz Lx xs d t ret Q (i + 1) L (.int (x ||| y) :: st) w) : pz Lx xs d t ret Q i L (.int y :: .int x :: st) w := pz_st (by unfold rx_st; rw [h]; exact k)
theorem pz_div {x y : Int32} (h : rx_e t i = (pc, .idiv, ln, info, v)) (h0 : ¬ y = 0) (k : pz Lx xs d t ret Q (i + 1) L (.int (x / y) :: st) w) : pz Lx xs d t ret Q i L (.int y :: .int x :: st) w := pz_st (by unfold rx_st; rw [h]; exact ⟨h0, k⟩)
theorem pz_rem {x y : Int32} (h : rx_e t i = (pc, .irem, ln, info, v)) (h0 : ¬ y = 0) (k : pz Lx xs d t ret Q (i + 1) L (.int (x - x / y * y) :: st) w) : pz Lx xs d t ret Q i L (.int y :: .int x :: st) w := pz_st (by unfold rx_st; rw [h]; exact ⟨h0, k⟩)
theorem pz_shl {x y : Int32} (h : rx_e t i = (pc, .ishl, ln, info, v)) (k : pz Lx xs d t ret Q (i + 1) L (.int (x <<< (y &&& 31)) :: st) w) : pz Lx xs d t ret Q i L (.int y :: .int x :: st) w := pz_st (by unfold rx_st; rw [h]; exact k)
theorem pz_shr {x y : Int32} (h : rx_e t i = (pc, .ishr, ln, info, v)) (k : pz Lx xs d t ret Q (i + 1) L (.int (x >>> (y &&& 31)) :: st) w) : pz Lx xs d t ret Q i L (.int y :: .int x :: st) w := pz_st (by unfold rx_st; rw [h]; exact k)
theorem pz_ush {x y : Int32} (h : rx_e t i = (pc, .iushr, ln, info, v)) (k : pz Lx xs d t ret Q (i + 1) L (.int (x.toUInt32 >>> (y.toUInt32 &&& Int32.toUInt32 31)).toInt32 :: st) w) : pz Lx xs d t ret Q i L (.int y :: .int x :: st) w := pz_st (by unfold rx_st; rw [h]; exact k)
theorem pz_i2b {x : Int32} (h : rx_e t i = (pc, .i2b, ln, info, v)) (k : pz Lx xs d t ret Q (i + 1) L (.int x.toInt8.toInt32 :: st) w) : pz Lx xs d t ret Q i L (.int x :: st) w := pz_st (by unfold rx_st; rw [h]; exact k)
theorem pz_i2l {x : Int32} (h : rx_e t i = (pc, .i2l, ln, info, v)) (k : pz Lx xs d t ret Q (i + 1) L (.long x.toInt64 :: st) w) : pz Lx xs d t ret Q i L (.int x :: st) w := pz_st (by unfold rx_st; rw [h]; exact k)
theorem pz_l2i {x : Int64} (h : rx_e t i = (pc, .l2i, ln, info, v)) (k : pz Lx xs d t ret Q (i + 1) L (.int x.toInt32 :: st) w) : pz Lx xs d t ret Q i L (.long x :: st) w := pz_st (by unfold rx_st; rw [h]; exact k)
theorem pz_ladd {x y : Int64} (h : rx_e t i = (pc, .ladd, ln, info, v)) (k : pz Lx xs d t ret Q (i + 1) L (.long (x + y) :: st) w) : pz Lx xs d t ret Q i L (.long y :: .long x :: st) w := pz_st (by unfold rx_st; rw [h]; exact k)
theorem pz_lsub {x y : Int64} (h : rx_e t i = (pc, .lsub, ln, info, v)) (k : pz Lx xs d t ret Q (i + 1) L (.long (x - y) :: st) w) : pz Lx xs d t ret Q i L (.long y :: .long x :: st) w := pz_st (by unfold rx_st; rw [h]; exact k)
theorem pz_lshr {x : Int64} {y : Int32} (h : rx_e t i = (pc, .lshr, ln, info, v)) (k : pz Lx xs d t ret Q (i + 1) L (.long (x >>> (y.toInt64 &&& 63)) :: st) w) : pz Lx xs d t ret Q i L (.int y :: .long x :: st) w := pz_st (by unfold rx_st; rw [h]; exact k)
theorem pz_lush {x : Int64} {y : Int32} (h : rx_e t i = (pc, .lushr, ln, info, v)) (k : pz Lx xs d t ret Q (i + 1) L (.long (x.toUInt64 >>> (y.toInt64.toUInt64 &&& Int64.toUInt64 63)).toInt64 :: st) w) : pz Lx xs d t ret Q i L (.int y :: .long x :: st) w := pz_st (by unfold rx_st; rw [h]; exact k)
theorem pz_lcmp {x y : Int64} (h : rx_e t i = (pc, .lcmp, ln, info, v)) (k : pz Lx xs d t ret Q (i + 1) L (.int (lg_cmp x y) :: st) w) : pz Lx xs d t ret Q i L (.long y :: .long x :: st) w := pz_st (by unfold rx_st; rw [h]; exact k)
theorem pz_dup {x : Value} (h : rx_e t i = (pc, .dup, ln, info, v)) (hc : x.category = 1) (k : pz Lx xs d t ret Q (i + 1) L (x :: x :: st) w) : pz Lx xs d t ret Q i L (x :: st) w := pz_st (by unfold rx_st; rw [h]; exact ⟨hc, k⟩)
theorem pz_pop {x : Value} (h : rx_e t i = (pc, .pop, ln, info, v)) (hc : x.category = 1) (k : pz Lx xs d t ret Q (i + 1) L st w) : pz Lx xs d t ret Q i L (x :: st) w := pz_st (by unfold rx_st; rw [h]; exact ⟨hc, k⟩)
theorem pz_go {o : Int} (h : rx_e t i = (pc, .goto o, ln, [j], v)) (k : pz Lx xs d t ret Q j L st w) : pz Lx xs d t ret Q i L st w := pz_st (by unfold rx_st; rw [h]; exact k)
theorem pz_if {c : Jvm.ClassFile.Cond} {o : Int} {x : Int32} (h : rx_e t i = (pc, .ifCond c o, ln, [j], v)) (k : rx_cmp c x 0 (pz Lx xs d t ret Q j L st w) (pz Lx xs d t ret Q (i + 1) L st w)) : pz Lx xs d t ret Q i L (.int x :: st) w := pz_st (by unfold rx_st; rw [h]; exact k)
theorem pz_ifi {c : Jvm.ClassFile.Cond} {o : Int} {x y : Int32} (h : rx_e t i = (pc, .if_icmp c o, ln, [j], v)) (k : rx_cmp c x y (pz Lx xs d t ret Q j L st w) (pz Lx xs d t ret Q (i + 1) L st w)) : pz Lx xs d t ret Q i L (.int y :: .int x :: st) w := pz_st (by unfold rx_st; rw [h]; exact k)
theorem pz_tsw {df lo hi : Int} {offs : Array Int} {x : Int32} (h : rx_e t i = (pc, .tableswitch df lo hi offs, ln, info, v)) (k1 : x.toInt < lo ∨ hi < x.toInt → pz Lx xs d t ret Q (rx_at info 0) L st w) (k2 : ¬ x.toInt < lo → ¬ hi < x.toInt → pz Lx xs d t ret Q (rx_at info ((x.toInt - lo).toNat + 1)) L st w) : pz Lx xs d t ret Q i L (.int x :: st) w := pz_st (by unfold rx_st; rw [h]; exact ⟨k1, k2⟩)
theorem pz_get {n c f q o : Nat} {x : Value} (h : rx_e t i = (pc, .getfield n, ln, [c, f, q], v)) (hg : gt_f w c o f = some x) (k : pz Lx xs d t ret Q (i + 1) L (x :: st) w) : pz Lx xs d t ret Q i L (.ref o :: st) w := pz_st (by
  unfold rx_st
  rw [h]
  show (match gt_f w c o f with
    | some x => rx_P (rx_R Lx xs d) Lx xs t ret (0, 0) Q (i + 1) L (x :: st) w 0 0
    | _ => False)
  rw [hg]
  exact k)
theorem pz_put {n c f q o : Nat} {x : Value} {w' : pW} (h : rx_e t i = (pc, .putfield n, ln, [c, f, q], v)) (hg : pt_f w c o f x = some w') (hn : narrow (rx_ty c f) x = x ∧ fits (rx_ty c f) x = true) (k : pz Lx xs d t ret Q (i + 1) L st w') : pz Lx xs d t ret Q i L (x :: .ref o :: st) w := pz_st (by
  unfold rx_st
  rw [h]
  show (match pt_f w c o f x with
    | some w' => (narrow (rx_ty c f) x = x ∧ fits (rx_ty c f) x = true) ∧ rx_P (rx_R Lx xs d) Lx xs t ret (0, 0) Q (i + 1) L st w' 0 0
    | _ => False)
  rw [hg]
  exact ⟨hn, k⟩)
theorem pz_ial {o n : Nat} {f : Nat → Int32} {x : Int32} (h : rx_e t i = (pc, .iaload, ln, info, v)) (hg : gt_a w (o + 1) = some (0, n, .inl f)) (hi : vp_in x n) (k : pz Lx xs d t ret Q (i + 1) L (.int (f x.toNatClampNeg) :: st) w) : pz Lx xs d t ret Q i L (.int x :: .ref (o + 1) :: st) w := pz_st (by
  unfold rx_st
  rw [h]
  simp only [rx_ald, hg]
  exact ⟨rfl, hi, k⟩)
theorem pz_bal {o n tg : Nat} {f : Nat → Int32} {x : Int32} (h : rx_e t i = (pc, .baload, ln, info, v)) (hg : gt_a w (o + 1) = some (tg, n, .inl f)) (ht : (tg == 1 || tg == 2) = true) (hi : vp_in x n) (k : pz Lx xs d t ret Q (i + 1) L (.int (f x.toNatClampNeg) :: st) w) : pz Lx xs d t ret Q i L (.int x :: .ref (o + 1) :: st) w := pz_st (by
  unfold rx_st
  rw [h]
  simp only [rx_ald, hg]
  exact ⟨ht, hi, k⟩)
theorem pz_aal {o n y : Nat} {f : Nat → Option Nat} {x : Int32} (h : rx_e t i = (pc, .aaload, ln, info, v)) (hg : gt_a w o = some (3, n, .inr (.inr (.inr (.inr f))))) (hi : vp_in x n) (hy : f x.toNatClampNeg = some y) (k : pz Lx xs d t ret Q (i + 1) L (.ref y :: st) w) : pz Lx xs d t ret Q i L (.int x :: .ref o :: st) w := pz_st (by
  unfold rx_st
  rw [h]
  simp only [rx_aald, hg]
  exact ⟨hi, y, hy, k⟩)
theorem pz_ias {o n : Nat} {f : Nat → Int32} {x y : Int32} {w' : pW} (h : rx_e t i = (pc, .iastore, ln, info, v)) (hg : gt_a w o = some (0, n, .inl f)) (hi : vp_in y n) (hp : pt_a w o (0, n, .inl (upd f y.toNatClampNeg x)) = w') (k : pz Lx xs d t ret Q (i + 1) L st w') : pz Lx xs d t ret Q i L (.int x :: .int y :: .ref o :: st) w := pz_st (by
  unfold rx_st
  rw [h]
  simp only [rx_ast, hg]
  subst hp
  exact ⟨rfl, hi, k⟩)
theorem pz_bas {o n tg : Nat} {f : Nat → Int32} {x y : Int32} {w' : pW} (h : rx_e t i = (pc, .bastore, ln, info, v)) (hg : gt_a w o = some (tg, n, .inl f)) (ht : (tg == 1 || tg == 2) = true) (hi : vp_in y n) (hp : pt_a w o (tg, n, .inl (upd f y.toNatClampNeg (vp_nar (rx_tg tg) x))) = w') (k : pz Lx xs d t ret Q (i + 1) L st w') : pz Lx xs d t ret Q i L (.int x :: .int y :: .ref o :: st) w := pz_st (by
  unfold rx_st
  rw [h]
  simp only [rx_ast, hg]
  subst hp
  exact ⟨ht, hi, k⟩)
theorem pz_len {o n tg : Nat} {a} (h : rx_e t i = (pc, .arraylength, ln, info, v)) (hg : gt_a w (o + 1) = some (tg, n, a)) (ht : tg < 4) (k : pz Lx xs d t ret Q (i + 1) L (.int (nI n) :: st) w) : pz Lx xs d t ret Q i L (.ref (o + 1) :: st) w := pz_st (by
  unfold rx_st
  rw [h]
  simp only [rx_len, hg]
  exact ⟨ht, k⟩)
theorem pz_ir {x : Int32} {ty : FieldType} (h : rx_e t i = (pc, .ireturn, ln, info, v)) (hr : ret = some ty) (hn : narrow ty (.int x) = .int x) (k : Q (some (.int x)) w) : pz Lx xs d t ret Q i L [.int x] w := pz_st (by unfold rx_st; rw [h]; exact ⟨⟨ty, hr, hn⟩, k⟩)
theorem pz_vr (h : rx_e t i = (pc, .return_, ln, info, v)) (hr : ret = none) (k : Q none w) : pz Lx xs d t ret Q i L [] w := pz_st (by unfold rx_st; rw [h]; exact ⟨hr, k⟩)
/-- calls: a method of an object, with n arguments (on the stack, the last on top) -/
theorem pz_cv {z M n q o ci : Nat} {as : List Value} (h : rx_e t i = (pc, .invokevirtual z, ln, [M, n, 0, q], v)) (hn : as.length = n) (hg : gt_c w o = some ci) (hcn : (rx_cd ci).1 = (mN M).cls) (hsz : rx_sz st ≤ 8) (hA : mA M = (0, 0)) (k : rx_R Lx xs d M (.ref o :: as) w (fun r w' => pz Lx xs d t ret Q (i + 1) L (r.toList ++ st) w')) : pz Lx xs d t ret Q i L (as.reverse ++ .ref o :: st) w := pz_st (by
  unfold rx_st
  rw [h]
  refine ⟨rfl, ?_⟩
  unfold rx_call
  have hl : as.reverse.length = n := by rw [List.length_reverse]; exact hn
  show (match (as.reverse ++ .ref o :: st).drop n with
    | .ref o' :: r => _
    | _ => False)
  rw [List.drop_left' hl]
  refine ⟨⟨by show n ≤ (as.reverse ++ .ref o :: st).length; rw [List.length_append, hl]; exact Nat.le_add_right _ _, ?_, hsz, by show 0 + (mA M).1 ≤ 0; rw [hA]; exact Nat.le_refl _, by show 0 + (mA M).2 ≤ 0; rw [hA]; exact Nat.le_refl _⟩, ?_⟩
  · rw [hg]
    exact congrArg some hcn
  · have e1 : ((as.reverse ++ .ref o :: st).take n).reverse = as := by rw [List.take_left' hl, List.reverse_reverse]
    show rx_R Lx xs d M (.ref o :: ((as.reverse ++ .ref o :: st).take n).reverse) w (fun r w' => rx_P (rx_R Lx xs d) Lx xs t ret (0, 0) Q (i + 1) L (r.toList ++ st) w' (0 + (mA M).1) (0 + (mA M).2))
    rw [e1, hA]
    exact k)
theorem pz_cs {z M n q kd : Nat} {as : List Value} (h : rx_e t i = (pc, .invokestatic z, ln, [M, n, kd, q], v)) (hk : kd = 1 ∨ kd = 2) (hn : as.length = n) (hsz : rx_sz st ≤ 8) (hA : mA M = (0, 0)) (k : rx_R Lx xs d M as w (fun r w' => pz Lx xs d t ret Q (i + 1) L (r.toList ++ st) w')) : pz Lx xs d t ret Q i L (as.reverse ++ st) w := pz_st (by
  unfold rx_st
  rw [h]
  have hl : as.reverse.length = n := by rw [List.length_reverse]; exact hn
  have e1 : ((as.reverse ++ st).take n).reverse = as := by rw [List.take_left' hl, List.reverse_reverse]
  have e2 : (as.reverse ++ st).drop n = st := List.drop_left' hl
  have key : (n ≤ (as.reverse ++ st).length ∧ rx_sz ((as.reverse ++ st).drop n) ≤ 8 ∧ 0 + (mA M).1 ≤ 0 ∧ 0 + (mA M).2 ≤ 0) ∧ rx_R Lx xs d M ((as.reverse ++ st).take n).reverse w (fun r w' => rx_P (rx_R Lx xs d) Lx xs t ret (0, 0) Q (i + 1) L (r.toList ++ (as.reverse ++ st).drop n) w' (0 + (mA M).1) (0 + (mA M).2)) := by
    rw [e1, e2, hA]
    exact ⟨⟨by simp; omega, hsz, Nat.le_refl _, Nat.le_refl _⟩, k⟩
  rcases hk with rfl | rfl
  · exact ⟨Or.inl rfl, key⟩
  · exact ⟨Or.inr (Or.inl rfl), key⟩)
theorem pz_mx {z q : Nat} {x y : Int32} (h : rx_e t i = (pc, .invokestatic z, ln, [0, 2, 10, q], v)) (hsz : rx_sz st ≤ 8) (k : pz Lx xs d t ret Q (i + 1) L (.int (if x < y then y else x) :: st) w) : pz Lx xs d t ret Q i L (.int y :: .int x :: st) w := pz_st (by unfold rx_st; rw [h]; exact ⟨Or.inr (Or.inr (Or.inl rfl)), hsz, k⟩)
theorem pz_mn {z q : Nat} {x y : Int32} (h : rx_e t i = (pc, .invokestatic z, ln, [0, 2, 11, q], v)) (hsz : rx_sz st ≤ 8) (k : pz Lx xs d t ret Q (i + 1) L (.int (if y < x then y else x) :: st) w) : pz Lx xs d t ret Q i L (.int y :: .int x :: st) w := pz_st (by unfold rx_st; rw [h]; exact ⟨Or.inr (Or.inr (Or.inr (Or.inl rfl))), hsz, k⟩)
theorem pz_cp {z q a0 a1 n0 n1 : Nat} {f g : Nat → Int32} {sp dp n : Int32} {w' : pW} (h : rx_e t i = (pc, .invokestatic z, ln, [0, 5, 13, q], v)) (hg0 : gt_a w a0 = some (0, n0, .inl f)) (hg1 : gt_a w a1 = some (0, n1, .inl g)) (hc : rx_sz st ≤ 8 ∧ ¬ sp < 0 ∧ ¬ dp < 0 ∧ ¬ n < 0 ∧ sp.toNatClampNeg + n.toNatClampNeg ≤ n0 ∧ dp.toNatClampNeg + n.toNatClampNeg ≤ n1) (hp : pt_a w a1 (0, n1, .inl (va_cpy f g sp.toNatClampNeg dp.toNatClampNeg n.toNatClampNeg)) = w') (k : pz Lx xs d t ret Q (i + 1) L st w') : pz Lx xs d t ret Q i L (.int n :: .int dp :: .ref a1 :: .int sp :: .ref a0 :: st) w := pz_st (by
  unfold rx_st
  rw [h]
  subst hp
  refine ⟨Or.inr (Or.inr (Or.inr (Or.inr rfl))), ?_⟩
  show (match gt_a w a0, gt_a w a1 with
    | some (0, n0, .inl f), some (0, n1, .inl g) => (rx_sz st ≤ 8 ∧ ¬ sp < 0 ∧ ¬ dp < 0 ∧ ¬ n < 0 ∧ sp.toNatClampNeg + n.toNatClampNeg ≤ n0 ∧ dp.toNatClampNeg + n.toNatClampNeg ≤ n1) ∧ rx_P (rx_R Lx xs d) Lx xs t ret (0, 0) Q (i + 1) L st (pt_a w a1 (0, n1, .inl (va_cpy f g sp.toNatClampNeg dp.toNatClampNeg n.toNatClampNeg))) 0 0
    | _, _ => False)
  rw [hg0, hg1]
  exact ⟨hc, k⟩)
end PZ
end
section
/-! PART 21: the worlds (printed by wip/whole/gen_world.py) -/
/-- the class: iv its numbers, av its arrays -/
def wX (rm : Nat) (iv : Nat → Int32) (av : Nat → Nat → Int32) (r : pW) : pW := .inr (6, [.ref 2, .ref 7, .ref 13, .ref 23, .ref 29, .ref 33, .ref 37, .int (iv 8), .ref 50, .int (iv 9), .ref 51, .int (iv 70), .ref 52, .ref 53]) ::
  .inr (1, [.int (nI rm), .ref 3, .ref 4, .ref 5, .ref 6, .int (iv 0), .int (iv 1), .int (iv 2), .int (iv 3), .int (iv 4), .int (iv 5)]) ::
  .inl (1, rm + 15728, .inl (av 0)) ::
  .inl (0, 1024, .inl (av 1)) ::
  .inl (0, 1024, .inl (av 2)) ::
  .inl (1, 8192, .inl (av 3)) ::
  .inr (5, [.ref 2, .ref 8, .ref 12, .int (iv 10), .int (iv 11), .int (iv 12), .int (iv 13), .int (iv 14), .int (iv 15), .int (iv 16), .int (iv 17)]) ::
  .inr (2, [.ref 9, .ref 10, .ref 11, .int (iv 30)]) ::
  .inl (0, 120, .inl (av 10)) ::
  .inl (0, 120, .inl (av 11)) ::
  .inl (0, 120, .inl (av 12)) ::
  .inl (0, 6, .inl (av 4)) ::
  .inr (4, [.ref 2, .ref 7, .ref 14, .ref 15, .ref 19, .ref 20, .ref 21, .ref 22, .int (iv 6)]) ::
  .inr (3, [.int (iv 40), .int (iv 41), .int (iv 42), .int (iv 43), .int (iv 44), .int (iv 45)]) ::
  .inr (2, [.ref 16, .ref 17, .ref 18, .int (iv 31)]) ::
  .inl (0, 120, .inl (av 13)) ::
  .inl (0, 120, .inl (av 14)) ::
  .inl (0, 120, .inl (av 15)) ::
  .inl (1, 12, .inl (av 25)) ::
  .inl (1, 12, .inl (av 26)) ::
  .inl (1, 1300, .inl (av 27)) ::
  .inl (1, 64, .inl (av 28)) ::
  .inr (5, [.ref 2, .ref 24, .ref 28, .int (iv 20), .int (iv 21), .int (iv 22), .int (iv 23), .int (iv 24), .int (iv 25), .int (iv 26), .int (iv 27)]) ::
  .inr (2, [.ref 25, .ref 26, .ref 27, .int (iv 32)]) ::
  .inl (0, 120, .inl (av 16)) ::
  .inl (0, 120, .inl (av 17)) ::
  .inl (0, 120, .inl (av 18)) ::
  .inl (0, 6, .inl (av 5)) ::
  .inr (2, [.ref 30, .ref 31, .ref 32, .int (iv 33)]) ::
  .inl (0, 120, .inl (av 19)) ::
  .inl (0, 120, .inl (av 20)) ::
  .inl (0, 120, .inl (av 21)) ::
  .inr (2, [.ref 34, .ref 35, .ref 36, .int (iv 34)]) ::
  .inl (0, 120, .inl (av 22)) ::
  .inl (0, 120, .inl (av 23)) ::
  .inl (0, 120, .inl (av 24)) ::
  .inr (0, [.ref 38, .ref 39, .ref 40, .ref 41, .int (iv 7)]) ::
  .inl (0, 8, .inl (av 29)) ::
  .inl (0, 8, .inl (av 30)) ::
  .inl (0, 8, .inl (av 31)) ::
  .inl (3, 8, .inr (.inr (.inr (.inr (fun j => if j < 8 then some (42 + j) else none))))) ::
  .inl (1, 64, .inl (av 32)) ::
  .inl (1, 64, .inl (av 33)) ::
  .inl (1, 64, .inl (av 34)) ::
  .inl (1, 64, .inl (av 35)) ::
  .inl (1, 64, .inl (av 36)) ::
  .inl (1, 64, .inl (av 37)) ::
  .inl (1, 64, .inl (av 38)) ::
  .inl (1, 64, .inl (av 39)) ::
  .inl (1, 64, .inl (av 40)) ::
  .inl (1, 64, .inl (av 41)) ::
  .inr (3, [.int (iv 50), .int (iv 51), .int (iv 52), .int (iv 53), .int (iv 54), .int (iv 55)]) ::
  .inr (3, [.int (iv 60), .int (iv 61), .int (iv 62), .int (iv 63), .int (iv 64), .int (iv 65)]) :: r
/-- the reference: jv its numbers, bv its arrays -/
def wM (rm : Nat) (jv : Nat → Int32) (bv : Nat → Nat → Int32) : pW := [.inr (7, [.int (nI rm), .ref 55, .ref 56, .ref 57, .ref 58, .ref 59, .ref 60, .ref 61, .ref 62, .ref 63, .int (jv 0), .int (jv 1), .int (jv 2), .int (jv 3), .int (jv 4), .int (jv 5), .ref 64, .int (jv 6), .ref 65, .int (jv 7), .int (jv 8), .int (jv 9), .int (jv 10), .int (jv 11), .ref 66, .ref 67, .ref 68, .ref 69, .int (jv 12), .int (jv 13), .int (jv 14), .int (jv 15), .int (jv 16), .int (jv 17), .int (jv 18), .ref 70, .int (jv 19), .ref 71, .ref 72, .ref 73, .ref 74, .int (jv 20), .ref 75, .ref 76, .ref 77, .ref 78, .int (jv 21), .int (jv 22), .int (jv 23), .int (jv 24), .ref 79]),
  .inl (0, 3, .inl (bv 0)),
  .inl (0, 3, .inl (bv 1)),
  .inl (1, 20000, .inl (bv 2)),
  .inl (1, 20000, .inl (bv 3)),
  .inl (0, 6000, .inl (bv 4)),
  .inl (0, 6000, .inl (bv 5)),
  .inl (0, 6000, .inl (bv 6)),
  .inl (0, 6000, .inl (bv 7)),
  .inl (1, 90000, .inl (bv 8)),
  .inl (1, 64, .inl (bv 9)),
  .inl (1, 64, .inl (bv 10)),
  .inl (0, 8, .inl (bv 11)),
  .inl (0, 8, .inl (bv 12)),
  .inl (0, 8, .inl (bv 13)),
  .inl (1, 512, .inl (bv 14)),
  .inl (0, 12, .inl (bv 15)),
  .inl (2, 12, .inl (bv 16)),
  .inl (0, 120, .inl (bv 17)),
  .inl (0, 120, .inl (bv 18)),
  .inl (0, 120, .inl (bv 19)),
  .inl (0, 120, .inl (bv 20)),
  .inl (0, 120, .inl (bv 21)),
  .inl (0, 120, .inl (bv 22)),
  .inl (1, 1300, .inl (bv 23)),
  .inl (1, 64, .inl (bv 24))]
def up_a (av : Nat → Nat → Int32) (k : Nat) (f : Nat → Int32) : Nat → Nat → Int32 := fun j => if j = k then f else av j
theorem gc_1 (rm : Nat) (iv : Nat → Int32) (av : Nat → Nat → Int32) (r : pW) : gt_c (wX rm iv av r) 1 = some 6 := rfl
theorem gf_1_0 (rm : Nat) (iv : Nat → Int32) (av : Nat → Nat → Int32) (r : pW) : gt_f (wX rm iv av r) 6 1 0 = some (.ref 2) := rfl
theorem gf_1_1 (rm : Nat) (iv : Nat → Int32) (av : Nat → Nat → Int32) (r : pW) : gt_f (wX rm iv av r) 6 1 1 = some (.ref 7) := rfl
theorem gf_1_2 (rm : Nat) (iv : Nat → Int32) (av : Nat → Nat → Int32) (r : pW) : gt_f (wX rm iv av r) 6 1 2 = some (.ref 13) := rfl
theorem gf_1_3 (rm : Nat) (iv : Nat → Int32) (av : Nat → Nat → Int32) (r : pW) : gt_f (wX rm iv av r) 6 1 3 = some (.ref 23) := rfl
theorem gf_1_4 (rm : Nat) (iv : Nat → Int32) (av : Nat → Nat → Int32) (r : pW) : gt_f (wX rm iv av r) 6 1 4 = some (.ref 29) := rfl
theorem gf_1_5 (rm : Nat) (iv : Nat → Int32) (av : Nat → Nat → Int32) (r : pW) : gt_f (wX rm iv av r) 6 1 5 = some (.ref 33) := rfl
theorem gf_1_6 (rm : Nat) (iv : Nat → Int32) (av : Nat → Nat → Int32) (r : pW) : gt_f (wX rm iv av r) 6 1 6 = some (.ref 37) := rfl
theorem gf_1_7 (rm : Nat) (iv : Nat → Int32) (av : Nat → Nat → Int32) (r : pW) : gt_f (wX rm iv av r) 6 1 7 = some (.int (iv 8)) := rfl
theorem pf_1_7 (rm : Nat) (iv : Nat → Int32) (av : Nat → Nat → Int32) (r : pW) (x : Int32) : pt_f (wX rm iv av r) 6 1 7 (.int x) = some (wX rm (upd iv 8 x) av r) := rfl
theorem gf_1_8 (rm : Nat) (iv : Nat → Int32) (av : Nat → Nat → Int32) (r : pW) : gt_f (wX rm iv av r) 6 1 8 = some (.ref 50) := rfl
theorem gf_1_9 (rm : Nat) (iv : Nat → Int32) (av : Nat → Nat → Int32) (r : pW) : gt_f (wX rm iv av r) 6 1 9 = some (.int (iv 9)) := rfl
theorem pf_1_9 (rm : Nat) (iv : Nat → Int32) (av : Nat → Nat → Int32) (r : pW) (x : Int32) : pt_f (wX rm iv av r) 6 1 9 (.int x) = some (wX rm (upd iv 9 x) av r) := rfl
theorem gf_1_10 (rm : Nat) (iv : Nat → Int32) (av : Nat → Nat → Int32) (r : pW) : gt_f (wX rm iv av r) 6 1 10 = some (.ref 51) := rfl
theorem gf_1_11 (rm : Nat) (iv : Nat → Int32) (av : Nat → Nat → Int32) (r : pW) : gt_f (wX rm iv av r) 6 1 11 = some (.int (iv 70)) := rfl
theorem pf_1_11 (rm : Nat) (iv : Nat → Int32) (av : Nat → Nat → Int32) (r : pW) (x : Int32) : pt_f (wX rm iv av r) 6 1 11 (.int x) = some (wX rm (upd iv 70 x) av r) := rfl
theorem gf_1_12 (rm : Nat) (iv : Nat → Int32) (av : Nat → Nat → Int32) (r : pW) : gt_f (wX rm iv av r) 6 1 12 = some (.ref 52) := rfl
theorem gf_1_13 (rm : Nat) (iv : Nat → Int32) (av : Nat → Nat → Int32) (r : pW) : gt_f (wX rm iv av r) 6 1 13 = some (.ref 53) := rfl
theorem gc_2 (rm : Nat) (iv : Nat → Int32) (av : Nat → Nat → Int32) (r : pW) : gt_c (wX rm iv av r) 2 = some 1 := rfl
theorem gf_2_0 (rm : Nat) (iv : Nat → Int32) (av : Nat → Nat → Int32) (r : pW) : gt_f (wX rm iv av r) 1 2 0 = some (.int (nI rm)) := rfl
theorem gf_2_1 (rm : Nat) (iv : Nat → Int32) (av : Nat → Nat → Int32) (r : pW) : gt_f (wX rm iv av r) 1 2 1 = some (.ref 3) := rfl
theorem gf_2_2 (rm : Nat) (iv : Nat → Int32) (av : Nat → Nat → Int32) (r : pW) : gt_f (wX rm iv av r) 1 2 2 = some (.ref 4) := rfl
theorem gf_2_3 (rm : Nat) (iv : Nat → Int32) (av : Nat → Nat → Int32) (r : pW) : gt_f (wX rm iv av r) 1 2 3 = some (.ref 5) := rfl
theorem gf_2_4 (rm : Nat) (iv : Nat → Int32) (av : Nat → Nat → Int32) (r : pW) : gt_f (wX rm iv av r) 1 2 4 = some (.ref 6) := rfl
theorem gf_2_5 (rm : Nat) (iv : Nat → Int32) (av : Nat → Nat → Int32) (r : pW) : gt_f (wX rm iv av r) 1 2 5 = some (.int (iv 0)) := rfl
theorem pf_2_5 (rm : Nat) (iv : Nat → Int32) (av : Nat → Nat → Int32) (r : pW) (x : Int32) : pt_f (wX rm iv av r) 1 2 5 (.int x) = some (wX rm (upd iv 0 x) av r) := rfl
theorem gf_2_6 (rm : Nat) (iv : Nat → Int32) (av : Nat → Nat → Int32) (r : pW) : gt_f (wX rm iv av r) 1 2 6 = some (.int (iv 1)) := rfl
theorem pf_2_6 (rm : Nat) (iv : Nat → Int32) (av : Nat → Nat → Int32) (r : pW) (x : Int32) : pt_f (wX rm iv av r) 1 2 6 (.int x) = some (wX rm (upd iv 1 x) av r) := rfl
theorem gf_2_7 (rm : Nat) (iv : Nat → Int32) (av : Nat → Nat → Int32) (r : pW) : gt_f (wX rm iv av r) 1 2 7 = some (.int (iv 2)) := rfl
theorem pf_2_7 (rm : Nat) (iv : Nat → Int32) (av : Nat → Nat → Int32) (r : pW) (x : Int32) : pt_f (wX rm iv av r) 1 2 7 (.int x) = some (wX rm (upd iv 2 x) av r) := rfl
theorem gf_2_8 (rm : Nat) (iv : Nat → Int32) (av : Nat → Nat → Int32) (r : pW) : gt_f (wX rm iv av r) 1 2 8 = some (.int (iv 3)) := rfl
theorem pf_2_8 (rm : Nat) (iv : Nat → Int32) (av : Nat → Nat → Int32) (r : pW) (x : Int32) : pt_f (wX rm iv av r) 1 2 8 (.int x) = some (wX rm (upd iv 3 x) av r) := rfl
theorem gf_2_9 (rm : Nat) (iv : Nat → Int32) (av : Nat → Nat → Int32) (r : pW) : gt_f (wX rm iv av r) 1 2 9 = some (.int (iv 4)) := rfl
theorem pf_2_9 (rm : Nat) (iv : Nat → Int32) (av : Nat → Nat → Int32) (r : pW) (x : Int32) : pt_f (wX rm iv av r) 1 2 9 (.int x) = some (wX rm (upd iv 4 x) av r) := rfl
theorem gf_2_10 (rm : Nat) (iv : Nat → Int32) (av : Nat → Nat → Int32) (r : pW) : gt_f (wX rm iv av r) 1 2 10 = some (.int (iv 5)) := rfl
theorem pf_2_10 (rm : Nat) (iv : Nat → Int32) (av : Nat → Nat → Int32) (r : pW) (x : Int32) : pt_f (wX rm iv av r) 1 2 10 (.int x) = some (wX rm (upd iv 5 x) av r) := rfl
theorem ga_3 (rm : Nat) (iv : Nat → Int32) (av : Nat → Nat → Int32) (r : pW) : gt_a (wX rm iv av r) 3 = some (1, rm + 15728, .inl (av 0)) := rfl
theorem pa_3 (rm : Nat) (iv : Nat → Int32) (av : Nat → Nat → Int32) (r : pW) (f : Nat → Int32) : pt_a (wX rm iv av r) 3 (1, rm + 15728, .inl f) = wX rm iv (up_a av 0 f) r := rfl
theorem ga_4 (rm : Nat) (iv : Nat → Int32) (av : Nat → Nat → Int32) (r : pW) : gt_a (wX rm iv av r) 4 = some (0, 1024, .inl (av 1)) := rfl
theorem pa_4 (rm : Nat) (iv : Nat → Int32) (av : Nat → Nat → Int32) (r : pW) (f : Nat → Int32) : pt_a (wX rm iv av r) 4 (0, 1024, .inl f) = wX rm iv (up_a av 1 f) r := rfl
theorem ga_5 (rm : Nat) (iv : Nat → Int32) (av : Nat → Nat → Int32) (r : pW) : gt_a (wX rm iv av r) 5 = some (0, 1024, .inl (av 2)) := rfl
theorem pa_5 (rm : Nat) (iv : Nat → Int32) (av : Nat → Nat → Int32) (r : pW) (f : Nat → Int32) : pt_a (wX rm iv av r) 5 (0, 1024, .inl f) = wX rm iv (up_a av 2 f) r := rfl
theorem ga_6 (rm : Nat) (iv : Nat → Int32) (av : Nat → Nat → Int32) (r : pW) : gt_a (wX rm iv av r) 6 = some (1, 8192, .inl (av 3)) := rfl
theorem pa_6 (rm : Nat) (iv : Nat → Int32) (av : Nat → Nat → Int32) (r : pW) (f : Nat → Int32) : pt_a (wX rm iv av r) 6 (1, 8192, .inl f) = wX rm iv (up_a av 3 f) r := rfl
theorem gc_7 (rm : Nat) (iv : Nat → Int32) (av : Nat → Nat → Int32) (r : pW) : gt_c (wX rm iv av r) 7 = some 5 := rfl
theorem gf_7_0 (rm : Nat) (iv : Nat → Int32) (av : Nat → Nat → Int32) (r : pW) : gt_f (wX rm iv av r) 5 7 0 = some (.ref 2) := rfl
theorem gf_7_1 (rm : Nat) (iv : Nat → Int32) (av : Nat → Nat → Int32) (r : pW) : gt_f (wX rm iv av r) 5 7 1 = some (.ref 8) := rfl
theorem gf_7_2 (rm : Nat) (iv : Nat → Int32) (av : Nat → Nat → Int32) (r : pW) : gt_f (wX rm iv av r) 5 7 2 = some (.ref 12) := rfl
theorem gf_7_3 (rm : Nat) (iv : Nat → Int32) (av : Nat → Nat → Int32) (r : pW) : gt_f (wX rm iv av r) 5 7 3 = some (.int (iv 10)) := rfl
theorem pf_7_3 (rm : Nat) (iv : Nat → Int32) (av : Nat → Nat → Int32) (r : pW) (x : Int32) : pt_f (wX rm iv av r) 5 7 3 (.int x) = some (wX rm (upd iv 10 x) av r) := rfl
theorem gf_7_4 (rm : Nat) (iv : Nat → Int32) (av : Nat → Nat → Int32) (r : pW) : gt_f (wX rm iv av r) 5 7 4 = some (.int (iv 11)) := rfl
theorem pf_7_4 (rm : Nat) (iv : Nat → Int32) (av : Nat → Nat → Int32) (r : pW) (x : Int32) : pt_f (wX rm iv av r) 5 7 4 (.int x) = some (wX rm (upd iv 11 x) av r) := rfl
theorem gf_7_5 (rm : Nat) (iv : Nat → Int32) (av : Nat → Nat → Int32) (r : pW) : gt_f (wX rm iv av r) 5 7 5 = some (.int (iv 12)) := rfl
theorem pf_7_5 (rm : Nat) (iv : Nat → Int32) (av : Nat → Nat → Int32) (r : pW) (x : Int32) : pt_f (wX rm iv av r) 5 7 5 (.int x) = some (wX rm (upd iv 12 x) av r) := rfl
theorem gf_7_6 (rm : Nat) (iv : Nat → Int32) (av : Nat → Nat → Int32) (r : pW) : gt_f (wX rm iv av r) 5 7 6 = some (.int (iv 13)) := rfl
theorem pf_7_6 (rm : Nat) (iv : Nat → Int32) (av : Nat → Nat → Int32) (r : pW) (x : Int32) : pt_f (wX rm iv av r) 5 7 6 (.int x) = some (wX rm (upd iv 13 x) av r) := rfl
theorem gf_7_7 (rm : Nat) (iv : Nat → Int32) (av : Nat → Nat → Int32) (r : pW) : gt_f (wX rm iv av r) 5 7 7 = some (.int (iv 14)) := rfl
theorem pf_7_7 (rm : Nat) (iv : Nat → Int32) (av : Nat → Nat → Int32) (r : pW) (x : Int32) : pt_f (wX rm iv av r) 5 7 7 (.int x) = some (wX rm (upd iv 14 x) av r) := rfl
theorem gf_7_8 (rm : Nat) (iv : Nat → Int32) (av : Nat → Nat → Int32) (r : pW) : gt_f (wX rm iv av r) 5 7 8 = some (.int (iv 15)) := rfl
theorem pf_7_8 (rm : Nat) (iv : Nat → Int32) (av : Nat → Nat → Int32) (r : pW) (x : Int32) : pt_f (wX rm iv av r) 5 7 8 (.int x) = some (wX rm (upd iv 15 x) av r) := rfl
theorem gf_7_9 (rm : Nat) (iv : Nat → Int32) (av : Nat → Nat → Int32) (r : pW) : gt_f (wX rm iv av r) 5 7 9 = some (.int (iv 16)) := rfl
theorem pf_7_9 (rm : Nat) (iv : Nat → Int32) (av : Nat → Nat → Int32) (r : pW) (x : Int32) : pt_f (wX rm iv av r) 5 7 9 (.int x) = some (wX rm (upd iv 16 x) av r) := rfl
theorem gf_7_10 (rm : Nat) (iv : Nat → Int32) (av : Nat → Nat → Int32) (r : pW) : gt_f (wX rm iv av r) 5 7 10 = some (.int (iv 17)) := rfl
theorem pf_7_10 (rm : Nat) (iv : Nat → Int32) (av : Nat → Nat → Int32) (r : pW) (x : Int32) : pt_f (wX rm iv av r) 5 7 10 (.int x) = some (wX rm (upd iv 17 x) av r) := rfl
theorem gc_8 (rm : Nat) (iv : Nat → Int32) (av : Nat → Nat → Int32) (r : pW) : gt_c (wX rm iv av r) 8 = some 2 := rfl
theorem gf_8_0 (rm : Nat) (iv : Nat → Int32) (av : Nat → Nat → Int32) (r : pW) : gt_f (wX rm iv av r) 2 8 0 = some (.ref 9) := rfl
theorem gf_8_1 (rm : Nat) (iv : Nat → Int32) (av : Nat → Nat → Int32) (r : pW) : gt_f (wX rm iv av r) 2 8 1 = some (.ref 10) := rfl
theorem gf_8_2 (rm : Nat) (iv : Nat → Int32) (av : Nat → Nat → Int32) (r : pW) : gt_f (wX rm iv av r) 2 8 2 = some (.ref 11) := rfl
theorem gf_8_3 (rm : Nat) (iv : Nat → Int32) (av : Nat → Nat → Int32) (r : pW) : gt_f (wX rm iv av r) 2 8 3 = some (.int (iv 30)) := rfl
theorem pf_8_3 (rm : Nat) (iv : Nat → Int32) (av : Nat → Nat → Int32) (r : pW) (x : Int32) : pt_f (wX rm iv av r) 2 8 3 (.int x) = some (wX rm (upd iv 30 x) av r) := rfl
theorem ga_9 (rm : Nat) (iv : Nat → Int32) (av : Nat → Nat → Int32) (r : pW) : gt_a (wX rm iv av r) 9 = some (0, 120, .inl (av 10)) := rfl
theorem pa_9 (rm : Nat) (iv : Nat → Int32) (av : Nat → Nat → Int32) (r : pW) (f : Nat → Int32) : pt_a (wX rm iv av r) 9 (0, 120, .inl f) = wX rm iv (up_a av 10 f) r := rfl
theorem ga_10 (rm : Nat) (iv : Nat → Int32) (av : Nat → Nat → Int32) (r : pW) : gt_a (wX rm iv av r) 10 = some (0, 120, .inl (av 11)) := rfl
theorem pa_10 (rm : Nat) (iv : Nat → Int32) (av : Nat → Nat → Int32) (r : pW) (f : Nat → Int32) : pt_a (wX rm iv av r) 10 (0, 120, .inl f) = wX rm iv (up_a av 11 f) r := rfl
theorem ga_11 (rm : Nat) (iv : Nat → Int32) (av : Nat → Nat → Int32) (r : pW) : gt_a (wX rm iv av r) 11 = some (0, 120, .inl (av 12)) := rfl
theorem pa_11 (rm : Nat) (iv : Nat → Int32) (av : Nat → Nat → Int32) (r : pW) (f : Nat → Int32) : pt_a (wX rm iv av r) 11 (0, 120, .inl f) = wX rm iv (up_a av 12 f) r := rfl
theorem ga_12 (rm : Nat) (iv : Nat → Int32) (av : Nat → Nat → Int32) (r : pW) : gt_a (wX rm iv av r) 12 = some (0, 6, .inl (av 4)) := rfl
theorem pa_12 (rm : Nat) (iv : Nat → Int32) (av : Nat → Nat → Int32) (r : pW) (f : Nat → Int32) : pt_a (wX rm iv av r) 12 (0, 6, .inl f) = wX rm iv (up_a av 4 f) r := rfl
theorem gc_13 (rm : Nat) (iv : Nat → Int32) (av : Nat → Nat → Int32) (r : pW) : gt_c (wX rm iv av r) 13 = some 4 := rfl
theorem gf_13_0 (rm : Nat) (iv : Nat → Int32) (av : Nat → Nat → Int32) (r : pW) : gt_f (wX rm iv av r) 4 13 0 = some (.ref 2) := rfl
theorem gf_13_1 (rm : Nat) (iv : Nat → Int32) (av : Nat → Nat → Int32) (r : pW) : gt_f (wX rm iv av r) 4 13 1 = some (.ref 7) := rfl
theorem gf_13_2 (rm : Nat) (iv : Nat → Int32) (av : Nat → Nat → Int32) (r : pW) : gt_f (wX rm iv av r) 4 13 2 = some (.ref 14) := rfl
theorem gf_13_3 (rm : Nat) (iv : Nat → Int32) (av : Nat → Nat → Int32) (r : pW) : gt_f (wX rm iv av r) 4 13 3 = some (.ref 15) := rfl
theorem gf_13_4 (rm : Nat) (iv : Nat → Int32) (av : Nat → Nat → Int32) (r : pW) : gt_f (wX rm iv av r) 4 13 4 = some (.ref 19) := rfl
theorem gf_13_5 (rm : Nat) (iv : Nat → Int32) (av : Nat → Nat → Int32) (r : pW) : gt_f (wX rm iv av r) 4 13 5 = some (.ref 20) := rfl
theorem gf_13_6 (rm : Nat) (iv : Nat → Int32) (av : Nat → Nat → Int32) (r : pW) : gt_f (wX rm iv av r) 4 13 6 = some (.ref 21) := rfl
theorem gf_13_7 (rm : Nat) (iv : Nat → Int32) (av : Nat → Nat → Int32) (r : pW) : gt_f (wX rm iv av r) 4 13 7 = some (.ref 22) := rfl
theorem gf_13_8 (rm : Nat) (iv : Nat → Int32) (av : Nat → Nat → Int32) (r : pW) : gt_f (wX rm iv av r) 4 13 8 = some (.int (iv 6)) := rfl
theorem pf_13_8 (rm : Nat) (iv : Nat → Int32) (av : Nat → Nat → Int32) (r : pW) (x : Int32) : pt_f (wX rm iv av r) 4 13 8 (.int x) = some (wX rm (upd iv 6 x) av r) := rfl
theorem gc_14 (rm : Nat) (iv : Nat → Int32) (av : Nat → Nat → Int32) (r : pW) : gt_c (wX rm iv av r) 14 = some 3 := rfl
theorem gf_14_0 (rm : Nat) (iv : Nat → Int32) (av : Nat → Nat → Int32) (r : pW) : gt_f (wX rm iv av r) 3 14 0 = some (.int (iv 40)) := rfl
theorem pf_14_0 (rm : Nat) (iv : Nat → Int32) (av : Nat → Nat → Int32) (r : pW) (x : Int32) : pt_f (wX rm iv av r) 3 14 0 (.int x) = some (wX rm (upd iv 40 x) av r) := rfl
theorem gf_14_1 (rm : Nat) (iv : Nat → Int32) (av : Nat → Nat → Int32) (r : pW) : gt_f (wX rm iv av r) 3 14 1 = some (.int (iv 41)) := rfl
theorem pf_14_1 (rm : Nat) (iv : Nat → Int32) (av : Nat → Nat → Int32) (r : pW) (x : Int32) : pt_f (wX rm iv av r) 3 14 1 (.int x) = some (wX rm (upd iv 41 x) av r) := rfl
theorem gf_14_2 (rm : Nat) (iv : Nat → Int32) (av : Nat → Nat → Int32) (r : pW) : gt_f (wX rm iv av r) 3 14 2 = some (.int (iv 42)) := rfl
theorem pf_14_2 (rm : Nat) (iv : Nat → Int32) (av : Nat → Nat → Int32) (r : pW) (x : Int32) : pt_f (wX rm iv av r) 3 14 2 (.int x) = some (wX rm (upd iv 42 x) av r) := rfl
theorem gf_14_3 (rm : Nat) (iv : Nat → Int32) (av : Nat → Nat → Int32) (r : pW) : gt_f (wX rm iv av r) 3 14 3 = some (.int (iv 43)) := rfl
theorem pf_14_3 (rm : Nat) (iv : Nat → Int32) (av : Nat → Nat → Int32) (r : pW) (x : Int32) : pt_f (wX rm iv av r) 3 14 3 (.int x) = some (wX rm (upd iv 43 x) av r) := rfl
theorem gf_14_4 (rm : Nat) (iv : Nat → Int32) (av : Nat → Nat → Int32) (r : pW) : gt_f (wX rm iv av r) 3 14 4 = some (.int (iv 44)) := rfl
theorem pf_14_4 (rm : Nat) (iv : Nat → Int32) (av : Nat → Nat → Int32) (r : pW) (x : Int32) : pt_f (wX rm iv av r) 3 14 4 (.int x) = some (wX rm (upd iv 44 x) av r) := rfl
theorem gf_14_5 (rm : Nat) (iv : Nat → Int32) (av : Nat → Nat → Int32) (r : pW) : gt_f (wX rm iv av r) 3 14 5 = some (.int (iv 45)) := rfl
theorem pf_14_5 (rm : Nat) (iv : Nat → Int32) (av : Nat → Nat → Int32) (r : pW) (x : Int32) : pt_f (wX rm iv av r) 3 14 5 (.int x) = some (wX rm (upd iv 45 x) av r) := rfl
theorem gc_15 (rm : Nat) (iv : Nat → Int32) (av : Nat → Nat → Int32) (r : pW) : gt_c (wX rm iv av r) 15 = some 2 := rfl
theorem gf_15_0 (rm : Nat) (iv : Nat → Int32) (av : Nat → Nat → Int32) (r : pW) : gt_f (wX rm iv av r) 2 15 0 = some (.ref 16) := rfl
theorem gf_15_1 (rm : Nat) (iv : Nat → Int32) (av : Nat → Nat → Int32) (r : pW) : gt_f (wX rm iv av r) 2 15 1 = some (.ref 17) := rfl
theorem gf_15_2 (rm : Nat) (iv : Nat → Int32) (av : Nat → Nat → Int32) (r : pW) : gt_f (wX rm iv av r) 2 15 2 = some (.ref 18) := rfl
theorem gf_15_3 (rm : Nat) (iv : Nat → Int32) (av : Nat → Nat → Int32) (r : pW) : gt_f (wX rm iv av r) 2 15 3 = some (.int (iv 31)) := rfl
theorem pf_15_3 (rm : Nat) (iv : Nat → Int32) (av : Nat → Nat → Int32) (r : pW) (x : Int32) : pt_f (wX rm iv av r) 2 15 3 (.int x) = some (wX rm (upd iv 31 x) av r) := rfl
theorem ga_16 (rm : Nat) (iv : Nat → Int32) (av : Nat → Nat → Int32) (r : pW) : gt_a (wX rm iv av r) 16 = some (0, 120, .inl (av 13)) := rfl
theorem pa_16 (rm : Nat) (iv : Nat → Int32) (av : Nat → Nat → Int32) (r : pW) (f : Nat → Int32) : pt_a (wX rm iv av r) 16 (0, 120, .inl f) = wX rm iv (up_a av 13 f) r := rfl
theorem ga_17 (rm : Nat) (iv : Nat → Int32) (av : Nat → Nat → Int32) (r : pW) : gt_a (wX rm iv av r) 17 = some (0, 120, .inl (av 14)) := rfl
theorem pa_17 (rm : Nat) (iv : Nat → Int32) (av : Nat → Nat → Int32) (r : pW) (f : Nat → Int32) : pt_a (wX rm iv av r) 17 (0, 120, .inl f) = wX rm iv (up_a av 14 f) r := rfl
theorem ga_18 (rm : Nat) (iv : Nat → Int32) (av : Nat → Nat → Int32) (r : pW) : gt_a (wX rm iv av r) 18 = some (0, 120, .inl (av 15)) := rfl
theorem pa_18 (rm : Nat) (iv : Nat → Int32) (av : Nat → Nat → Int32) (r : pW) (f : Nat → Int32) : pt_a (wX rm iv av r) 18 (0, 120, .inl f) = wX rm iv (up_a av 15 f) r := rfl
theorem ga_19 (rm : Nat) (iv : Nat → Int32) (av : Nat → Nat → Int32) (r : pW) : gt_a (wX rm iv av r) 19 = some (1, 12, .inl (av 25)) := rfl
theorem pa_19 (rm : Nat) (iv : Nat → Int32) (av : Nat → Nat → Int32) (r : pW) (f : Nat → Int32) : pt_a (wX rm iv av r) 19 (1, 12, .inl f) = wX rm iv (up_a av 25 f) r := rfl
theorem ga_20 (rm : Nat) (iv : Nat → Int32) (av : Nat → Nat → Int32) (r : pW) : gt_a (wX rm iv av r) 20 = some (1, 12, .inl (av 26)) := rfl
theorem pa_20 (rm : Nat) (iv : Nat → Int32) (av : Nat → Nat → Int32) (r : pW) (f : Nat → Int32) : pt_a (wX rm iv av r) 20 (1, 12, .inl f) = wX rm iv (up_a av 26 f) r := rfl
theorem ga_21 (rm : Nat) (iv : Nat → Int32) (av : Nat → Nat → Int32) (r : pW) : gt_a (wX rm iv av r) 21 = some (1, 1300, .inl (av 27)) := rfl
theorem pa_21 (rm : Nat) (iv : Nat → Int32) (av : Nat → Nat → Int32) (r : pW) (f : Nat → Int32) : pt_a (wX rm iv av r) 21 (1, 1300, .inl f) = wX rm iv (up_a av 27 f) r := rfl
theorem ga_22 (rm : Nat) (iv : Nat → Int32) (av : Nat → Nat → Int32) (r : pW) : gt_a (wX rm iv av r) 22 = some (1, 64, .inl (av 28)) := rfl
theorem pa_22 (rm : Nat) (iv : Nat → Int32) (av : Nat → Nat → Int32) (r : pW) (f : Nat → Int32) : pt_a (wX rm iv av r) 22 (1, 64, .inl f) = wX rm iv (up_a av 28 f) r := rfl
theorem gc_23 (rm : Nat) (iv : Nat → Int32) (av : Nat → Nat → Int32) (r : pW) : gt_c (wX rm iv av r) 23 = some 5 := rfl
theorem gf_23_0 (rm : Nat) (iv : Nat → Int32) (av : Nat → Nat → Int32) (r : pW) : gt_f (wX rm iv av r) 5 23 0 = some (.ref 2) := rfl
theorem gf_23_1 (rm : Nat) (iv : Nat → Int32) (av : Nat → Nat → Int32) (r : pW) : gt_f (wX rm iv av r) 5 23 1 = some (.ref 24) := rfl
theorem gf_23_2 (rm : Nat) (iv : Nat → Int32) (av : Nat → Nat → Int32) (r : pW) : gt_f (wX rm iv av r) 5 23 2 = some (.ref 28) := rfl
theorem gf_23_3 (rm : Nat) (iv : Nat → Int32) (av : Nat → Nat → Int32) (r : pW) : gt_f (wX rm iv av r) 5 23 3 = some (.int (iv 20)) := rfl
theorem pf_23_3 (rm : Nat) (iv : Nat → Int32) (av : Nat → Nat → Int32) (r : pW) (x : Int32) : pt_f (wX rm iv av r) 5 23 3 (.int x) = some (wX rm (upd iv 20 x) av r) := rfl
theorem gf_23_4 (rm : Nat) (iv : Nat → Int32) (av : Nat → Nat → Int32) (r : pW) : gt_f (wX rm iv av r) 5 23 4 = some (.int (iv 21)) := rfl
theorem pf_23_4 (rm : Nat) (iv : Nat → Int32) (av : Nat → Nat → Int32) (r : pW) (x : Int32) : pt_f (wX rm iv av r) 5 23 4 (.int x) = some (wX rm (upd iv 21 x) av r) := rfl
theorem gf_23_5 (rm : Nat) (iv : Nat → Int32) (av : Nat → Nat → Int32) (r : pW) : gt_f (wX rm iv av r) 5 23 5 = some (.int (iv 22)) := rfl
theorem pf_23_5 (rm : Nat) (iv : Nat → Int32) (av : Nat → Nat → Int32) (r : pW) (x : Int32) : pt_f (wX rm iv av r) 5 23 5 (.int x) = some (wX rm (upd iv 22 x) av r) := rfl
theorem gf_23_6 (rm : Nat) (iv : Nat → Int32) (av : Nat → Nat → Int32) (r : pW) : gt_f (wX rm iv av r) 5 23 6 = some (.int (iv 23)) := rfl
theorem pf_23_6 (rm : Nat) (iv : Nat → Int32) (av : Nat → Nat → Int32) (r : pW) (x : Int32) : pt_f (wX rm iv av r) 5 23 6 (.int x) = some (wX rm (upd iv 23 x) av r) := rfl
theorem gf_23_7 (rm : Nat) (iv : Nat → Int32) (av : Nat → Nat → Int32) (r : pW) : gt_f (wX rm iv av r) 5 23 7 = some (.int (iv 24)) := rfl
theorem pf_23_7 (rm : Nat) (iv : Nat → Int32) (av : Nat → Nat → Int32) (r : pW) (x : Int32) : pt_f (wX rm iv av r) 5 23 7 (.int x) = some (wX rm (upd iv 24 x) av r) := rfl
theorem gf_23_8 (rm : Nat) (iv : Nat → Int32) (av : Nat → Nat → Int32) (r : pW) : gt_f (wX rm iv av r) 5 23 8 = some (.int (iv 25)) := rfl
theorem pf_23_8 (rm : Nat) (iv : Nat → Int32) (av : Nat → Nat → Int32) (r : pW) (x : Int32) : pt_f (wX rm iv av r) 5 23 8 (.int x) = some (wX rm (upd iv 25 x) av r) := rfl
theorem gf_23_9 (rm : Nat) (iv : Nat → Int32) (av : Nat → Nat → Int32) (r : pW) : gt_f (wX rm iv av r) 5 23 9 = some (.int (iv 26)) := rfl
theorem pf_23_9 (rm : Nat) (iv : Nat → Int32) (av : Nat → Nat → Int32) (r : pW) (x : Int32) : pt_f (wX rm iv av r) 5 23 9 (.int x) = some (wX rm (upd iv 26 x) av r) := rfl
theorem gf_23_10 (rm : Nat) (iv : Nat → Int32) (av : Nat → Nat → Int32) (r : pW) : gt_f (wX rm iv av r) 5 23 10 = some (.int (iv 27)) := rfl
theorem pf_23_10 (rm : Nat) (iv : Nat → Int32) (av : Nat → Nat → Int32) (r : pW) (x : Int32) : pt_f (wX rm iv av r) 5 23 10 (.int x) = some (wX rm (upd iv 27 x) av r) := rfl
theorem gc_24 (rm : Nat) (iv : Nat → Int32) (av : Nat → Nat → Int32) (r : pW) : gt_c (wX rm iv av r) 24 = some 2 := rfl
theorem gf_24_0 (rm : Nat) (iv : Nat → Int32) (av : Nat → Nat → Int32) (r : pW) : gt_f (wX rm iv av r) 2 24 0 = some (.ref 25) := rfl
theorem gf_24_1 (rm : Nat) (iv : Nat → Int32) (av : Nat → Nat → Int32) (r : pW) : gt_f (wX rm iv av r) 2 24 1 = some (.ref 26) := rfl
theorem gf_24_2 (rm : Nat) (iv : Nat → Int32) (av : Nat → Nat → Int32) (r : pW) : gt_f (wX rm iv av r) 2 24 2 = some (.ref 27) := rfl
theorem gf_24_3 (rm : Nat) (iv : Nat → Int32) (av : Nat → Nat → Int32) (r : pW) : gt_f (wX rm iv av r) 2 24 3 = some (.int (iv 32)) := rfl
theorem pf_24_3 (rm : Nat) (iv : Nat → Int32) (av : Nat → Nat → Int32) (r : pW) (x : Int32) : pt_f (wX rm iv av r) 2 24 3 (.int x) = some (wX rm (upd iv 32 x) av r) := rfl
theorem ga_25 (rm : Nat) (iv : Nat → Int32) (av : Nat → Nat → Int32) (r : pW) : gt_a (wX rm iv av r) 25 = some (0, 120, .inl (av 16)) := rfl
theorem pa_25 (rm : Nat) (iv : Nat → Int32) (av : Nat → Nat → Int32) (r : pW) (f : Nat → Int32) : pt_a (wX rm iv av r) 25 (0, 120, .inl f) = wX rm iv (up_a av 16 f) r := rfl
theorem ga_26 (rm : Nat) (iv : Nat → Int32) (av : Nat → Nat → Int32) (r : pW) : gt_a (wX rm iv av r) 26 = some (0, 120, .inl (av 17)) := rfl
theorem pa_26 (rm : Nat) (iv : Nat → Int32) (av : Nat → Nat → Int32) (r : pW) (f : Nat → Int32) : pt_a (wX rm iv av r) 26 (0, 120, .inl f) = wX rm iv (up_a av 17 f) r := rfl
theorem ga_27 (rm : Nat) (iv : Nat → Int32) (av : Nat → Nat → Int32) (r : pW) : gt_a (wX rm iv av r) 27 = some (0, 120, .inl (av 18)) := rfl
theorem pa_27 (rm : Nat) (iv : Nat → Int32) (av : Nat → Nat → Int32) (r : pW) (f : Nat → Int32) : pt_a (wX rm iv av r) 27 (0, 120, .inl f) = wX rm iv (up_a av 18 f) r := rfl
theorem ga_28 (rm : Nat) (iv : Nat → Int32) (av : Nat → Nat → Int32) (r : pW) : gt_a (wX rm iv av r) 28 = some (0, 6, .inl (av 5)) := rfl
theorem pa_28 (rm : Nat) (iv : Nat → Int32) (av : Nat → Nat → Int32) (r : pW) (f : Nat → Int32) : pt_a (wX rm iv av r) 28 (0, 6, .inl f) = wX rm iv (up_a av 5 f) r := rfl
theorem gc_29 (rm : Nat) (iv : Nat → Int32) (av : Nat → Nat → Int32) (r : pW) : gt_c (wX rm iv av r) 29 = some 2 := rfl
theorem gf_29_0 (rm : Nat) (iv : Nat → Int32) (av : Nat → Nat → Int32) (r : pW) : gt_f (wX rm iv av r) 2 29 0 = some (.ref 30) := rfl
theorem gf_29_1 (rm : Nat) (iv : Nat → Int32) (av : Nat → Nat → Int32) (r : pW) : gt_f (wX rm iv av r) 2 29 1 = some (.ref 31) := rfl
theorem gf_29_2 (rm : Nat) (iv : Nat → Int32) (av : Nat → Nat → Int32) (r : pW) : gt_f (wX rm iv av r) 2 29 2 = some (.ref 32) := rfl
theorem gf_29_3 (rm : Nat) (iv : Nat → Int32) (av : Nat → Nat → Int32) (r : pW) : gt_f (wX rm iv av r) 2 29 3 = some (.int (iv 33)) := rfl
theorem pf_29_3 (rm : Nat) (iv : Nat → Int32) (av : Nat → Nat → Int32) (r : pW) (x : Int32) : pt_f (wX rm iv av r) 2 29 3 (.int x) = some (wX rm (upd iv 33 x) av r) := rfl
theorem ga_30 (rm : Nat) (iv : Nat → Int32) (av : Nat → Nat → Int32) (r : pW) : gt_a (wX rm iv av r) 30 = some (0, 120, .inl (av 19)) := rfl
theorem pa_30 (rm : Nat) (iv : Nat → Int32) (av : Nat → Nat → Int32) (r : pW) (f : Nat → Int32) : pt_a (wX rm iv av r) 30 (0, 120, .inl f) = wX rm iv (up_a av 19 f) r := rfl
theorem ga_31 (rm : Nat) (iv : Nat → Int32) (av : Nat → Nat → Int32) (r : pW) : gt_a (wX rm iv av r) 31 = some (0, 120, .inl (av 20)) := rfl
theorem pa_31 (rm : Nat) (iv : Nat → Int32) (av : Nat → Nat → Int32) (r : pW) (f : Nat → Int32) : pt_a (wX rm iv av r) 31 (0, 120, .inl f) = wX rm iv (up_a av 20 f) r := rfl
theorem ga_32 (rm : Nat) (iv : Nat → Int32) (av : Nat → Nat → Int32) (r : pW) : gt_a (wX rm iv av r) 32 = some (0, 120, .inl (av 21)) := rfl
theorem pa_32 (rm : Nat) (iv : Nat → Int32) (av : Nat → Nat → Int32) (r : pW) (f : Nat → Int32) : pt_a (wX rm iv av r) 32 (0, 120, .inl f) = wX rm iv (up_a av 21 f) r := rfl
theorem gc_33 (rm : Nat) (iv : Nat → Int32) (av : Nat → Nat → Int32) (r : pW) : gt_c (wX rm iv av r) 33 = some 2 := rfl
theorem gf_33_0 (rm : Nat) (iv : Nat → Int32) (av : Nat → Nat → Int32) (r : pW) : gt_f (wX rm iv av r) 2 33 0 = some (.ref 34) := rfl
theorem gf_33_1 (rm : Nat) (iv : Nat → Int32) (av : Nat → Nat → Int32) (r : pW) : gt_f (wX rm iv av r) 2 33 1 = some (.ref 35) := rfl
theorem gf_33_2 (rm : Nat) (iv : Nat → Int32) (av : Nat → Nat → Int32) (r : pW) : gt_f (wX rm iv av r) 2 33 2 = some (.ref 36) := rfl
theorem gf_33_3 (rm : Nat) (iv : Nat → Int32) (av : Nat → Nat → Int32) (r : pW) : gt_f (wX rm iv av r) 2 33 3 = some (.int (iv 34)) := rfl
theorem pf_33_3 (rm : Nat) (iv : Nat → Int32) (av : Nat → Nat → Int32) (r : pW) (x : Int32) : pt_f (wX rm iv av r) 2 33 3 (.int x) = some (wX rm (upd iv 34 x) av r) := rfl
theorem ga_34 (rm : Nat) (iv : Nat → Int32) (av : Nat → Nat → Int32) (r : pW) : gt_a (wX rm iv av r) 34 = some (0, 120, .inl (av 22)) := rfl
theorem pa_34 (rm : Nat) (iv : Nat → Int32) (av : Nat → Nat → Int32) (r : pW) (f : Nat → Int32) : pt_a (wX rm iv av r) 34 (0, 120, .inl f) = wX rm iv (up_a av 22 f) r := rfl
theorem ga_35 (rm : Nat) (iv : Nat → Int32) (av : Nat → Nat → Int32) (r : pW) : gt_a (wX rm iv av r) 35 = some (0, 120, .inl (av 23)) := rfl
theorem pa_35 (rm : Nat) (iv : Nat → Int32) (av : Nat → Nat → Int32) (r : pW) (f : Nat → Int32) : pt_a (wX rm iv av r) 35 (0, 120, .inl f) = wX rm iv (up_a av 23 f) r := rfl
theorem ga_36 (rm : Nat) (iv : Nat → Int32) (av : Nat → Nat → Int32) (r : pW) : gt_a (wX rm iv av r) 36 = some (0, 120, .inl (av 24)) := rfl
theorem pa_36 (rm : Nat) (iv : Nat → Int32) (av : Nat → Nat → Int32) (r : pW) (f : Nat → Int32) : pt_a (wX rm iv av r) 36 (0, 120, .inl f) = wX rm iv (up_a av 24 f) r := rfl
theorem gc_37 (rm : Nat) (iv : Nat → Int32) (av : Nat → Nat → Int32) (r : pW) : gt_c (wX rm iv av r) 37 = some 0 := rfl
theorem gf_37_0 (rm : Nat) (iv : Nat → Int32) (av : Nat → Nat → Int32) (r : pW) : gt_f (wX rm iv av r) 0 37 0 = some (.ref 38) := rfl
theorem gf_37_1 (rm : Nat) (iv : Nat → Int32) (av : Nat → Nat → Int32) (r : pW) : gt_f (wX rm iv av r) 0 37 1 = some (.ref 39) := rfl
theorem gf_37_2 (rm : Nat) (iv : Nat → Int32) (av : Nat → Nat → Int32) (r : pW) : gt_f (wX rm iv av r) 0 37 2 = some (.ref 40) := rfl
theorem gf_37_3 (rm : Nat) (iv : Nat → Int32) (av : Nat → Nat → Int32) (r : pW) : gt_f (wX rm iv av r) 0 37 3 = some (.ref 41) := rfl
theorem gf_37_4 (rm : Nat) (iv : Nat → Int32) (av : Nat → Nat → Int32) (r : pW) : gt_f (wX rm iv av r) 0 37 4 = some (.int (iv 7)) := rfl
theorem pf_37_4 (rm : Nat) (iv : Nat → Int32) (av : Nat → Nat → Int32) (r : pW) (x : Int32) : pt_f (wX rm iv av r) 0 37 4 (.int x) = some (wX rm (upd iv 7 x) av r) := rfl
theorem ga_38 (rm : Nat) (iv : Nat → Int32) (av : Nat → Nat → Int32) (r : pW) : gt_a (wX rm iv av r) 38 = some (0, 8, .inl (av 29)) := rfl
theorem pa_38 (rm : Nat) (iv : Nat → Int32) (av : Nat → Nat → Int32) (r : pW) (f : Nat → Int32) : pt_a (wX rm iv av r) 38 (0, 8, .inl f) = wX rm iv (up_a av 29 f) r := rfl
theorem ga_39 (rm : Nat) (iv : Nat → Int32) (av : Nat → Nat → Int32) (r : pW) : gt_a (wX rm iv av r) 39 = some (0, 8, .inl (av 30)) := rfl
theorem pa_39 (rm : Nat) (iv : Nat → Int32) (av : Nat → Nat → Int32) (r : pW) (f : Nat → Int32) : pt_a (wX rm iv av r) 39 (0, 8, .inl f) = wX rm iv (up_a av 30 f) r := rfl
theorem ga_40 (rm : Nat) (iv : Nat → Int32) (av : Nat → Nat → Int32) (r : pW) : gt_a (wX rm iv av r) 40 = some (0, 8, .inl (av 31)) := rfl
theorem pa_40 (rm : Nat) (iv : Nat → Int32) (av : Nat → Nat → Int32) (r : pW) (f : Nat → Int32) : pt_a (wX rm iv av r) 40 (0, 8, .inl f) = wX rm iv (up_a av 31 f) r := rfl
theorem ga_41 (rm : Nat) (iv : Nat → Int32) (av : Nat → Nat → Int32) (r : pW) : gt_a (wX rm iv av r) 41 = some (3, 8, .inr (.inr (.inr (.inr (fun j => if j < 8 then some (42 + j) else none))))) := rfl
theorem ga_42 (rm : Nat) (iv : Nat → Int32) (av : Nat → Nat → Int32) (r : pW) : gt_a (wX rm iv av r) 42 = some (1, 64, .inl (av 32)) := rfl
theorem pa_42 (rm : Nat) (iv : Nat → Int32) (av : Nat → Nat → Int32) (r : pW) (f : Nat → Int32) : pt_a (wX rm iv av r) 42 (1, 64, .inl f) = wX rm iv (up_a av 32 f) r := rfl
theorem ga_43 (rm : Nat) (iv : Nat → Int32) (av : Nat → Nat → Int32) (r : pW) : gt_a (wX rm iv av r) 43 = some (1, 64, .inl (av 33)) := rfl
theorem pa_43 (rm : Nat) (iv : Nat → Int32) (av : Nat → Nat → Int32) (r : pW) (f : Nat → Int32) : pt_a (wX rm iv av r) 43 (1, 64, .inl f) = wX rm iv (up_a av 33 f) r := rfl
theorem ga_44 (rm : Nat) (iv : Nat → Int32) (av : Nat → Nat → Int32) (r : pW) : gt_a (wX rm iv av r) 44 = some (1, 64, .inl (av 34)) := rfl
theorem pa_44 (rm : Nat) (iv : Nat → Int32) (av : Nat → Nat → Int32) (r : pW) (f : Nat → Int32) : pt_a (wX rm iv av r) 44 (1, 64, .inl f) = wX rm iv (up_a av 34 f) r := rfl
theorem ga_45 (rm : Nat) (iv : Nat → Int32) (av : Nat → Nat → Int32) (r : pW) : gt_a (wX rm iv av r) 45 = some (1, 64, .inl (av 35)) := rfl
theorem pa_45 (rm : Nat) (iv : Nat → Int32) (av : Nat → Nat → Int32) (r : pW) (f : Nat → Int32) : pt_a (wX rm iv av r) 45 (1, 64, .inl f) = wX rm iv (up_a av 35 f) r := rfl
theorem ga_46 (rm : Nat) (iv : Nat → Int32) (av : Nat → Nat → Int32) (r : pW) : gt_a (wX rm iv av r) 46 = some (1, 64, .inl (av 36)) := rfl
theorem pa_46 (rm : Nat) (iv : Nat → Int32) (av : Nat → Nat → Int32) (r : pW) (f : Nat → Int32) : pt_a (wX rm iv av r) 46 (1, 64, .inl f) = wX rm iv (up_a av 36 f) r := rfl
theorem ga_47 (rm : Nat) (iv : Nat → Int32) (av : Nat → Nat → Int32) (r : pW) : gt_a (wX rm iv av r) 47 = some (1, 64, .inl (av 37)) := rfl
theorem pa_47 (rm : Nat) (iv : Nat → Int32) (av : Nat → Nat → Int32) (r : pW) (f : Nat → Int32) : pt_a (wX rm iv av r) 47 (1, 64, .inl f) = wX rm iv (up_a av 37 f) r := rfl
theorem ga_48 (rm : Nat) (iv : Nat → Int32) (av : Nat → Nat → Int32) (r : pW) : gt_a (wX rm iv av r) 48 = some (1, 64, .inl (av 38)) := rfl
theorem pa_48 (rm : Nat) (iv : Nat → Int32) (av : Nat → Nat → Int32) (r : pW) (f : Nat → Int32) : pt_a (wX rm iv av r) 48 (1, 64, .inl f) = wX rm iv (up_a av 38 f) r := rfl
theorem ga_49 (rm : Nat) (iv : Nat → Int32) (av : Nat → Nat → Int32) (r : pW) : gt_a (wX rm iv av r) 49 = some (1, 64, .inl (av 39)) := rfl
theorem pa_49 (rm : Nat) (iv : Nat → Int32) (av : Nat → Nat → Int32) (r : pW) (f : Nat → Int32) : pt_a (wX rm iv av r) 49 (1, 64, .inl f) = wX rm iv (up_a av 39 f) r := rfl
theorem ga_50 (rm : Nat) (iv : Nat → Int32) (av : Nat → Nat → Int32) (r : pW) : gt_a (wX rm iv av r) 50 = some (1, 64, .inl (av 40)) := rfl
theorem pa_50 (rm : Nat) (iv : Nat → Int32) (av : Nat → Nat → Int32) (r : pW) (f : Nat → Int32) : pt_a (wX rm iv av r) 50 (1, 64, .inl f) = wX rm iv (up_a av 40 f) r := rfl
theorem ga_51 (rm : Nat) (iv : Nat → Int32) (av : Nat → Nat → Int32) (r : pW) : gt_a (wX rm iv av r) 51 = some (1, 64, .inl (av 41)) := rfl
theorem pa_51 (rm : Nat) (iv : Nat → Int32) (av : Nat → Nat → Int32) (r : pW) (f : Nat → Int32) : pt_a (wX rm iv av r) 51 (1, 64, .inl f) = wX rm iv (up_a av 41 f) r := rfl
theorem gc_52 (rm : Nat) (iv : Nat → Int32) (av : Nat → Nat → Int32) (r : pW) : gt_c (wX rm iv av r) 52 = some 3 := rfl
theorem gf_52_0 (rm : Nat) (iv : Nat → Int32) (av : Nat → Nat → Int32) (r : pW) : gt_f (wX rm iv av r) 3 52 0 = some (.int (iv 50)) := rfl
theorem pf_52_0 (rm : Nat) (iv : Nat → Int32) (av : Nat → Nat → Int32) (r : pW) (x : Int32) : pt_f (wX rm iv av r) 3 52 0 (.int x) = some (wX rm (upd iv 50 x) av r) := rfl
theorem gf_52_1 (rm : Nat) (iv : Nat → Int32) (av : Nat → Nat → Int32) (r : pW) : gt_f (wX rm iv av r) 3 52 1 = some (.int (iv 51)) := rfl
theorem pf_52_1 (rm : Nat) (iv : Nat → Int32) (av : Nat → Nat → Int32) (r : pW) (x : Int32) : pt_f (wX rm iv av r) 3 52 1 (.int x) = some (wX rm (upd iv 51 x) av r) := rfl
theorem gf_52_2 (rm : Nat) (iv : Nat → Int32) (av : Nat → Nat → Int32) (r : pW) : gt_f (wX rm iv av r) 3 52 2 = some (.int (iv 52)) := rfl
theorem pf_52_2 (rm : Nat) (iv : Nat → Int32) (av : Nat → Nat → Int32) (r : pW) (x : Int32) : pt_f (wX rm iv av r) 3 52 2 (.int x) = some (wX rm (upd iv 52 x) av r) := rfl
theorem gf_52_3 (rm : Nat) (iv : Nat → Int32) (av : Nat → Nat → Int32) (r : pW) : gt_f (wX rm iv av r) 3 52 3 = some (.int (iv 53)) := rfl
theorem pf_52_3 (rm : Nat) (iv : Nat → Int32) (av : Nat → Nat → Int32) (r : pW) (x : Int32) : pt_f (wX rm iv av r) 3 52 3 (.int x) = some (wX rm (upd iv 53 x) av r) := rfl
theorem gf_52_4 (rm : Nat) (iv : Nat → Int32) (av : Nat → Nat → Int32) (r : pW) : gt_f (wX rm iv av r) 3 52 4 = some (.int (iv 54)) := rfl
theorem pf_52_4 (rm : Nat) (iv : Nat → Int32) (av : Nat → Nat → Int32) (r : pW) (x : Int32) : pt_f (wX rm iv av r) 3 52 4 (.int x) = some (wX rm (upd iv 54 x) av r) := rfl
theorem gf_52_5 (rm : Nat) (iv : Nat → Int32) (av : Nat → Nat → Int32) (r : pW) : gt_f (wX rm iv av r) 3 52 5 = some (.int (iv 55)) := rfl
theorem pf_52_5 (rm : Nat) (iv : Nat → Int32) (av : Nat → Nat → Int32) (r : pW) (x : Int32) : pt_f (wX rm iv av r) 3 52 5 (.int x) = some (wX rm (upd iv 55 x) av r) := rfl
theorem gc_53 (rm : Nat) (iv : Nat → Int32) (av : Nat → Nat → Int32) (r : pW) : gt_c (wX rm iv av r) 53 = some 3 := rfl
theorem gf_53_0 (rm : Nat) (iv : Nat → Int32) (av : Nat → Nat → Int32) (r : pW) : gt_f (wX rm iv av r) 3 53 0 = some (.int (iv 60)) := rfl
theorem pf_53_0 (rm : Nat) (iv : Nat → Int32) (av : Nat → Nat → Int32) (r : pW) (x : Int32) : pt_f (wX rm iv av r) 3 53 0 (.int x) = some (wX rm (upd iv 60 x) av r) := rfl
theorem gf_53_1 (rm : Nat) (iv : Nat → Int32) (av : Nat → Nat → Int32) (r : pW) : gt_f (wX rm iv av r) 3 53 1 = some (.int (iv 61)) := rfl
theorem pf_53_1 (rm : Nat) (iv : Nat → Int32) (av : Nat → Nat → Int32) (r : pW) (x : Int32) : pt_f (wX rm iv av r) 3 53 1 (.int x) = some (wX rm (upd iv 61 x) av r) := rfl
theorem gf_53_2 (rm : Nat) (iv : Nat → Int32) (av : Nat → Nat → Int32) (r : pW) : gt_f (wX rm iv av r) 3 53 2 = some (.int (iv 62)) := rfl
theorem pf_53_2 (rm : Nat) (iv : Nat → Int32) (av : Nat → Nat → Int32) (r : pW) (x : Int32) : pt_f (wX rm iv av r) 3 53 2 (.int x) = some (wX rm (upd iv 62 x) av r) := rfl
theorem gf_53_3 (rm : Nat) (iv : Nat → Int32) (av : Nat → Nat → Int32) (r : pW) : gt_f (wX rm iv av r) 3 53 3 = some (.int (iv 63)) := rfl
theorem pf_53_3 (rm : Nat) (iv : Nat → Int32) (av : Nat → Nat → Int32) (r : pW) (x : Int32) : pt_f (wX rm iv av r) 3 53 3 (.int x) = some (wX rm (upd iv 63 x) av r) := rfl
theorem gf_53_4 (rm : Nat) (iv : Nat → Int32) (av : Nat → Nat → Int32) (r : pW) : gt_f (wX rm iv av r) 3 53 4 = some (.int (iv 64)) := rfl
theorem pf_53_4 (rm : Nat) (iv : Nat → Int32) (av : Nat → Nat → Int32) (r : pW) (x : Int32) : pt_f (wX rm iv av r) 3 53 4 (.int x) = some (wX rm (upd iv 64 x) av r) := rfl
theorem gf_53_5 (rm : Nat) (iv : Nat → Int32) (av : Nat → Nat → Int32) (r : pW) : gt_f (wX rm iv av r) 3 53 5 = some (.int (iv 65)) := rfl
theorem pf_53_5 (rm : Nat) (iv : Nat → Int32) (av : Nat → Nat → Int32) (r : pW) (x : Int32) : pt_f (wX rm iv av r) 3 53 5 (.int x) = some (wX rm (upd iv 65 x) av r) := rfl
theorem gc_54 (rm : Nat) (iv : Nat → Int32) (av : Nat → Nat → Int32) (jv : Nat → Int32) (bv : Nat → Nat → Int32) : gt_c (wX rm iv av (wM rm jv bv)) 54 = some 7 := rfl
theorem gf_54_0 (rm : Nat) (iv : Nat → Int32) (av : Nat → Nat → Int32) (jv : Nat → Int32) (bv : Nat → Nat → Int32) : gt_f (wX rm iv av (wM rm jv bv)) 7 54 0 = some (.int (nI rm)) := rfl
theorem gf_54_1 (rm : Nat) (iv : Nat → Int32) (av : Nat → Nat → Int32) (jv : Nat → Int32) (bv : Nat → Nat → Int32) : gt_f (wX rm iv av (wM rm jv bv)) 7 54 1 = some (.ref 55) := rfl
theorem gf_54_2 (rm : Nat) (iv : Nat → Int32) (av : Nat → Nat → Int32) (jv : Nat → Int32) (bv : Nat → Nat → Int32) : gt_f (wX rm iv av (wM rm jv bv)) 7 54 2 = some (.ref 56) := rfl
theorem gf_54_3 (rm : Nat) (iv : Nat → Int32) (av : Nat → Nat → Int32) (jv : Nat → Int32) (bv : Nat → Nat → Int32) : gt_f (wX rm iv av (wM rm jv bv)) 7 54 3 = some (.ref 57) := rfl
theorem gf_54_4 (rm : Nat) (iv : Nat → Int32) (av : Nat → Nat → Int32) (jv : Nat → Int32) (bv : Nat → Nat → Int32) : gt_f (wX rm iv av (wM rm jv bv)) 7 54 4 = some (.ref 58) := rfl
theorem gf_54_5 (rm : Nat) (iv : Nat → Int32) (av : Nat → Nat → Int32) (jv : Nat → Int32) (bv : Nat → Nat → Int32) : gt_f (wX rm iv av (wM rm jv bv)) 7 54 5 = some (.ref 59) := rfl
theorem gf_54_6 (rm : Nat) (iv : Nat → Int32) (av : Nat → Nat → Int32) (jv : Nat → Int32) (bv : Nat → Nat → Int32) : gt_f (wX rm iv av (wM rm jv bv)) 7 54 6 = some (.ref 60) := rfl
theorem gf_54_7 (rm : Nat) (iv : Nat → Int32) (av : Nat → Nat → Int32) (jv : Nat → Int32) (bv : Nat → Nat → Int32) : gt_f (wX rm iv av (wM rm jv bv)) 7 54 7 = some (.ref 61) := rfl
theorem gf_54_8 (rm : Nat) (iv : Nat → Int32) (av : Nat → Nat → Int32) (jv : Nat → Int32) (bv : Nat → Nat → Int32) : gt_f (wX rm iv av (wM rm jv bv)) 7 54 8 = some (.ref 62) := rfl
theorem gf_54_9 (rm : Nat) (iv : Nat → Int32) (av : Nat → Nat → Int32) (jv : Nat → Int32) (bv : Nat → Nat → Int32) : gt_f (wX rm iv av (wM rm jv bv)) 7 54 9 = some (.ref 63) := rfl
theorem gf_54_10 (rm : Nat) (iv : Nat → Int32) (av : Nat → Nat → Int32) (jv : Nat → Int32) (bv : Nat → Nat → Int32) : gt_f (wX rm iv av (wM rm jv bv)) 7 54 10 = some (.int (jv 0)) := rfl
theorem pf_54_10 (rm : Nat) (iv : Nat → Int32) (av : Nat → Nat → Int32) (jv : Nat → Int32) (bv : Nat → Nat → Int32) (x : Int32) : pt_f (wX rm iv av (wM rm jv bv)) 7 54 10 (.int x) = some (wX rm iv av (wM rm (upd jv 0 x) bv)) := rfl
theorem gf_54_11 (rm : Nat) (iv : Nat → Int32) (av : Nat → Nat → Int32) (jv : Nat → Int32) (bv : Nat → Nat → Int32) : gt_f (wX rm iv av (wM rm jv bv)) 7 54 11 = some (.int (jv 1)) := rfl
theorem pf_54_11 (rm : Nat) (iv : Nat → Int32) (av : Nat → Nat → Int32) (jv : Nat → Int32) (bv : Nat → Nat → Int32) (x : Int32) : pt_f (wX rm iv av (wM rm jv bv)) 7 54 11 (.int x) = some (wX rm iv av (wM rm (upd jv 1 x) bv)) := rfl
theorem gf_54_12 (rm : Nat) (iv : Nat → Int32) (av : Nat → Nat → Int32) (jv : Nat → Int32) (bv : Nat → Nat → Int32) : gt_f (wX rm iv av (wM rm jv bv)) 7 54 12 = some (.int (jv 2)) := rfl
theorem pf_54_12 (rm : Nat) (iv : Nat → Int32) (av : Nat → Nat → Int32) (jv : Nat → Int32) (bv : Nat → Nat → Int32) (x : Int32) : pt_f (wX rm iv av (wM rm jv bv)) 7 54 12 (.int x) = some (wX rm iv av (wM rm (upd jv 2 x) bv)) := rfl
theorem gf_54_13 (rm : Nat) (iv : Nat → Int32) (av : Nat → Nat → Int32) (jv : Nat → Int32) (bv : Nat → Nat → Int32) : gt_f (wX rm iv av (wM rm jv bv)) 7 54 13 = some (.int (jv 3)) := rfl
theorem pf_54_13 (rm : Nat) (iv : Nat → Int32) (av : Nat → Nat → Int32) (jv : Nat → Int32) (bv : Nat → Nat → Int32) (x : Int32) : pt_f (wX rm iv av (wM rm jv bv)) 7 54 13 (.int x) = some (wX rm iv av (wM rm (upd jv 3 x) bv)) := rfl
theorem gf_54_14 (rm : Nat) (iv : Nat → Int32) (av : Nat → Nat → Int32) (jv : Nat → Int32) (bv : Nat → Nat → Int32) : gt_f (wX rm iv av (wM rm jv bv)) 7 54 14 = some (.int (jv 4)) := rfl
theorem pf_54_14 (rm : Nat) (iv : Nat → Int32) (av : Nat → Nat → Int32) (jv : Nat → Int32) (bv : Nat → Nat → Int32) (x : Int32) : pt_f (wX rm iv av (wM rm jv bv)) 7 54 14 (.int x) = some (wX rm iv av (wM rm (upd jv 4 x) bv)) := rfl
theorem gf_54_15 (rm : Nat) (iv : Nat → Int32) (av : Nat → Nat → Int32) (jv : Nat → Int32) (bv : Nat → Nat → Int32) : gt_f (wX rm iv av (wM rm jv bv)) 7 54 15 = some (.int (jv 5)) := rfl
theorem pf_54_15 (rm : Nat) (iv : Nat → Int32) (av : Nat → Nat → Int32) (jv : Nat → Int32) (bv : Nat → Nat → Int32) (x : Int32) : pt_f (wX rm iv av (wM rm jv bv)) 7 54 15 (.int x) = some (wX rm iv av (wM rm (upd jv 5 x) bv)) := rfl
theorem gf_54_16 (rm : Nat) (iv : Nat → Int32) (av : Nat → Nat → Int32) (jv : Nat → Int32) (bv : Nat → Nat → Int32) : gt_f (wX rm iv av (wM rm jv bv)) 7 54 16 = some (.ref 64) := rfl
theorem gf_54_17 (rm : Nat) (iv : Nat → Int32) (av : Nat → Nat → Int32) (jv : Nat → Int32) (bv : Nat → Nat → Int32) : gt_f (wX rm iv av (wM rm jv bv)) 7 54 17 = some (.int (jv 6)) := rfl
theorem pf_54_17 (rm : Nat) (iv : Nat → Int32) (av : Nat → Nat → Int32) (jv : Nat → Int32) (bv : Nat → Nat → Int32) (x : Int32) : pt_f (wX rm iv av (wM rm jv bv)) 7 54 17 (.int x) = some (wX rm iv av (wM rm (upd jv 6 x) bv)) := rfl
theorem gf_54_18 (rm : Nat) (iv : Nat → Int32) (av : Nat → Nat → Int32) (jv : Nat → Int32) (bv : Nat → Nat → Int32) : gt_f (wX rm iv av (wM rm jv bv)) 7 54 18 = some (.ref 65) := rfl
theorem gf_54_19 (rm : Nat) (iv : Nat → Int32) (av : Nat → Nat → Int32) (jv : Nat → Int32) (bv : Nat → Nat → Int32) : gt_f (wX rm iv av (wM rm jv bv)) 7 54 19 = some (.int (jv 7)) := rfl
theorem pf_54_19 (rm : Nat) (iv : Nat → Int32) (av : Nat → Nat → Int32) (jv : Nat → Int32) (bv : Nat → Nat → Int32) (x : Int32) : pt_f (wX rm iv av (wM rm jv bv)) 7 54 19 (.int x) = some (wX rm iv av (wM rm (upd jv 7 x) bv)) := rfl
theorem gf_54_20 (rm : Nat) (iv : Nat → Int32) (av : Nat → Nat → Int32) (jv : Nat → Int32) (bv : Nat → Nat → Int32) : gt_f (wX rm iv av (wM rm jv bv)) 7 54 20 = some (.int (jv 8)) := rfl
theorem pf_54_20 (rm : Nat) (iv : Nat → Int32) (av : Nat → Nat → Int32) (jv : Nat → Int32) (bv : Nat → Nat → Int32) (x : Int32) : pt_f (wX rm iv av (wM rm jv bv)) 7 54 20 (.int x) = some (wX rm iv av (wM rm (upd jv 8 x) bv)) := rfl
theorem gf_54_21 (rm : Nat) (iv : Nat → Int32) (av : Nat → Nat → Int32) (jv : Nat → Int32) (bv : Nat → Nat → Int32) : gt_f (wX rm iv av (wM rm jv bv)) 7 54 21 = some (.int (jv 9)) := rfl
theorem pf_54_21 (rm : Nat) (iv : Nat → Int32) (av : Nat → Nat → Int32) (jv : Nat → Int32) (bv : Nat → Nat → Int32) (x : Int32) : pt_f (wX rm iv av (wM rm jv bv)) 7 54 21 (.int x) = some (wX rm iv av (wM rm (upd jv 9 x) bv)) := rfl
theorem gf_54_22 (rm : Nat) (iv : Nat → Int32) (av : Nat → Nat → Int32) (jv : Nat → Int32) (bv : Nat → Nat → Int32) : gt_f (wX rm iv av (wM rm jv bv)) 7 54 22 = some (.int (jv 10)) := rfl
theorem pf_54_22 (rm : Nat) (iv : Nat → Int32) (av : Nat → Nat → Int32) (jv : Nat → Int32) (bv : Nat → Nat → Int32) (x : Int32) : pt_f (wX rm iv av (wM rm jv bv)) 7 54 22 (.int x) = some (wX rm iv av (wM rm (upd jv 10 x) bv)) := rfl
theorem gf_54_23 (rm : Nat) (iv : Nat → Int32) (av : Nat → Nat → Int32) (jv : Nat → Int32) (bv : Nat → Nat → Int32) : gt_f (wX rm iv av (wM rm jv bv)) 7 54 23 = some (.int (jv 11)) := rfl
theorem pf_54_23 (rm : Nat) (iv : Nat → Int32) (av : Nat → Nat → Int32) (jv : Nat → Int32) (bv : Nat → Nat → Int32) (x : Int32) : pt_f (wX rm iv av (wM rm jv bv)) 7 54 23 (.int x) = some (wX rm iv av (wM rm (upd jv 11 x) bv)) := rfl
theorem gf_54_24 (rm : Nat) (iv : Nat → Int32) (av : Nat → Nat → Int32) (jv : Nat → Int32) (bv : Nat → Nat → Int32) : gt_f (wX rm iv av (wM rm jv bv)) 7 54 24 = some (.ref 66) := rfl
theorem gf_54_25 (rm : Nat) (iv : Nat → Int32) (av : Nat → Nat → Int32) (jv : Nat → Int32) (bv : Nat → Nat → Int32) : gt_f (wX rm iv av (wM rm jv bv)) 7 54 25 = some (.ref 67) := rfl
theorem gf_54_26 (rm : Nat) (iv : Nat → Int32) (av : Nat → Nat → Int32) (jv : Nat → Int32) (bv : Nat → Nat → Int32) : gt_f (wX rm iv av (wM rm jv bv)) 7 54 26 = some (.ref 68) := rfl
theorem gf_54_27 (rm : Nat) (iv : Nat → Int32) (av : Nat → Nat → Int32) (jv : Nat → Int32) (bv : Nat → Nat → Int32) : gt_f (wX rm iv av (wM rm jv bv)) 7 54 27 = some (.ref 69) := rfl
theorem gf_54_28 (rm : Nat) (iv : Nat → Int32) (av : Nat → Nat → Int32) (jv : Nat → Int32) (bv : Nat → Nat → Int32) : gt_f (wX rm iv av (wM rm jv bv)) 7 54 28 = some (.int (jv 12)) := rfl
theorem pf_54_28 (rm : Nat) (iv : Nat → Int32) (av : Nat → Nat → Int32) (jv : Nat → Int32) (bv : Nat → Nat → Int32) (x : Int32) : pt_f (wX rm iv av (wM rm jv bv)) 7 54 28 (.int x) = some (wX rm iv av (wM rm (upd jv 12 x) bv)) := rfl
theorem gf_54_29 (rm : Nat) (iv : Nat → Int32) (av : Nat → Nat → Int32) (jv : Nat → Int32) (bv : Nat → Nat → Int32) : gt_f (wX rm iv av (wM rm jv bv)) 7 54 29 = some (.int (jv 13)) := rfl
theorem pf_54_29 (rm : Nat) (iv : Nat → Int32) (av : Nat → Nat → Int32) (jv : Nat → Int32) (bv : Nat → Nat → Int32) (x : Int32) : pt_f (wX rm iv av (wM rm jv bv)) 7 54 29 (.int x) = some (wX rm iv av (wM rm (upd jv 13 x) bv)) := rfl
theorem gf_54_30 (rm : Nat) (iv : Nat → Int32) (av : Nat → Nat → Int32) (jv : Nat → Int32) (bv : Nat → Nat → Int32) : gt_f (wX rm iv av (wM rm jv bv)) 7 54 30 = some (.int (jv 14)) := rfl
theorem pf_54_30 (rm : Nat) (iv : Nat → Int32) (av : Nat → Nat → Int32) (jv : Nat → Int32) (bv : Nat → Nat → Int32) (x : Int32) : pt_f (wX rm iv av (wM rm jv bv)) 7 54 30 (.int x) = some (wX rm iv av (wM rm (upd jv 14 x) bv)) := rfl
theorem gf_54_31 (rm : Nat) (iv : Nat → Int32) (av : Nat → Nat → Int32) (jv : Nat → Int32) (bv : Nat → Nat → Int32) : gt_f (wX rm iv av (wM rm jv bv)) 7 54 31 = some (.int (jv 15)) := rfl
theorem pf_54_31 (rm : Nat) (iv : Nat → Int32) (av : Nat → Nat → Int32) (jv : Nat → Int32) (bv : Nat → Nat → Int32) (x : Int32) : pt_f (wX rm iv av (wM rm jv bv)) 7 54 31 (.int x) = some (wX rm iv av (wM rm (upd jv 15 x) bv)) := rfl
theorem gf_54_32 (rm : Nat) (iv : Nat → Int32) (av : Nat → Nat → Int32) (jv : Nat → Int32) (bv : Nat → Nat → Int32) : gt_f (wX rm iv av (wM rm jv bv)) 7 54 32 = some (.int (jv 16)) := rfl
theorem pf_54_32 (rm : Nat) (iv : Nat → Int32) (av : Nat → Nat → Int32) (jv : Nat → Int32) (bv : Nat → Nat → Int32) (x : Int32) : pt_f (wX rm iv av (wM rm jv bv)) 7 54 32 (.int x) = some (wX rm iv av (wM rm (upd jv 16 x) bv)) := rfl
theorem gf_54_33 (rm : Nat) (iv : Nat → Int32) (av : Nat → Nat → Int32) (jv : Nat → Int32) (bv : Nat → Nat → Int32) : gt_f (wX rm iv av (wM rm jv bv)) 7 54 33 = some (.int (jv 17)) := rfl
theorem pf_54_33 (rm : Nat) (iv : Nat → Int32) (av : Nat → Nat → Int32) (jv : Nat → Int32) (bv : Nat → Nat → Int32) (x : Int32) : pt_f (wX rm iv av (wM rm jv bv)) 7 54 33 (.int x) = some (wX rm iv av (wM rm (upd jv 17 x) bv)) := rfl
theorem gf_54_34 (rm : Nat) (iv : Nat → Int32) (av : Nat → Nat → Int32) (jv : Nat → Int32) (bv : Nat → Nat → Int32) : gt_f (wX rm iv av (wM rm jv bv)) 7 54 34 = some (.int (jv 18)) := rfl
theorem pf_54_34 (rm : Nat) (iv : Nat → Int32) (av : Nat → Nat → Int32) (jv : Nat → Int32) (bv : Nat → Nat → Int32) (x : Int32) : pt_f (wX rm iv av (wM rm jv bv)) 7 54 34 (.int x) = some (wX rm iv av (wM rm (upd jv 18 x) bv)) := rfl
theorem gf_54_35 (rm : Nat) (iv : Nat → Int32) (av : Nat → Nat → Int32) (jv : Nat → Int32) (bv : Nat → Nat → Int32) : gt_f (wX rm iv av (wM rm jv bv)) 7 54 35 = some (.ref 70) := rfl
theorem gf_54_36 (rm : Nat) (iv : Nat → Int32) (av : Nat → Nat → Int32) (jv : Nat → Int32) (bv : Nat → Nat → Int32) : gt_f (wX rm iv av (wM rm jv bv)) 7 54 36 = some (.int (jv 19)) := rfl
theorem pf_54_36 (rm : Nat) (iv : Nat → Int32) (av : Nat → Nat → Int32) (jv : Nat → Int32) (bv : Nat → Nat → Int32) (x : Int32) : pt_f (wX rm iv av (wM rm jv bv)) 7 54 36 (.int x) = some (wX rm iv av (wM rm (upd jv 19 x) bv)) := rfl
theorem gf_54_37 (rm : Nat) (iv : Nat → Int32) (av : Nat → Nat → Int32) (jv : Nat → Int32) (bv : Nat → Nat → Int32) : gt_f (wX rm iv av (wM rm jv bv)) 7 54 37 = some (.ref 71) := rfl
theorem gf_54_38 (rm : Nat) (iv : Nat → Int32) (av : Nat → Nat → Int32) (jv : Nat → Int32) (bv : Nat → Nat → Int32) : gt_f (wX rm iv av (wM rm jv bv)) 7 54 38 = some (.ref 72) := rfl
theorem gf_54_39 (rm : Nat) (iv : Nat → Int32) (av : Nat → Nat → Int32) (jv : Nat → Int32) (bv : Nat → Nat → Int32) : gt_f (wX rm iv av (wM rm jv bv)) 7 54 39 = some (.ref 73) := rfl
theorem gf_54_40 (rm : Nat) (iv : Nat → Int32) (av : Nat → Nat → Int32) (jv : Nat → Int32) (bv : Nat → Nat → Int32) : gt_f (wX rm iv av (wM rm jv bv)) 7 54 40 = some (.ref 74) := rfl
theorem gf_54_41 (rm : Nat) (iv : Nat → Int32) (av : Nat → Nat → Int32) (jv : Nat → Int32) (bv : Nat → Nat → Int32) : gt_f (wX rm iv av (wM rm jv bv)) 7 54 41 = some (.int (jv 20)) := rfl
theorem pf_54_41 (rm : Nat) (iv : Nat → Int32) (av : Nat → Nat → Int32) (jv : Nat → Int32) (bv : Nat → Nat → Int32) (x : Int32) : pt_f (wX rm iv av (wM rm jv bv)) 7 54 41 (.int x) = some (wX rm iv av (wM rm (upd jv 20 x) bv)) := rfl
theorem gf_54_42 (rm : Nat) (iv : Nat → Int32) (av : Nat → Nat → Int32) (jv : Nat → Int32) (bv : Nat → Nat → Int32) : gt_f (wX rm iv av (wM rm jv bv)) 7 54 42 = some (.ref 75) := rfl
theorem gf_54_43 (rm : Nat) (iv : Nat → Int32) (av : Nat → Nat → Int32) (jv : Nat → Int32) (bv : Nat → Nat → Int32) : gt_f (wX rm iv av (wM rm jv bv)) 7 54 43 = some (.ref 76) := rfl
theorem gf_54_44 (rm : Nat) (iv : Nat → Int32) (av : Nat → Nat → Int32) (jv : Nat → Int32) (bv : Nat → Nat → Int32) : gt_f (wX rm iv av (wM rm jv bv)) 7 54 44 = some (.ref 77) := rfl
theorem gf_54_45 (rm : Nat) (iv : Nat → Int32) (av : Nat → Nat → Int32) (jv : Nat → Int32) (bv : Nat → Nat → Int32) : gt_f (wX rm iv av (wM rm jv bv)) 7 54 45 = some (.ref 78) := rfl
theorem gf_54_46 (rm : Nat) (iv : Nat → Int32) (av : Nat → Nat → Int32) (jv : Nat → Int32) (bv : Nat → Nat → Int32) : gt_f (wX rm iv av (wM rm jv bv)) 7 54 46 = some (.int (jv 21)) := rfl
theorem pf_54_46 (rm : Nat) (iv : Nat → Int32) (av : Nat → Nat → Int32) (jv : Nat → Int32) (bv : Nat → Nat → Int32) (x : Int32) : pt_f (wX rm iv av (wM rm jv bv)) 7 54 46 (.int x) = some (wX rm iv av (wM rm (upd jv 21 x) bv)) := rfl
theorem gf_54_47 (rm : Nat) (iv : Nat → Int32) (av : Nat → Nat → Int32) (jv : Nat → Int32) (bv : Nat → Nat → Int32) : gt_f (wX rm iv av (wM rm jv bv)) 7 54 47 = some (.int (jv 22)) := rfl
theorem pf_54_47 (rm : Nat) (iv : Nat → Int32) (av : Nat → Nat → Int32) (jv : Nat → Int32) (bv : Nat → Nat → Int32) (x : Int32) : pt_f (wX rm iv av (wM rm jv bv)) 7 54 47 (.int x) = some (wX rm iv av (wM rm (upd jv 22 x) bv)) := rfl
theorem gf_54_48 (rm : Nat) (iv : Nat → Int32) (av : Nat → Nat → Int32) (jv : Nat → Int32) (bv : Nat → Nat → Int32) : gt_f (wX rm iv av (wM rm jv bv)) 7 54 48 = some (.int (jv 23)) := rfl
theorem pf_54_48 (rm : Nat) (iv : Nat → Int32) (av : Nat → Nat → Int32) (jv : Nat → Int32) (bv : Nat → Nat → Int32) (x : Int32) : pt_f (wX rm iv av (wM rm jv bv)) 7 54 48 (.int x) = some (wX rm iv av (wM rm (upd jv 23 x) bv)) := rfl
theorem gf_54_49 (rm : Nat) (iv : Nat → Int32) (av : Nat → Nat → Int32) (jv : Nat → Int32) (bv : Nat → Nat → Int32) : gt_f (wX rm iv av (wM rm jv bv)) 7 54 49 = some (.int (jv 24)) := rfl
theorem pf_54_49 (rm : Nat) (iv : Nat → Int32) (av : Nat → Nat → Int32) (jv : Nat → Int32) (bv : Nat → Nat → Int32) (x : Int32) : pt_f (wX rm iv av (wM rm jv bv)) 7 54 49 (.int x) = some (wX rm iv av (wM rm (upd jv 24 x) bv)) := rfl
theorem gf_54_50 (rm : Nat) (iv : Nat → Int32) (av : Nat → Nat → Int32) (jv : Nat → Int32) (bv : Nat → Nat → Int32) : gt_f (wX rm iv av (wM rm jv bv)) 7 54 50 = some (.ref 79) := rfl
theorem ga_55 (rm : Nat) (iv : Nat → Int32) (av : Nat → Nat → Int32) (jv : Nat → Int32) (bv : Nat → Nat → Int32) : gt_a (wX rm iv av (wM rm jv bv)) 55 = some (0, 3, .inl (bv 0)) := rfl
theorem pa_55 (rm : Nat) (iv : Nat → Int32) (av : Nat → Nat → Int32) (jv : Nat → Int32) (bv : Nat → Nat → Int32) (f : Nat → Int32) : pt_a (wX rm iv av (wM rm jv bv)) 55 (0, 3, .inl f) = wX rm iv av (wM rm jv (up_a bv 0 f)) := rfl
theorem ga_56 (rm : Nat) (iv : Nat → Int32) (av : Nat → Nat → Int32) (jv : Nat → Int32) (bv : Nat → Nat → Int32) : gt_a (wX rm iv av (wM rm jv bv)) 56 = some (0, 3, .inl (bv 1)) := rfl
theorem pa_56 (rm : Nat) (iv : Nat → Int32) (av : Nat → Nat → Int32) (jv : Nat → Int32) (bv : Nat → Nat → Int32) (f : Nat → Int32) : pt_a (wX rm iv av (wM rm jv bv)) 56 (0, 3, .inl f) = wX rm iv av (wM rm jv (up_a bv 1 f)) := rfl
theorem ga_57 (rm : Nat) (iv : Nat → Int32) (av : Nat → Nat → Int32) (jv : Nat → Int32) (bv : Nat → Nat → Int32) : gt_a (wX rm iv av (wM rm jv bv)) 57 = some (1, 20000, .inl (bv 2)) := rfl
theorem pa_57 (rm : Nat) (iv : Nat → Int32) (av : Nat → Nat → Int32) (jv : Nat → Int32) (bv : Nat → Nat → Int32) (f : Nat → Int32) : pt_a (wX rm iv av (wM rm jv bv)) 57 (1, 20000, .inl f) = wX rm iv av (wM rm jv (up_a bv 2 f)) := rfl
theorem ga_58 (rm : Nat) (iv : Nat → Int32) (av : Nat → Nat → Int32) (jv : Nat → Int32) (bv : Nat → Nat → Int32) : gt_a (wX rm iv av (wM rm jv bv)) 58 = some (1, 20000, .inl (bv 3)) := rfl
theorem pa_58 (rm : Nat) (iv : Nat → Int32) (av : Nat → Nat → Int32) (jv : Nat → Int32) (bv : Nat → Nat → Int32) (f : Nat → Int32) : pt_a (wX rm iv av (wM rm jv bv)) 58 (1, 20000, .inl f) = wX rm iv av (wM rm jv (up_a bv 3 f)) := rfl
theorem ga_59 (rm : Nat) (iv : Nat → Int32) (av : Nat → Nat → Int32) (jv : Nat → Int32) (bv : Nat → Nat → Int32) : gt_a (wX rm iv av (wM rm jv bv)) 59 = some (0, 6000, .inl (bv 4)) := rfl
theorem pa_59 (rm : Nat) (iv : Nat → Int32) (av : Nat → Nat → Int32) (jv : Nat → Int32) (bv : Nat → Nat → Int32) (f : Nat → Int32) : pt_a (wX rm iv av (wM rm jv bv)) 59 (0, 6000, .inl f) = wX rm iv av (wM rm jv (up_a bv 4 f)) := rfl
theorem ga_60 (rm : Nat) (iv : Nat → Int32) (av : Nat → Nat → Int32) (jv : Nat → Int32) (bv : Nat → Nat → Int32) : gt_a (wX rm iv av (wM rm jv bv)) 60 = some (0, 6000, .inl (bv 5)) := rfl
theorem pa_60 (rm : Nat) (iv : Nat → Int32) (av : Nat → Nat → Int32) (jv : Nat → Int32) (bv : Nat → Nat → Int32) (f : Nat → Int32) : pt_a (wX rm iv av (wM rm jv bv)) 60 (0, 6000, .inl f) = wX rm iv av (wM rm jv (up_a bv 5 f)) := rfl
theorem ga_61 (rm : Nat) (iv : Nat → Int32) (av : Nat → Nat → Int32) (jv : Nat → Int32) (bv : Nat → Nat → Int32) : gt_a (wX rm iv av (wM rm jv bv)) 61 = some (0, 6000, .inl (bv 6)) := rfl
theorem pa_61 (rm : Nat) (iv : Nat → Int32) (av : Nat → Nat → Int32) (jv : Nat → Int32) (bv : Nat → Nat → Int32) (f : Nat → Int32) : pt_a (wX rm iv av (wM rm jv bv)) 61 (0, 6000, .inl f) = wX rm iv av (wM rm jv (up_a bv 6 f)) := rfl
theorem ga_62 (rm : Nat) (iv : Nat → Int32) (av : Nat → Nat → Int32) (jv : Nat → Int32) (bv : Nat → Nat → Int32) : gt_a (wX rm iv av (wM rm jv bv)) 62 = some (0, 6000, .inl (bv 7)) := rfl
theorem pa_62 (rm : Nat) (iv : Nat → Int32) (av : Nat → Nat → Int32) (jv : Nat → Int32) (bv : Nat → Nat → Int32) (f : Nat → Int32) : pt_a (wX rm iv av (wM rm jv bv)) 62 (0, 6000, .inl f) = wX rm iv av (wM rm jv (up_a bv 7 f)) := rfl
theorem ga_63 (rm : Nat) (iv : Nat → Int32) (av : Nat → Nat → Int32) (jv : Nat → Int32) (bv : Nat → Nat → Int32) : gt_a (wX rm iv av (wM rm jv bv)) 63 = some (1, 90000, .inl (bv 8)) := rfl
theorem pa_63 (rm : Nat) (iv : Nat → Int32) (av : Nat → Nat → Int32) (jv : Nat → Int32) (bv : Nat → Nat → Int32) (f : Nat → Int32) : pt_a (wX rm iv av (wM rm jv bv)) 63 (1, 90000, .inl f) = wX rm iv av (wM rm jv (up_a bv 8 f)) := rfl
theorem ga_64 (rm : Nat) (iv : Nat → Int32) (av : Nat → Nat → Int32) (jv : Nat → Int32) (bv : Nat → Nat → Int32) : gt_a (wX rm iv av (wM rm jv bv)) 64 = some (1, 64, .inl (bv 9)) := rfl
theorem pa_64 (rm : Nat) (iv : Nat → Int32) (av : Nat → Nat → Int32) (jv : Nat → Int32) (bv : Nat → Nat → Int32) (f : Nat → Int32) : pt_a (wX rm iv av (wM rm jv bv)) 64 (1, 64, .inl f) = wX rm iv av (wM rm jv (up_a bv 9 f)) := rfl
theorem ga_65 (rm : Nat) (iv : Nat → Int32) (av : Nat → Nat → Int32) (jv : Nat → Int32) (bv : Nat → Nat → Int32) : gt_a (wX rm iv av (wM rm jv bv)) 65 = some (1, 64, .inl (bv 10)) := rfl
theorem pa_65 (rm : Nat) (iv : Nat → Int32) (av : Nat → Nat → Int32) (jv : Nat → Int32) (bv : Nat → Nat → Int32) (f : Nat → Int32) : pt_a (wX rm iv av (wM rm jv bv)) 65 (1, 64, .inl f) = wX rm iv av (wM rm jv (up_a bv 10 f)) := rfl
theorem ga_66 (rm : Nat) (iv : Nat → Int32) (av : Nat → Nat → Int32) (jv : Nat → Int32) (bv : Nat → Nat → Int32) : gt_a (wX rm iv av (wM rm jv bv)) 66 = some (0, 8, .inl (bv 11)) := rfl
theorem pa_66 (rm : Nat) (iv : Nat → Int32) (av : Nat → Nat → Int32) (jv : Nat → Int32) (bv : Nat → Nat → Int32) (f : Nat → Int32) : pt_a (wX rm iv av (wM rm jv bv)) 66 (0, 8, .inl f) = wX rm iv av (wM rm jv (up_a bv 11 f)) := rfl
theorem ga_67 (rm : Nat) (iv : Nat → Int32) (av : Nat → Nat → Int32) (jv : Nat → Int32) (bv : Nat → Nat → Int32) : gt_a (wX rm iv av (wM rm jv bv)) 67 = some (0, 8, .inl (bv 12)) := rfl
theorem pa_67 (rm : Nat) (iv : Nat → Int32) (av : Nat → Nat → Int32) (jv : Nat → Int32) (bv : Nat → Nat → Int32) (f : Nat → Int32) : pt_a (wX rm iv av (wM rm jv bv)) 67 (0, 8, .inl f) = wX rm iv av (wM rm jv (up_a bv 12 f)) := rfl
theorem ga_68 (rm : Nat) (iv : Nat → Int32) (av : Nat → Nat → Int32) (jv : Nat → Int32) (bv : Nat → Nat → Int32) : gt_a (wX rm iv av (wM rm jv bv)) 68 = some (0, 8, .inl (bv 13)) := rfl
theorem pa_68 (rm : Nat) (iv : Nat → Int32) (av : Nat → Nat → Int32) (jv : Nat → Int32) (bv : Nat → Nat → Int32) (f : Nat → Int32) : pt_a (wX rm iv av (wM rm jv bv)) 68 (0, 8, .inl f) = wX rm iv av (wM rm jv (up_a bv 13 f)) := rfl
theorem ga_69 (rm : Nat) (iv : Nat → Int32) (av : Nat → Nat → Int32) (jv : Nat → Int32) (bv : Nat → Nat → Int32) : gt_a (wX rm iv av (wM rm jv bv)) 69 = some (1, 512, .inl (bv 14)) := rfl
theorem pa_69 (rm : Nat) (iv : Nat → Int32) (av : Nat → Nat → Int32) (jv : Nat → Int32) (bv : Nat → Nat → Int32) (f : Nat → Int32) : pt_a (wX rm iv av (wM rm jv bv)) 69 (1, 512, .inl f) = wX rm iv av (wM rm jv (up_a bv 14 f)) := rfl
theorem ga_70 (rm : Nat) (iv : Nat → Int32) (av : Nat → Nat → Int32) (jv : Nat → Int32) (bv : Nat → Nat → Int32) : gt_a (wX rm iv av (wM rm jv bv)) 70 = some (0, 12, .inl (bv 15)) := rfl
theorem pa_70 (rm : Nat) (iv : Nat → Int32) (av : Nat → Nat → Int32) (jv : Nat → Int32) (bv : Nat → Nat → Int32) (f : Nat → Int32) : pt_a (wX rm iv av (wM rm jv bv)) 70 (0, 12, .inl f) = wX rm iv av (wM rm jv (up_a bv 15 f)) := rfl
theorem ga_71 (rm : Nat) (iv : Nat → Int32) (av : Nat → Nat → Int32) (jv : Nat → Int32) (bv : Nat → Nat → Int32) : gt_a (wX rm iv av (wM rm jv bv)) 71 = some (2, 12, .inl (bv 16)) := rfl
theorem pa_71 (rm : Nat) (iv : Nat → Int32) (av : Nat → Nat → Int32) (jv : Nat → Int32) (bv : Nat → Nat → Int32) (f : Nat → Int32) : pt_a (wX rm iv av (wM rm jv bv)) 71 (2, 12, .inl f) = wX rm iv av (wM rm jv (up_a bv 16 f)) := rfl
theorem ga_72 (rm : Nat) (iv : Nat → Int32) (av : Nat → Nat → Int32) (jv : Nat → Int32) (bv : Nat → Nat → Int32) : gt_a (wX rm iv av (wM rm jv bv)) 72 = some (0, 120, .inl (bv 17)) := rfl
theorem pa_72 (rm : Nat) (iv : Nat → Int32) (av : Nat → Nat → Int32) (jv : Nat → Int32) (bv : Nat → Nat → Int32) (f : Nat → Int32) : pt_a (wX rm iv av (wM rm jv bv)) 72 (0, 120, .inl f) = wX rm iv av (wM rm jv (up_a bv 17 f)) := rfl
theorem ga_73 (rm : Nat) (iv : Nat → Int32) (av : Nat → Nat → Int32) (jv : Nat → Int32) (bv : Nat → Nat → Int32) : gt_a (wX rm iv av (wM rm jv bv)) 73 = some (0, 120, .inl (bv 18)) := rfl
theorem pa_73 (rm : Nat) (iv : Nat → Int32) (av : Nat → Nat → Int32) (jv : Nat → Int32) (bv : Nat → Nat → Int32) (f : Nat → Int32) : pt_a (wX rm iv av (wM rm jv bv)) 73 (0, 120, .inl f) = wX rm iv av (wM rm jv (up_a bv 18 f)) := rfl
theorem ga_74 (rm : Nat) (iv : Nat → Int32) (av : Nat → Nat → Int32) (jv : Nat → Int32) (bv : Nat → Nat → Int32) : gt_a (wX rm iv av (wM rm jv bv)) 74 = some (0, 120, .inl (bv 19)) := rfl
theorem pa_74 (rm : Nat) (iv : Nat → Int32) (av : Nat → Nat → Int32) (jv : Nat → Int32) (bv : Nat → Nat → Int32) (f : Nat → Int32) : pt_a (wX rm iv av (wM rm jv bv)) 74 (0, 120, .inl f) = wX rm iv av (wM rm jv (up_a bv 19 f)) := rfl
theorem ga_75 (rm : Nat) (iv : Nat → Int32) (av : Nat → Nat → Int32) (jv : Nat → Int32) (bv : Nat → Nat → Int32) : gt_a (wX rm iv av (wM rm jv bv)) 75 = some (0, 120, .inl (bv 20)) := rfl
theorem pa_75 (rm : Nat) (iv : Nat → Int32) (av : Nat → Nat → Int32) (jv : Nat → Int32) (bv : Nat → Nat → Int32) (f : Nat → Int32) : pt_a (wX rm iv av (wM rm jv bv)) 75 (0, 120, .inl f) = wX rm iv av (wM rm jv (up_a bv 20 f)) := rfl
theorem ga_76 (rm : Nat) (iv : Nat → Int32) (av : Nat → Nat → Int32) (jv : Nat → Int32) (bv : Nat → Nat → Int32) : gt_a (wX rm iv av (wM rm jv bv)) 76 = some (0, 120, .inl (bv 21)) := rfl
theorem pa_76 (rm : Nat) (iv : Nat → Int32) (av : Nat → Nat → Int32) (jv : Nat → Int32) (bv : Nat → Nat → Int32) (f : Nat → Int32) : pt_a (wX rm iv av (wM rm jv bv)) 76 (0, 120, .inl f) = wX rm iv av (wM rm jv (up_a bv 21 f)) := rfl
theorem ga_77 (rm : Nat) (iv : Nat → Int32) (av : Nat → Nat → Int32) (jv : Nat → Int32) (bv : Nat → Nat → Int32) : gt_a (wX rm iv av (wM rm jv bv)) 77 = some (0, 120, .inl (bv 22)) := rfl
theorem pa_77 (rm : Nat) (iv : Nat → Int32) (av : Nat → Nat → Int32) (jv : Nat → Int32) (bv : Nat → Nat → Int32) (f : Nat → Int32) : pt_a (wX rm iv av (wM rm jv bv)) 77 (0, 120, .inl f) = wX rm iv av (wM rm jv (up_a bv 22 f)) := rfl
theorem ga_78 (rm : Nat) (iv : Nat → Int32) (av : Nat → Nat → Int32) (jv : Nat → Int32) (bv : Nat → Nat → Int32) : gt_a (wX rm iv av (wM rm jv bv)) 78 = some (1, 1300, .inl (bv 23)) := rfl
theorem pa_78 (rm : Nat) (iv : Nat → Int32) (av : Nat → Nat → Int32) (jv : Nat → Int32) (bv : Nat → Nat → Int32) (f : Nat → Int32) : pt_a (wX rm iv av (wM rm jv bv)) 78 (1, 1300, .inl f) = wX rm iv av (wM rm jv (up_a bv 23 f)) := rfl
theorem ga_79 (rm : Nat) (iv : Nat → Int32) (av : Nat → Nat → Int32) (jv : Nat → Int32) (bv : Nat → Nat → Int32) : gt_a (wX rm iv av (wM rm jv bv)) 79 = some (1, 64, .inl (bv 24)) := rfl
theorem pa_79 (rm : Nat) (iv : Nat → Int32) (av : Nat → Nat → Int32) (jv : Nat → Int32) (bv : Nat → Nat → Int32) (f : Nat → Int32) : pt_a (wX rm iv av (wM rm jv bv)) 79 (1, 64, .inl f) = wX rm iv av (wM rm jv (up_a bv 24 f)) := rfl
end
section
/-! PART 22: calls by the number of arguments, what they answer on the stack -/
section PZC
variable {Lx : Nat} {xs : Nat → Int32} {d : Nat} {t : List (List rI)} {ret : Option FieldType} {Q : rQ} {i pc ln : Nat} {v : Int32} {L : List (Option Value)} {st : List Value} {w : pW}
theorem mo_i1 {M : Nat} {a : List Value} {Q : rQ} (k : rx_R Lx xs d M a w (fun r w' => ∃ x, r = some (.int x) ∧ pz Lx xs d t ret Q (i + 1) L (.int x :: st) w')) : rx_R Lx xs d M a w (fun r w' => pz Lx xs d t ret Q (i + 1) L (r.toList ++ st) w') := mo_R Lx xs d _ _ _ _ _ (fun r w' h => by obtain ⟨x, rfl, h⟩ := h; exact h) k
theorem mo_v1 {M : Nat} {a : List Value} {Q : rQ} (k : rx_R Lx xs d M a w (fun r w' => r = none ∧ pz Lx xs d t ret Q (i + 1) L st w')) : rx_R Lx xs d M a w (fun r w' => pz Lx xs d t ret Q (i + 1) L (r.toList ++ st) w') := mo_R Lx xs d _ _ _ _ _ (fun r w' h => by obtain ⟨rfl, h⟩ := h; exact h) k
theorem pz_cI0 {z M q o ci : Nat} (h : rx_e t i = (pc, .invokevirtual z, ln, [M, 0, 0, q], v)) (hg : gt_c w o = some ci) (hcn : (rx_cd ci).1 = (mN M).cls) (hsz : rx_sz st ≤ 8) (hA : mA M = (0, 0)) (k : rx_R Lx xs d M (.ref o :: []) w (fun r w' => ∃ x, r = some (.int x) ∧ pz Lx xs d t ret Q (i + 1) L (.int x :: st) w')) : pz Lx xs d t ret Q i L (.ref o :: st) w := pz_cv (as := []) h rfl hg hcn hsz hA (mo_i1 k)
theorem pz_cV0 {z M q o ci : Nat} (h : rx_e t i = (pc, .invokevirtual z, ln, [M, 0, 0, q], v)) (hg : gt_c w o = some ci) (hcn : (rx_cd ci).1 = (mN M).cls) (hsz : rx_sz st ≤ 8) (hA : mA M = (0, 0)) (k : rx_R Lx xs d M (.ref o :: []) w (fun r w' => r = none ∧ pz Lx xs d t ret Q (i + 1) L st w')) : pz Lx xs d t ret Q i L (.ref o :: st) w := pz_cv (as := []) h rfl hg hcn hsz hA (mo_v1 k)
theorem pz_cI1 {z M q o ci : Nat} {a0 : Value} (h : rx_e t i = (pc, .invokevirtual z, ln, [M, 1, 0, q], v)) (hg : gt_c w o = some ci) (hcn : (rx_cd ci).1 = (mN M).cls) (hsz : rx_sz st ≤ 8) (hA : mA M = (0, 0)) (k : rx_R Lx xs d M (.ref o :: [a0]) w (fun r w' => ∃ x, r = some (.int x) ∧ pz Lx xs d t ret Q (i + 1) L (.int x :: st) w')) : pz Lx xs d t ret Q i L (a0 :: .ref o :: st) w := pz_cv (as := [a0]) h rfl hg hcn hsz hA (mo_i1 k)
theorem pz_sI1 {z M q kd : Nat} {a0 : Value} (h : rx_e t i = (pc, .invokestatic z, ln, [M, 1, kd, q], v)) (hk : kd = 1 ∨ kd = 2) (hsz : rx_sz st ≤ 8) (hA : mA M = (0, 0)) (k : rx_R Lx xs d M [a0] w (fun r w' => ∃ x, r = some (.int x) ∧ pz Lx xs d t ret Q (i + 1) L (.int x :: st) w')) : pz Lx xs d t ret Q i L (a0 :: st) w := pz_cs (as := [a0]) h hk rfl hsz hA (mo_i1 k)
theorem pz_cV1 {z M q o ci : Nat} {a0 : Value} (h : rx_e t i = (pc, .invokevirtual z, ln, [M, 1, 0, q], v)) (hg : gt_c w o = some ci) (hcn : (rx_cd ci).1 = (mN M).cls) (hsz : rx_sz st ≤ 8) (hA : mA M = (0, 0)) (k : rx_R Lx xs d M (.ref o :: [a0]) w (fun r w' => r = none ∧ pz Lx xs d t ret Q (i + 1) L st w')) : pz Lx xs d t ret Q i L (a0 :: .ref o :: st) w := pz_cv (as := [a0]) h rfl hg hcn hsz hA (mo_v1 k)
theorem pz_sV1 {z M q kd : Nat} {a0 : Value} (h : rx_e t i = (pc, .invokestatic z, ln, [M, 1, kd, q], v)) (hk : kd = 1 ∨ kd = 2) (hsz : rx_sz st ≤ 8) (hA : mA M = (0, 0)) (k : rx_R Lx xs d M [a0] w (fun r w' => r = none ∧ pz Lx xs d t ret Q (i + 1) L st w')) : pz Lx xs d t ret Q i L (a0 :: st) w := pz_cs (as := [a0]) h hk rfl hsz hA (mo_v1 k)
theorem pz_cI2 {z M q o ci : Nat} {a0 a1 : Value} (h : rx_e t i = (pc, .invokevirtual z, ln, [M, 2, 0, q], v)) (hg : gt_c w o = some ci) (hcn : (rx_cd ci).1 = (mN M).cls) (hsz : rx_sz st ≤ 8) (hA : mA M = (0, 0)) (k : rx_R Lx xs d M (.ref o :: [a0, a1]) w (fun r w' => ∃ x, r = some (.int x) ∧ pz Lx xs d t ret Q (i + 1) L (.int x :: st) w')) : pz Lx xs d t ret Q i L (a1 :: a0 :: .ref o :: st) w := pz_cv (as := [a0, a1]) h rfl hg hcn hsz hA (mo_i1 k)
theorem pz_sI2 {z M q kd : Nat} {a0 a1 : Value} (h : rx_e t i = (pc, .invokestatic z, ln, [M, 2, kd, q], v)) (hk : kd = 1 ∨ kd = 2) (hsz : rx_sz st ≤ 8) (hA : mA M = (0, 0)) (k : rx_R Lx xs d M [a0, a1] w (fun r w' => ∃ x, r = some (.int x) ∧ pz Lx xs d t ret Q (i + 1) L (.int x :: st) w')) : pz Lx xs d t ret Q i L (a1 :: a0 :: st) w := pz_cs (as := [a0, a1]) h hk rfl hsz hA (mo_i1 k)
theorem pz_cV2 {z M q o ci : Nat} {a0 a1 : Value} (h : rx_e t i = (pc, .invokevirtual z, ln, [M, 2, 0, q], v)) (hg : gt_c w o = some ci) (hcn : (rx_cd ci).1 = (mN M).cls) (hsz : rx_sz st ≤ 8) (hA : mA M = (0, 0)) (k : rx_R Lx xs d M (.ref o :: [a0, a1]) w (fun r w' => r = none ∧ pz Lx xs d t ret Q (i + 1) L st w')) : pz Lx xs d t ret Q i L (a1 :: a0 :: .ref o :: st) w := pz_cv (as := [a0, a1]) h rfl hg hcn hsz hA (mo_v1 k)
theorem pz_sV2 {z M q kd : Nat} {a0 a1 : Value} (h : rx_e t i = (pc, .invokestatic z, ln, [M, 2, kd, q], v)) (hk : kd = 1 ∨ kd = 2) (hsz : rx_sz st ≤ 8) (hA : mA M = (0, 0)) (k : rx_R Lx xs d M [a0, a1] w (fun r w' => r = none ∧ pz Lx xs d t ret Q (i + 1) L st w')) : pz Lx xs d t ret Q i L (a1 :: a0 :: st) w := pz_cs (as := [a0, a1]) h hk rfl hsz hA (mo_v1 k)
theorem pz_cI3 {z M q o ci : Nat} {a0 a1 a2 : Value} (h : rx_e t i = (pc, .invokevirtual z, ln, [M, 3, 0, q], v)) (hg : gt_c w o = some ci) (hcn : (rx_cd ci).1 = (mN M).cls) (hsz : rx_sz st ≤ 8) (hA : mA M = (0, 0)) (k : rx_R Lx xs d M (.ref o :: [a0, a1, a2]) w (fun r w' => ∃ x, r = some (.int x) ∧ pz Lx xs d t ret Q (i + 1) L (.int x :: st) w')) : pz Lx xs d t ret Q i L (a2 :: a1 :: a0 :: .ref o :: st) w := pz_cv (as := [a0, a1, a2]) h rfl hg hcn hsz hA (mo_i1 k)
theorem pz_sI3 {z M q kd : Nat} {a0 a1 a2 : Value} (h : rx_e t i = (pc, .invokestatic z, ln, [M, 3, kd, q], v)) (hk : kd = 1 ∨ kd = 2) (hsz : rx_sz st ≤ 8) (hA : mA M = (0, 0)) (k : rx_R Lx xs d M [a0, a1, a2] w (fun r w' => ∃ x, r = some (.int x) ∧ pz Lx xs d t ret Q (i + 1) L (.int x :: st) w')) : pz Lx xs d t ret Q i L (a2 :: a1 :: a0 :: st) w := pz_cs (as := [a0, a1, a2]) h hk rfl hsz hA (mo_i1 k)
theorem pz_cV3 {z M q o ci : Nat} {a0 a1 a2 : Value} (h : rx_e t i = (pc, .invokevirtual z, ln, [M, 3, 0, q], v)) (hg : gt_c w o = some ci) (hcn : (rx_cd ci).1 = (mN M).cls) (hsz : rx_sz st ≤ 8) (hA : mA M = (0, 0)) (k : rx_R Lx xs d M (.ref o :: [a0, a1, a2]) w (fun r w' => r = none ∧ pz Lx xs d t ret Q (i + 1) L st w')) : pz Lx xs d t ret Q i L (a2 :: a1 :: a0 :: .ref o :: st) w := pz_cv (as := [a0, a1, a2]) h rfl hg hcn hsz hA (mo_v1 k)
theorem pz_sV3 {z M q kd : Nat} {a0 a1 a2 : Value} (h : rx_e t i = (pc, .invokestatic z, ln, [M, 3, kd, q], v)) (hk : kd = 1 ∨ kd = 2) (hsz : rx_sz st ≤ 8) (hA : mA M = (0, 0)) (k : rx_R Lx xs d M [a0, a1, a2] w (fun r w' => r = none ∧ pz Lx xs d t ret Q (i + 1) L st w')) : pz Lx xs d t ret Q i L (a2 :: a1 :: a0 :: st) w := pz_cs (as := [a0, a1, a2]) h hk rfl hsz hA (mo_v1 k)
theorem pz_cI4 {z M q o ci : Nat} {a0 a1 a2 a3 : Value} (h : rx_e t i = (pc, .invokevirtual z, ln, [M, 4, 0, q], v)) (hg : gt_c w o = some ci) (hcn : (rx_cd ci).1 = (mN M).cls) (hsz : rx_sz st ≤ 8) (hA : mA M = (0, 0)) (k : rx_R Lx xs d M (.ref o :: [a0, a1, a2, a3]) w (fun r w' => ∃ x, r = some (.int x) ∧ pz Lx xs d t ret Q (i + 1) L (.int x :: st) w')) : pz Lx xs d t ret Q i L (a3 :: a2 :: a1 :: a0 :: .ref o :: st) w := pz_cv (as := [a0, a1, a2, a3]) h rfl hg hcn hsz hA (mo_i1 k)
theorem pz_sI4 {z M q kd : Nat} {a0 a1 a2 a3 : Value} (h : rx_e t i = (pc, .invokestatic z, ln, [M, 4, kd, q], v)) (hk : kd = 1 ∨ kd = 2) (hsz : rx_sz st ≤ 8) (hA : mA M = (0, 0)) (k : rx_R Lx xs d M [a0, a1, a2, a3] w (fun r w' => ∃ x, r = some (.int x) ∧ pz Lx xs d t ret Q (i + 1) L (.int x :: st) w')) : pz Lx xs d t ret Q i L (a3 :: a2 :: a1 :: a0 :: st) w := pz_cs (as := [a0, a1, a2, a3]) h hk rfl hsz hA (mo_i1 k)
theorem pz_cV4 {z M q o ci : Nat} {a0 a1 a2 a3 : Value} (h : rx_e t i = (pc, .invokevirtual z, ln, [M, 4, 0, q], v)) (hg : gt_c w o = some ci) (hcn : (rx_cd ci).1 = (mN M).cls) (hsz : rx_sz st ≤ 8) (hA : mA M = (0, 0)) (k : rx_R Lx xs d M (.ref o :: [a0, a1, a2, a3]) w (fun r w' => r = none ∧ pz Lx xs d t ret Q (i + 1) L st w')) : pz Lx xs d t ret Q i L (a3 :: a2 :: a1 :: a0 :: .ref o :: st) w := pz_cv (as := [a0, a1, a2, a3]) h rfl hg hcn hsz hA (mo_v1 k)
theorem pz_sV4 {z M q kd : Nat} {a0 a1 a2 a3 : Value} (h : rx_e t i = (pc, .invokestatic z, ln, [M, 4, kd, q], v)) (hk : kd = 1 ∨ kd = 2) (hsz : rx_sz st ≤ 8) (hA : mA M = (0, 0)) (k : rx_R Lx xs d M [a0, a1, a2, a3] w (fun r w' => r = none ∧ pz Lx xs d t ret Q (i + 1) L st w')) : pz Lx xs d t ret Q i L (a3 :: a2 :: a1 :: a0 :: st) w := pz_cs (as := [a0, a1, a2, a3]) h hk rfl hsz hA (mo_v1 k)
end PZC
end
section
/-! PART 23: branches by their conditions -/
section PZI
variable {Lx : Nat} {xs : Nat → Int32} {d : Nat} {t : List (List rI)} {ret : Option FieldType} {Q : rQ} {i j pc ln : Nat} {o : Int} {v : Int32} {L : List (Option Value)} {st : List Value} {w : pW}
theorem pz_if_eq {x : Int32} (h : rx_e t i = (pc, .ifCond .eq o, ln, [j], v)) (k1 : x = 0 → pz Lx xs d t ret Q j L st w) (k2 : ¬ x = 0 → pz Lx xs d t ret Q (i + 1) L st w) : pz Lx xs d t ret Q i L (.int x :: st) w := pz_if h ⟨k1, k2⟩
theorem pz_ii_eq {x y : Int32} (h : rx_e t i = (pc, .if_icmp .eq o, ln, [j], v)) (k1 : x = y → pz Lx xs d t ret Q j L st w) (k2 : ¬ x = y → pz Lx xs d t ret Q (i + 1) L st w) : pz Lx xs d t ret Q i L (.int y :: .int x :: st) w := pz_ifi h ⟨k1, k2⟩
theorem pz_if_ne {x : Int32} (h : rx_e t i = (pc, .ifCond .ne o, ln, [j], v)) (k1 : ¬ x = 0 → pz Lx xs d t ret Q j L st w) (k2 : x = 0 → pz Lx xs d t ret Q (i + 1) L st w) : pz Lx xs d t ret Q i L (.int x :: st) w := pz_if h ⟨k1, k2⟩
theorem pz_ii_ne {x y : Int32} (h : rx_e t i = (pc, .if_icmp .ne o, ln, [j], v)) (k1 : ¬ x = y → pz Lx xs d t ret Q j L st w) (k2 : x = y → pz Lx xs d t ret Q (i + 1) L st w) : pz Lx xs d t ret Q i L (.int y :: .int x :: st) w := pz_ifi h ⟨k1, k2⟩
theorem pz_if_lt {x : Int32} (h : rx_e t i = (pc, .ifCond .lt o, ln, [j], v)) (k1 : x < 0 → pz Lx xs d t ret Q j L st w) (k2 : ¬ x < 0 → pz Lx xs d t ret Q (i + 1) L st w) : pz Lx xs d t ret Q i L (.int x :: st) w := pz_if h ⟨k1, k2⟩
theorem pz_ii_lt {x y : Int32} (h : rx_e t i = (pc, .if_icmp .lt o, ln, [j], v)) (k1 : x < y → pz Lx xs d t ret Q j L st w) (k2 : ¬ x < y → pz Lx xs d t ret Q (i + 1) L st w) : pz Lx xs d t ret Q i L (.int y :: .int x :: st) w := pz_ifi h ⟨k1, k2⟩
theorem pz_if_ge {x : Int32} (h : rx_e t i = (pc, .ifCond .ge o, ln, [j], v)) (k1 : 0 ≤ x → pz Lx xs d t ret Q j L st w) (k2 : ¬ 0 ≤ x → pz Lx xs d t ret Q (i + 1) L st w) : pz Lx xs d t ret Q i L (.int x :: st) w := pz_if h ⟨k1, k2⟩
theorem pz_ii_ge {x y : Int32} (h : rx_e t i = (pc, .if_icmp .ge o, ln, [j], v)) (k1 : y ≤ x → pz Lx xs d t ret Q j L st w) (k2 : ¬ y ≤ x → pz Lx xs d t ret Q (i + 1) L st w) : pz Lx xs d t ret Q i L (.int y :: .int x :: st) w := pz_ifi h ⟨k1, k2⟩
theorem pz_if_gt {x : Int32} (h : rx_e t i = (pc, .ifCond .gt o, ln, [j], v)) (k1 : 0 < x → pz Lx xs d t ret Q j L st w) (k2 : ¬ 0 < x → pz Lx xs d t ret Q (i + 1) L st w) : pz Lx xs d t ret Q i L (.int x :: st) w := pz_if h ⟨k1, k2⟩
theorem pz_ii_gt {x y : Int32} (h : rx_e t i = (pc, .if_icmp .gt o, ln, [j], v)) (k1 : y < x → pz Lx xs d t ret Q j L st w) (k2 : ¬ y < x → pz Lx xs d t ret Q (i + 1) L st w) : pz Lx xs d t ret Q i L (.int y :: .int x :: st) w := pz_ifi h ⟨k1, k2⟩
theorem pz_if_le {x : Int32} (h : rx_e t i = (pc, .ifCond .le o, ln, [j], v)) (k1 : x ≤ 0 → pz Lx xs d t ret Q j L st w) (k2 : ¬ x ≤ 0 → pz Lx xs d t ret Q (i + 1) L st w) : pz Lx xs d t ret Q i L (.int x :: st) w := pz_if h ⟨k1, k2⟩
theorem pz_ii_le {x y : Int32} (h : rx_e t i = (pc, .if_icmp .le o, ln, [j], v)) (k1 : x ≤ y → pz Lx xs d t ret Q j L st w) (k2 : ¬ x ≤ y → pz Lx xs d t ret Q (i + 1) L st w) : pz Lx xs d t ret Q i L (.int y :: .int x :: st) w := pz_ifi h ⟨k1, k2⟩
end PZI
end
section
/-! PART 24: objects of which there are several: entries (5), views (2), found (3) (printed by wip/whole/gen_sym.py) -/
def oE : Nat → Nat
  | 0 => 8
  | 1 => 15
  | 2 => 24
  | 3 => 29
  | _ => 33
def oV : Nat → Nat
  | 0 => 7
  | _ => 23
def oF : Nat → Nat
  | 0 => 14
  | 1 => 52
  | _ => 53
theorem gE_0 {e : Nat} (he : e < 5) (rm : Nat) (iv : Nat → Int32) (av : Nat → Nat → Int32) (r : pW) : gt_f (wX rm iv av r) 2 (oE e) 0 = some (.ref (oE e + 1)) := match e, he with
  | 0, _ => rfl
  | 1, _ => rfl
  | 2, _ => rfl
  | 3, _ => rfl
  | 4, _ => rfl
  | k + 5, hk => absurd hk (by omega)
theorem gE_1 {e : Nat} (he : e < 5) (rm : Nat) (iv : Nat → Int32) (av : Nat → Nat → Int32) (r : pW) : gt_f (wX rm iv av r) 2 (oE e) 1 = some (.ref (oE e + 2)) := match e, he with
  | 0, _ => rfl
  | 1, _ => rfl
  | 2, _ => rfl
  | 3, _ => rfl
  | 4, _ => rfl
  | k + 5, hk => absurd hk (by omega)
theorem gE_2 {e : Nat} (he : e < 5) (rm : Nat) (iv : Nat → Int32) (av : Nat → Nat → Int32) (r : pW) : gt_f (wX rm iv av r) 2 (oE e) 2 = some (.ref (oE e + 3)) := match e, he with
  | 0, _ => rfl
  | 1, _ => rfl
  | 2, _ => rfl
  | 3, _ => rfl
  | 4, _ => rfl
  | k + 5, hk => absurd hk (by omega)
theorem gE_3 {e : Nat} (he : e < 5) (rm : Nat) (iv : Nat → Int32) (av : Nat → Nat → Int32) (r : pW) : gt_f (wX rm iv av r) 2 (oE e) 3 = some (.int (iv (30 + e))) := match e, he with
  | 0, _ => rfl
  | 1, _ => rfl
  | 2, _ => rfl
  | 3, _ => rfl
  | 4, _ => rfl
  | k + 5, hk => absurd hk (by omega)
theorem pE_3 {e : Nat} (he : e < 5) (rm : Nat) (iv : Nat → Int32) (av : Nat → Nat → Int32) (r : pW) (x : Int32) : pt_f (wX rm iv av r) 2 (oE e) 3 (.int x) = some (wX rm (upd iv (30 + e) x) av r) := match e, he with
  | 0, _ => rfl
  | 1, _ => rfl
  | 2, _ => rfl
  | 3, _ => rfl
  | 4, _ => rfl
  | k + 5, hk => absurd hk (by omega)
theorem gE_c {e : Nat} (he : e < 5) (rm : Nat) (iv : Nat → Int32) (av : Nat → Nat → Int32) (r : pW) : gt_c (wX rm iv av r) (oE e) = some 2 := match e, he with
  | 0, _ => rfl
  | 1, _ => rfl
  | 2, _ => rfl
  | 3, _ => rfl
  | 4, _ => rfl
  | k + 5, hk => absurd hk (by omega)
theorem gEa_0 {e : Nat} (he : e < 5) (rm : Nat) (iv : Nat → Int32) (av : Nat → Nat → Int32) (r : pW) : gt_a (wX rm iv av r) (oE e + 1) = some (0, 120, .inl (av (10 + 3 * e + 0))) := match e, he with
  | 0, _ => rfl
  | 1, _ => rfl
  | 2, _ => rfl
  | 3, _ => rfl
  | 4, _ => rfl
  | k + 5, hk => absurd hk (by omega)
theorem pEa_0 {e : Nat} (he : e < 5) (rm : Nat) (iv : Nat → Int32) (av : Nat → Nat → Int32) (r : pW) (f : Nat → Int32) : pt_a (wX rm iv av r) (oE e + 1) (0, 120, .inl f) = wX rm iv (up_a av (10 + 3 * e + 0) f) r := match e, he with
  | 0, _ => rfl
  | 1, _ => rfl
  | 2, _ => rfl
  | 3, _ => rfl
  | 4, _ => rfl
  | k + 5, hk => absurd hk (by omega)
theorem gEa_1 {e : Nat} (he : e < 5) (rm : Nat) (iv : Nat → Int32) (av : Nat → Nat → Int32) (r : pW) : gt_a (wX rm iv av r) (oE e + 2) = some (0, 120, .inl (av (10 + 3 * e + 1))) := match e, he with
  | 0, _ => rfl
  | 1, _ => rfl
  | 2, _ => rfl
  | 3, _ => rfl
  | 4, _ => rfl
  | k + 5, hk => absurd hk (by omega)
theorem pEa_1 {e : Nat} (he : e < 5) (rm : Nat) (iv : Nat → Int32) (av : Nat → Nat → Int32) (r : pW) (f : Nat → Int32) : pt_a (wX rm iv av r) (oE e + 2) (0, 120, .inl f) = wX rm iv (up_a av (10 + 3 * e + 1) f) r := match e, he with
  | 0, _ => rfl
  | 1, _ => rfl
  | 2, _ => rfl
  | 3, _ => rfl
  | 4, _ => rfl
  | k + 5, hk => absurd hk (by omega)
theorem gEa_2 {e : Nat} (he : e < 5) (rm : Nat) (iv : Nat → Int32) (av : Nat → Nat → Int32) (r : pW) : gt_a (wX rm iv av r) (oE e + 3) = some (0, 120, .inl (av (10 + 3 * e + 2))) := match e, he with
  | 0, _ => rfl
  | 1, _ => rfl
  | 2, _ => rfl
  | 3, _ => rfl
  | 4, _ => rfl
  | k + 5, hk => absurd hk (by omega)
theorem pEa_2 {e : Nat} (he : e < 5) (rm : Nat) (iv : Nat → Int32) (av : Nat → Nat → Int32) (r : pW) (f : Nat → Int32) : pt_a (wX rm iv av r) (oE e + 3) (0, 120, .inl f) = wX rm iv (up_a av (10 + 3 * e + 2) f) r := match e, he with
  | 0, _ => rfl
  | 1, _ => rfl
  | 2, _ => rfl
  | 3, _ => rfl
  | 4, _ => rfl
  | k + 5, hk => absurd hk (by omega)
theorem gV_0 {v : Nat} (hv : v < 2) (rm : Nat) (iv : Nat → Int32) (av : Nat → Nat → Int32) (r : pW) : gt_f (wX rm iv av r) 5 (oV v) 0 = some (.ref 2) := match v, hv with
  | 0, _ => rfl
  | 1, _ => rfl
  | k + 2, hk => absurd hk (by omega)
theorem gV_1 {v : Nat} (hv : v < 2) (rm : Nat) (iv : Nat → Int32) (av : Nat → Nat → Int32) (r : pW) : gt_f (wX rm iv av r) 5 (oV v) 1 = some (.ref (oE (2 * v))) := match v, hv with
  | 0, _ => rfl
  | 1, _ => rfl
  | k + 2, hk => absurd hk (by omega)
theorem gV_2 {v : Nat} (hv : v < 2) (rm : Nat) (iv : Nat → Int32) (av : Nat → Nat → Int32) (r : pW) : gt_f (wX rm iv av r) 5 (oV v) 2 = some (.ref (oV v + 5)) := match v, hv with
  | 0, _ => rfl
  | 1, _ => rfl
  | k + 2, hk => absurd hk (by omega)
theorem gV_c {v : Nat} (hv : v < 2) (rm : Nat) (iv : Nat → Int32) (av : Nat → Nat → Int32) (r : pW) : gt_c (wX rm iv av r) (oV v) = some 5 := match v, hv with
  | 0, _ => rfl
  | 1, _ => rfl
  | k + 2, hk => absurd hk (by omega)
theorem gVp {v : Nat} (hv : v < 2) (rm : Nat) (iv : Nat → Int32) (av : Nat → Nat → Int32) (r : pW) : gt_a (wX rm iv av r) (oV v + 5) = some (0, 6, .inl (av (4 + v))) := match v, hv with
  | 0, _ => rfl
  | 1, _ => rfl
  | k + 2, hk => absurd hk (by omega)
theorem pVp {v : Nat} (hv : v < 2) (rm : Nat) (iv : Nat → Int32) (av : Nat → Nat → Int32) (r : pW) (f : Nat → Int32) : pt_a (wX rm iv av r) (oV v + 5) (0, 6, .inl f) = wX rm iv (up_a av (4 + v) f) r := match v, hv with
  | 0, _ => rfl
  | 1, _ => rfl
  | k + 2, hk => absurd hk (by omega)
theorem gV_3 {v : Nat} (hv : v < 2) (rm : Nat) (iv : Nat → Int32) (av : Nat → Nat → Int32) (r : pW) : gt_f (wX rm iv av r) 5 (oV v) 3 = some (.int (iv (10 + 10 * v + 0))) := match v, hv with
  | 0, _ => rfl
  | 1, _ => rfl
  | k + 2, hk => absurd hk (by omega)
theorem pV_3 {v : Nat} (hv : v < 2) (rm : Nat) (iv : Nat → Int32) (av : Nat → Nat → Int32) (r : pW) (x : Int32) : pt_f (wX rm iv av r) 5 (oV v) 3 (.int x) = some (wX rm (upd iv (10 + 10 * v + 0) x) av r) := match v, hv with
  | 0, _ => rfl
  | 1, _ => rfl
  | k + 2, hk => absurd hk (by omega)
theorem gV_4 {v : Nat} (hv : v < 2) (rm : Nat) (iv : Nat → Int32) (av : Nat → Nat → Int32) (r : pW) : gt_f (wX rm iv av r) 5 (oV v) 4 = some (.int (iv (10 + 10 * v + 1))) := match v, hv with
  | 0, _ => rfl
  | 1, _ => rfl
  | k + 2, hk => absurd hk (by omega)
theorem pV_4 {v : Nat} (hv : v < 2) (rm : Nat) (iv : Nat → Int32) (av : Nat → Nat → Int32) (r : pW) (x : Int32) : pt_f (wX rm iv av r) 5 (oV v) 4 (.int x) = some (wX rm (upd iv (10 + 10 * v + 1) x) av r) := match v, hv with
  | 0, _ => rfl
  | 1, _ => rfl
  | k + 2, hk => absurd hk (by omega)
theorem gV_5 {v : Nat} (hv : v < 2) (rm : Nat) (iv : Nat → Int32) (av : Nat → Nat → Int32) (r : pW) : gt_f (wX rm iv av r) 5 (oV v) 5 = some (.int (iv (10 + 10 * v + 2))) := match v, hv with
  | 0, _ => rfl
  | 1, _ => rfl
  | k + 2, hk => absurd hk (by omega)
theorem pV_5 {v : Nat} (hv : v < 2) (rm : Nat) (iv : Nat → Int32) (av : Nat → Nat → Int32) (r : pW) (x : Int32) : pt_f (wX rm iv av r) 5 (oV v) 5 (.int x) = some (wX rm (upd iv (10 + 10 * v + 2) x) av r) := match v, hv with
  | 0, _ => rfl
  | 1, _ => rfl
  | k + 2, hk => absurd hk (by omega)
theorem gV_6 {v : Nat} (hv : v < 2) (rm : Nat) (iv : Nat → Int32) (av : Nat → Nat → Int32) (r : pW) : gt_f (wX rm iv av r) 5 (oV v) 6 = some (.int (iv (10 + 10 * v + 3))) := match v, hv with
  | 0, _ => rfl
  | 1, _ => rfl
  | k + 2, hk => absurd hk (by omega)
theorem pV_6 {v : Nat} (hv : v < 2) (rm : Nat) (iv : Nat → Int32) (av : Nat → Nat → Int32) (r : pW) (x : Int32) : pt_f (wX rm iv av r) 5 (oV v) 6 (.int x) = some (wX rm (upd iv (10 + 10 * v + 3) x) av r) := match v, hv with
  | 0, _ => rfl
  | 1, _ => rfl
  | k + 2, hk => absurd hk (by omega)
theorem gV_7 {v : Nat} (hv : v < 2) (rm : Nat) (iv : Nat → Int32) (av : Nat → Nat → Int32) (r : pW) : gt_f (wX rm iv av r) 5 (oV v) 7 = some (.int (iv (10 + 10 * v + 4))) := match v, hv with
  | 0, _ => rfl
  | 1, _ => rfl
  | k + 2, hk => absurd hk (by omega)
theorem pV_7 {v : Nat} (hv : v < 2) (rm : Nat) (iv : Nat → Int32) (av : Nat → Nat → Int32) (r : pW) (x : Int32) : pt_f (wX rm iv av r) 5 (oV v) 7 (.int x) = some (wX rm (upd iv (10 + 10 * v + 4) x) av r) := match v, hv with
  | 0, _ => rfl
  | 1, _ => rfl
  | k + 2, hk => absurd hk (by omega)
theorem gV_8 {v : Nat} (hv : v < 2) (rm : Nat) (iv : Nat → Int32) (av : Nat → Nat → Int32) (r : pW) : gt_f (wX rm iv av r) 5 (oV v) 8 = some (.int (iv (10 + 10 * v + 5))) := match v, hv with
  | 0, _ => rfl
  | 1, _ => rfl
  | k + 2, hk => absurd hk (by omega)
theorem pV_8 {v : Nat} (hv : v < 2) (rm : Nat) (iv : Nat → Int32) (av : Nat → Nat → Int32) (r : pW) (x : Int32) : pt_f (wX rm iv av r) 5 (oV v) 8 (.int x) = some (wX rm (upd iv (10 + 10 * v + 5) x) av r) := match v, hv with
  | 0, _ => rfl
  | 1, _ => rfl
  | k + 2, hk => absurd hk (by omega)
theorem gV_9 {v : Nat} (hv : v < 2) (rm : Nat) (iv : Nat → Int32) (av : Nat → Nat → Int32) (r : pW) : gt_f (wX rm iv av r) 5 (oV v) 9 = some (.int (iv (10 + 10 * v + 6))) := match v, hv with
  | 0, _ => rfl
  | 1, _ => rfl
  | k + 2, hk => absurd hk (by omega)
theorem pV_9 {v : Nat} (hv : v < 2) (rm : Nat) (iv : Nat → Int32) (av : Nat → Nat → Int32) (r : pW) (x : Int32) : pt_f (wX rm iv av r) 5 (oV v) 9 (.int x) = some (wX rm (upd iv (10 + 10 * v + 6) x) av r) := match v, hv with
  | 0, _ => rfl
  | 1, _ => rfl
  | k + 2, hk => absurd hk (by omega)
theorem gV_10 {v : Nat} (hv : v < 2) (rm : Nat) (iv : Nat → Int32) (av : Nat → Nat → Int32) (r : pW) : gt_f (wX rm iv av r) 5 (oV v) 10 = some (.int (iv (10 + 10 * v + 7))) := match v, hv with
  | 0, _ => rfl
  | 1, _ => rfl
  | k + 2, hk => absurd hk (by omega)
theorem pV_10 {v : Nat} (hv : v < 2) (rm : Nat) (iv : Nat → Int32) (av : Nat → Nat → Int32) (r : pW) (x : Int32) : pt_f (wX rm iv av r) 5 (oV v) 10 (.int x) = some (wX rm (upd iv (10 + 10 * v + 7) x) av r) := match v, hv with
  | 0, _ => rfl
  | 1, _ => rfl
  | k + 2, hk => absurd hk (by omega)
theorem gF_0 {f : Nat} (hf : f < 3) (rm : Nat) (iv : Nat → Int32) (av : Nat → Nat → Int32) (r : pW) : gt_f (wX rm iv av r) 3 (oF f) 0 = some (.int (iv (40 + 10 * f + 0))) := match f, hf with
  | 0, _ => rfl
  | 1, _ => rfl
  | 2, _ => rfl
  | k + 3, hk => absurd hk (by omega)
theorem pF_0 {f : Nat} (hf : f < 3) (rm : Nat) (iv : Nat → Int32) (av : Nat → Nat → Int32) (r : pW) (x : Int32) : pt_f (wX rm iv av r) 3 (oF f) 0 (.int x) = some (wX rm (upd iv (40 + 10 * f + 0) x) av r) := match f, hf with
  | 0, _ => rfl
  | 1, _ => rfl
  | 2, _ => rfl
  | k + 3, hk => absurd hk (by omega)
theorem gF_1 {f : Nat} (hf : f < 3) (rm : Nat) (iv : Nat → Int32) (av : Nat → Nat → Int32) (r : pW) : gt_f (wX rm iv av r) 3 (oF f) 1 = some (.int (iv (40 + 10 * f + 1))) := match f, hf with
  | 0, _ => rfl
  | 1, _ => rfl
  | 2, _ => rfl
  | k + 3, hk => absurd hk (by omega)
theorem pF_1 {f : Nat} (hf : f < 3) (rm : Nat) (iv : Nat → Int32) (av : Nat → Nat → Int32) (r : pW) (x : Int32) : pt_f (wX rm iv av r) 3 (oF f) 1 (.int x) = some (wX rm (upd iv (40 + 10 * f + 1) x) av r) := match f, hf with
  | 0, _ => rfl
  | 1, _ => rfl
  | 2, _ => rfl
  | k + 3, hk => absurd hk (by omega)
theorem gF_2 {f : Nat} (hf : f < 3) (rm : Nat) (iv : Nat → Int32) (av : Nat → Nat → Int32) (r : pW) : gt_f (wX rm iv av r) 3 (oF f) 2 = some (.int (iv (40 + 10 * f + 2))) := match f, hf with
  | 0, _ => rfl
  | 1, _ => rfl
  | 2, _ => rfl
  | k + 3, hk => absurd hk (by omega)
theorem pF_2 {f : Nat} (hf : f < 3) (rm : Nat) (iv : Nat → Int32) (av : Nat → Nat → Int32) (r : pW) (x : Int32) : pt_f (wX rm iv av r) 3 (oF f) 2 (.int x) = some (wX rm (upd iv (40 + 10 * f + 2) x) av r) := match f, hf with
  | 0, _ => rfl
  | 1, _ => rfl
  | 2, _ => rfl
  | k + 3, hk => absurd hk (by omega)
theorem gF_3 {f : Nat} (hf : f < 3) (rm : Nat) (iv : Nat → Int32) (av : Nat → Nat → Int32) (r : pW) : gt_f (wX rm iv av r) 3 (oF f) 3 = some (.int (iv (40 + 10 * f + 3))) := match f, hf with
  | 0, _ => rfl
  | 1, _ => rfl
  | 2, _ => rfl
  | k + 3, hk => absurd hk (by omega)
theorem pF_3 {f : Nat} (hf : f < 3) (rm : Nat) (iv : Nat → Int32) (av : Nat → Nat → Int32) (r : pW) (x : Int32) : pt_f (wX rm iv av r) 3 (oF f) 3 (.int x) = some (wX rm (upd iv (40 + 10 * f + 3) x) av r) := match f, hf with
  | 0, _ => rfl
  | 1, _ => rfl
  | 2, _ => rfl
  | k + 3, hk => absurd hk (by omega)
theorem gF_4 {f : Nat} (hf : f < 3) (rm : Nat) (iv : Nat → Int32) (av : Nat → Nat → Int32) (r : pW) : gt_f (wX rm iv av r) 3 (oF f) 4 = some (.int (iv (40 + 10 * f + 4))) := match f, hf with
  | 0, _ => rfl
  | 1, _ => rfl
  | 2, _ => rfl
  | k + 3, hk => absurd hk (by omega)
theorem pF_4 {f : Nat} (hf : f < 3) (rm : Nat) (iv : Nat → Int32) (av : Nat → Nat → Int32) (r : pW) (x : Int32) : pt_f (wX rm iv av r) 3 (oF f) 4 (.int x) = some (wX rm (upd iv (40 + 10 * f + 4) x) av r) := match f, hf with
  | 0, _ => rfl
  | 1, _ => rfl
  | 2, _ => rfl
  | k + 3, hk => absurd hk (by omega)
theorem gF_5 {f : Nat} (hf : f < 3) (rm : Nat) (iv : Nat → Int32) (av : Nat → Nat → Int32) (r : pW) : gt_f (wX rm iv av r) 3 (oF f) 5 = some (.int (iv (40 + 10 * f + 5))) := match f, hf with
  | 0, _ => rfl
  | 1, _ => rfl
  | 2, _ => rfl
  | k + 3, hk => absurd hk (by omega)
theorem pF_5 {f : Nat} (hf : f < 3) (rm : Nat) (iv : Nat → Int32) (av : Nat → Nat → Int32) (r : pW) (x : Int32) : pt_f (wX rm iv av r) 3 (oF f) 5 (.int x) = some (wX rm (upd iv (40 + 10 * f + 5) x) av r) := match f, hf with
  | 0, _ => rfl
  | 1, _ => rfl
  | 2, _ => rfl
  | k + 3, hk => absurd hk (by omega)
theorem gF_c {f : Nat} (hf : f < 3) (rm : Nat) (iv : Nat → Int32) (av : Nat → Nat → Int32) (r : pW) : gt_c (wX rm iv av r) (oF f) = some 3 := match f, hf with
  | 0, _ => rfl
  | 1, _ => rfl
  | 2, _ => rfl
  | k + 3, hk => absurd hk (by omega)
end
section
/-! PART 25: numbers: what a comparison of the machine says of Nats -/
theorem le_ofI {a b : Nat} (h : nI a ≤ nI b) (ha : a < 2 ^ 31 := by omega) (hb : b < 2 ^ 31 := by omega) : a ≤ b := (nI_leI ha hb).mp h
theorem lt_ofI {a b : Nat} (h : nI a < nI b) (ha : a < 2 ^ 31 := by omega) (hb : b < 2 ^ 31 := by omega) : a < b := (nI_ltI ha hb).mp h
theorem nle_ofI {a b : Nat} (h : ¬ nI a ≤ nI b) (ha : a < 2 ^ 31 := by omega) (hb : b < 2 ^ 31 := by omega) : b < a := Nat.lt_of_not_le fun z => h ((nI_leI ha hb).mpr z)
theorem nlt_ofI {a b : Nat} (h : ¬ nI a < nI b) (ha : a < 2 ^ 31 := by omega) (hb : b < 2 ^ 31 := by omega) : b ≤ a := Nat.le_of_not_lt fun z => h ((nI_ltI ha hb).mpr z)
theorem eq_ofI {a b : Nat} (h : nI a = nI b) (ha : a < 2 ^ 31 := by omega) (hb : b < 2 ^ 31 := by omega) : a = b := (nI_eq ha hb).mp h
theorem ne_ofI {a b : Nat} (h : ¬ nI a = nI b) : a ≠ b := fun z => h (by rw [z])
theorem in_ofI {a n : Nat} (h : a < n) (hn : n < 2 ^ 31 := by omega) : vp_in (nI a) n := vp_in_nI h hn
theorem cl_ofI {a : Nat} (h : a < 2 ^ 31 := by omega) : (nI a).toNatClampNeg = a := nI_clamp h
end
section
/-! PART 30: the disk of the class: reads -/
/-- byte at a cell, 0 outside -/
def bx_at (rm : Nat) (av : Nat → Nat → Int32) (c : Int32) : Int32 := if c < 0 ∨ nI (rm + 15728) ≤ c then 0 else av 0 c.toNatClampNeg &&& 255
def bx_num (rm : Nat) (av : Nat → Nat → Int32) (c : Int32) : Int32 := bx_at rm av c <<< ((24 : Int32) &&& 31) ||| bx_at rm av (c + 1) <<< ((16 : Int32) &&& 31) ||| bx_at rm av (c + 2) <<< ((8 : Int32) &&& 31) ||| bx_at rm av (c + 3)
section S30
variable {Lx : Nat} {xs : Nat → Int32} {d rm : Nat} {iv : Nat → Int32} {av : Nat → Nat → Int32} {r : pW} {Q : rQ}
set_option maxRecDepth 20000 in
theorem sx_logCell (hr : 0 < rm ∧ rm ≤ 4096) {q : Nat} (hq : q < 2 ^ 31) (hQ : Q (some (.int (nI (q % rm)))) (wX rm iv av r)) : rx_R Lx xs (d + 1) 6 [.ref 2, .int (nI q)] (wX rm iv av r) Q := by
  refine pz_en (t := rt_6) ⟨Nat.le_of_ble_eq_true rfl, rfl⟩ rfl rfl ?_
  refine pz_iln (i := 0) rfl rfl ?_
  refine pz_aln (i := 1) rfl rfl ?_
  refine pz_get (i := 2) rfl (gf_2_0 ..) ?_
  refine pz_rem (i := 3) rfl (nI_ne0 hr.1 (by omega)) ?_
  rw [pk_rem hq hr.1 (by omega)]
  refine pz_isn (i := 4) rfl ⟨rfl, Nat.le_of_ble_eq_true rfl⟩ rfl ?_
  refine pz_iln (i := 5) rfl rfl ?_
  refine pz_if_ge (i := 6) rfl (fun c6 => ?_) (fun c6 => ?_)
  · refine pz_iln (i := 12) rfl rfl ?_
    refine pz_ir (i := 13) rfl rfl rfl ?_
    exact hQ
  · exact absurd (nI_pos' (Nat.lt_trans (Nat.mod_lt q hr.1) (by omega))) c6
set_option maxRecDepth 20000 in
theorem sx_byteAt (hr : 0 < rm ∧ rm ≤ 4096) {c : Int32} (hQ : Q (some (.int (bx_at rm av c))) (wX rm iv av r)) : rx_R Lx xs (d + 1) 9 [.ref 2, .int c] (wX rm iv av r) Q := by
  refine pz_en (t := rt_9) ⟨Nat.le_of_ble_eq_true rfl, rfl⟩ rfl rfl ?_
  refine pz_iln (i := 0) rfl rfl ?_
  refine pz_if_lt (i := 1) rfl (fun c1 => ?_) (fun c1 => ?_)
  · refine pz_ic (i := 7) rfl ?_
    refine pz_go (i := 8) rfl ?_
    refine pz_ir (i := 15) rfl rfl rfl ?_
    unfold bx_at at hQ
    first | rwa [if_pos (Or.inl c1)] at hQ | rwa [if_pos (Or.inr (Int32.not_lt.mp c6))] at hQ | (rw [if_neg (fun z => z.elim c1 (fun z => Int32.not_le.mpr c6 z))] at hQ; exact hQ)
  · refine pz_iln (i := 2) rfl rfl ?_
    refine pz_aln (i := 3) rfl rfl ?_
    refine pz_get (i := 4) rfl (gf_2_1 ..) ?_
    refine pz_len (i := 5) rfl (ga_3 ..) (by decide) ?_
    refine pz_ii_lt (i := 6) rfl (fun c6 => ?_) (fun c6 => ?_)
    · refine pz_aln (i := 9) rfl rfl ?_
      refine pz_get (i := 10) rfl (gf_2_1 ..) ?_
      refine pz_iln (i := 11) rfl rfl ?_
      refine pz_bal (i := 12) rfl (ga_3 ..) rfl (by refine fun z => z.elim c1 (fun z => ?_); obtain ⟨j, hj, rfl⟩ := nI_of c1; rw [nI_clamp hj] at z; exact absurd c6 (nI_nlt z hj)) ?_
      refine pz_si (i := 13) rfl ?_
      refine pz_and (i := 14) rfl ?_
      refine pz_ir (i := 15) rfl rfl rfl ?_
      unfold bx_at at hQ
      first | rwa [if_pos (Or.inl c1)] at hQ | rwa [if_pos (Or.inr (Int32.not_lt.mp c6))] at hQ | (rw [if_neg (fun z => z.elim c1 (fun z => Int32.not_le.mpr c6 z))] at hQ; exact hQ)
    · refine pz_ic (i := 7) rfl ?_
      refine pz_go (i := 8) rfl ?_
      refine pz_ir (i := 15) rfl rfl rfl ?_
      unfold bx_at at hQ
      first | rwa [if_pos (Or.inl c1)] at hQ | rwa [if_pos (Or.inr (Int32.not_lt.mp c6))] at hQ | (rw [if_neg (fun z => z.elim c1 (fun z => Int32.not_le.mpr c6 z))] at hQ; exact hQ)
set_option maxRecDepth 20000 in
theorem sx_numberAt (hr : 0 < rm ∧ rm ≤ 4096) {c : Int32} (hQ : Q (some (.int (bx_num rm av c))) (wX rm iv av r)) : rx_R Lx xs (d + 2) 10 [.ref 2, .int c] (wX rm iv av r) Q := by
  refine pz_en (t := rt_10) ⟨Nat.le_of_ble_eq_true rfl, rfl⟩ rfl rfl ?_
  refine pz_aln (i := 0) rfl rfl ?_
  refine pz_iln (i := 1) rfl rfl ?_
  refine pz_cI1 (i := 2) rfl (gc_2 ..) rfl (Nat.le_of_ble_eq_true rfl) rfl ?_
  refine sx_byteAt hr ?_
  refine ⟨_, rfl, ?_⟩
  refine pz_bi (i := 3) rfl ?_
  refine pz_shl (i := 4) rfl ?_
  refine pz_aln (i := 5) rfl rfl ?_
  refine pz_iln (i := 6) rfl rfl ?_
  refine pz_ic (i := 7) rfl ?_
  refine pz_add (i := 8) rfl ?_
  refine pz_cI1 (i := 9) rfl (gc_2 ..) rfl (Nat.le_of_ble_eq_true rfl) rfl ?_
  refine sx_byteAt hr ?_
  refine ⟨_, rfl, ?_⟩
  refine pz_bi (i := 10) rfl ?_
  refine pz_shl (i := 11) rfl ?_
  refine pz_or (i := 12) rfl ?_
  refine pz_aln (i := 13) rfl rfl ?_
  refine pz_iln (i := 14) rfl rfl ?_
  refine pz_ic (i := 15) rfl ?_
  refine pz_add (i := 16) rfl ?_
  refine pz_cI1 (i := 17) rfl (gc_2 ..) rfl (Nat.le_of_ble_eq_true rfl) rfl ?_
  refine sx_byteAt hr ?_
  refine ⟨_, rfl, ?_⟩
  refine pz_bi (i := 18) rfl ?_
  refine pz_shl (i := 19) rfl ?_
  refine pz_or (i := 20) rfl ?_
  refine pz_aln (i := 21) rfl rfl ?_
  refine pz_iln (i := 22) rfl rfl ?_
  refine pz_ic (i := 23) rfl ?_
  refine pz_add (i := 24) rfl ?_
  refine pz_cI1 (i := 25) rfl (gc_2 ..) rfl (Nat.le_of_ble_eq_true rfl) rfl ?_
  refine sx_byteAt hr ?_
  refine ⟨_, rfl, ?_⟩
  refine pz_or (i := 26) rfl ?_
  refine pz_ir (i := 27) rfl rfl rfl ?_
  exact hQ
set_option maxRecDepth 20000 in
theorem sx_tableCell {q : Int32} (hQ : Q (some (.int (nI rm + q * 1300))) (wX rm iv av r)) : rx_R Lx xs (d + 1) 7 [.ref 2, .int q] (wX rm iv av r) Q := by
  refine pz_en (t := rt_7) ⟨Nat.le_of_ble_eq_true rfl, rfl⟩ rfl rfl ?_
  refine pz_aln (i := 0) rfl rfl ?_
  refine pz_get (i := 1) rfl (gf_2_0 ..) ?_
  refine pz_iln (i := 2) rfl rfl ?_
  refine pz_si (i := 3) rfl ?_
  refine pz_mul (i := 4) rfl ?_
  refine pz_add (i := 5) rfl ?_
  refine pz_ir (i := 6) rfl rfl rfl ?_
  exact hQ
set_option maxRecDepth 20000 in
theorem sx_rootCell {q : Int32} (hQ : Q (some (.int (nI rm + 15600 + (q &&& 1) * 64))) (wX rm iv av r)) : rx_R Lx xs (d + 1) 8 [.ref 2, .int q] (wX rm iv av r) Q := by
  refine pz_en (t := rt_8) ⟨Nat.le_of_ble_eq_true rfl, rfl⟩ rfl rfl ?_
  refine pz_aln (i := 0) rfl rfl ?_
  refine pz_get (i := 1) rfl (gf_2_0 ..) ?_
  refine pz_si (i := 2) rfl ?_
  refine pz_add (i := 3) rfl ?_
  refine pz_iln (i := 4) rfl rfl ?_
  refine pz_ic (i := 5) rfl ?_
  refine pz_and (i := 6) rfl ?_
  refine pz_bi (i := 7) rfl ?_
  refine pz_mul (i := 8) rfl ?_
  refine pz_add (i := 9) rfl ?_
  refine pz_ir (i := 10) rfl rfl rfl ?_
  exact hQ
set_option maxRecDepth 20000 in
theorem sx_logByte (hr : 0 < rm ∧ rm ≤ 4096) {q : Nat} (hq : q < 2 ^ 31) (hQ : Q (some (.int (av 0 (q % rm) &&& 255))) (wX rm iv av r)) : rx_R Lx xs (d + 2) 11 [.ref 2, .int (nI q)] (wX rm iv av r) Q := by
  refine pz_en (t := rt_11) ⟨Nat.le_of_ble_eq_true rfl, rfl⟩ rfl rfl ?_
  refine pz_aln (i := 0) rfl rfl ?_
  refine pz_get (i := 1) rfl (gf_2_1 ..) ?_
  refine pz_aln (i := 2) rfl rfl ?_
  refine pz_iln (i := 3) rfl rfl ?_
  refine pz_cI1 (i := 4) rfl (gc_2 ..) rfl (Nat.le_of_ble_eq_true rfl) rfl ?_
  refine sx_logCell hr hq ?_
  refine ⟨_, rfl, ?_⟩
  refine pz_bal (i := 5) rfl (ga_3 ..) rfl (vp_in_nI (Nat.lt_of_lt_of_le (Nat.mod_lt q hr.1) (by omega)) (by omega)) ?_
  rw [nI_clamp (Nat.lt_trans (Nat.mod_lt q hr.1) (by omega))]
  refine pz_si (i := 6) rfl ?_
  refine pz_and (i := 7) rfl ?_
  refine pz_ir (i := 8) rfl rfl rfl ?_
  exact hQ
end S30
end
section
/-! PART 31: small methods of the class -/
def bl_num (rm : Nat) (av : Nat → Nat → Int32) (q : Nat) : Int32 := (av 0 (q % rm) &&& 255) <<< ((24 : Int32) &&& 31) ||| (av 0 ((q + 1) % rm) &&& 255) <<< ((16 : Int32) &&& 31) ||| (av 0 ((q + 2) % rm) &&& 255) <<< ((8 : Int32) &&& 31) ||| (av 0 ((q + 3) % rm) &&& 255)
/-- is it a key -/
def kx_is (k : Int32) : Bool := decide (¬ k < 0) && decide (k < 120)
theorem kx_nat {k : Int32} (h : kx_is k = true) : ∃ n : Nat, n < 120 ∧ k = nI n := by
  simp only [kx_is, Bool.and_eq_true, decide_eq_true_eq] at h
  obtain ⟨j, hj, rfl⟩ := nI_of h.1
  exact ⟨j, (nI_ltI hj (by omega)).mp h.2, rfl⟩
theorem kx_of {n : Nat} (h : n < 120) : kx_is (nI n) = true := by
  simp only [kx_is, Bool.and_eq_true, decide_eq_true_eq]
  exact ⟨nI_pos (by omega), show nI n < nI 120 from nI_lt h (by omega)⟩
theorem kx_in {k : Int32} (h : kx_is k = true) : vp_in k 120 := by
  obtain ⟨n, hn, rfl⟩ := kx_nat h
  exact vp_in_nI hn (by omega)
theorem kx_f1 {k : Int32} (h : k < 0) : kx_is k = false := by simp [kx_is, h]
theorem kx_f2 {k : Int32} (h : 120 ≤ k) : kx_is k = false := by
  unfold kx_is
  rw [decide_eq_false (Int32.not_lt.mpr h), Bool.and_false]
theorem kx_t {k : Int32} (h1 : ¬ k < 0) (h2 : ¬ 120 ≤ k) : kx_is k = true := by
  unfold kx_is
  rw [decide_eq_true h1, decide_eq_true (Int32.not_le.mp h2)]
  rfl
def bB (b : Bool) : Int32 := if b then 1 else 0
theorem bB_n (b : Bool) : narrow .boolean (.int (bB b)) = .int (bB b) ∧ fits .boolean (.int (bB b)) = true := by cases b <;> exact ⟨rfl, rfl⟩
section S31
variable {Lx : Nat} {xs : Nat → Int32} {d rm : Nat} {iv : Nat → Int32} {av : Nat → Nat → Int32} {r : pW} {Q : rQ}
set_option maxRecDepth 20000 in
theorem sx_logNumber (hr : 0 < rm ∧ rm ≤ 4096) {q : Nat} (hq : q + 3 < 2 ^ 31) (hQ : Q (some (.int (bl_num rm av q))) (wX rm iv av r)) : rx_R Lx xs (d + 3) 12 [.ref 2, .int (nI q)] (wX rm iv av r) Q := by
  refine pz_en (t := rt_12) ⟨Nat.le_of_ble_eq_true rfl, rfl⟩ rfl rfl ?_
  refine pz_aln (i := 0) rfl rfl ?_
  refine pz_iln (i := 1) rfl rfl ?_
  refine pz_cI1 (i := 2) rfl (gc_2 ..) rfl (Nat.le_of_ble_eq_true rfl) rfl ?_
  refine sx_logByte hr (by omega) ?_
  refine ⟨_, rfl, ?_⟩
  refine pz_bi (i := 3) rfl ?_
  refine pz_shl (i := 4) rfl ?_
  refine pz_aln (i := 5) rfl rfl ?_
  refine pz_iln (i := 6) rfl rfl ?_
  refine pz_ic (i := 7) rfl ?_
  refine pz_add (i := 8) rfl ?_
  rw [show nI q + 1 = nI (q + 1) from nI_add q 1]
  refine pz_cI1 (i := 9) rfl (gc_2 ..) rfl (Nat.le_of_ble_eq_true rfl) rfl ?_
  refine sx_logByte hr (by omega) ?_
  refine ⟨_, rfl, ?_⟩
  refine pz_bi (i := 10) rfl ?_
  refine pz_shl (i := 11) rfl ?_
  refine pz_or (i := 12) rfl ?_
  refine pz_aln (i := 13) rfl rfl ?_
  refine pz_iln (i := 14) rfl rfl ?_
  refine pz_ic (i := 15) rfl ?_
  refine pz_add (i := 16) rfl ?_
  rw [show nI q + 2 = nI (q + 2) from nI_add q 2]
  refine pz_cI1 (i := 17) rfl (gc_2 ..) rfl (Nat.le_of_ble_eq_true rfl) rfl ?_
  refine sx_logByte hr (by omega) ?_
  refine ⟨_, rfl, ?_⟩
  refine pz_bi (i := 18) rfl ?_
  refine pz_shl (i := 19) rfl ?_
  refine pz_or (i := 20) rfl ?_
  refine pz_aln (i := 21) rfl rfl ?_
  refine pz_iln (i := 22) rfl rfl ?_
  refine pz_ic (i := 23) rfl ?_
  refine pz_add (i := 24) rfl ?_
  rw [show nI q + 3 = nI (q + 3) from nI_add q 3]
  refine pz_cI1 (i := 25) rfl (gc_2 ..) rfl (Nat.le_of_ble_eq_true rfl) rfl ?_
  refine sx_logByte hr (by omega) ?_
  refine ⟨_, rfl, ?_⟩
  refine pz_or (i := 26) rfl ?_
  refine pz_ir (i := 27) rfl rfl rfl ?_
  exact hQ
set_option maxRecDepth 20000 in
theorem sx_recordSize (hr : 0 < rm ∧ rm ≤ 4096) {q : Nat} (hq : q + 2 < 2 ^ 31) (hQ : Q (some (.int (12 + (av 0 ((q + 2) % rm) &&& 255)))) (wX rm iv av r)) : rx_R Lx xs (d + 3) 13 [.ref 2, .int (nI q)] (wX rm iv av r) Q := by
  refine pz_en (t := rt_13) ⟨Nat.le_of_ble_eq_true rfl, rfl⟩ rfl rfl ?_
  refine pz_bi (i := 0) rfl ?_
  refine pz_aln (i := 1) rfl rfl ?_
  refine pz_iln (i := 2) rfl rfl ?_
  refine pz_ic (i := 3) rfl ?_
  refine pz_add (i := 4) rfl ?_
  rw [show nI q + 2 = nI (q + 2) from nI_add q 2]
  refine pz_cI1 (i := 5) rfl (gc_2 ..) rfl (Nat.le_of_ble_eq_true rfl) rfl ?_
  refine sx_logByte hr (by omega) ?_
  refine ⟨_, rfl, ?_⟩
  refine pz_add (i := 6) rfl ?_
  refine pz_ir (i := 7) rfl rfl rfl ?_
  exact hQ
set_option maxRecDepth 20000 in
theorem sx_makeLasting (hQ : Q none (wX rm (if iv 5 = 0 then upd (upd iv 1 0) 0 0 else iv) av r)) : rx_R Lx xs (d + 1) 17 [.ref 2] (wX rm iv av r) Q := by
  refine pz_en (t := rt_17) ⟨Nat.le_of_ble_eq_true rfl, rfl⟩ rfl rfl ?_
  refine pz_aln (i := 0) rfl rfl ?_
  refine pz_get (i := 1) rfl (gf_2_10 ..) ?_
  refine pz_if_ne (i := 2) rfl (fun c2 => ?_) (fun c2 => ?_)
  · refine pz_vr (i := 9) rfl rfl ?_
    first | rwa [if_neg c2] at hQ | rwa [if_pos c2] at hQ
  · refine pz_aln (i := 3) rfl rfl ?_
    refine pz_ic (i := 4) rfl ?_
    refine pz_put (i := 5) rfl (pf_2_6 ..) ⟨rfl, rfl⟩ ?_
    refine pz_aln (i := 6) rfl rfl ?_
    refine pz_ic (i := 7) rfl ?_
    refine pz_put (i := 8) rfl (pf_2_5 ..) ⟨rfl, rfl⟩ ?_
    refine pz_vr (i := 9) rfl rfl ?_
    first | rwa [if_neg c2] at hQ | rwa [if_pos c2] at hQ
set_option maxRecDepth 20000 in
theorem sx_cellBehind (hr : 0 < rm ∧ rm ≤ 4096) {c : Nat} (hc : c < 2 ^ 30) (hQ : Q (some (.int (nI (if c + 1 = rm then 0 else c + 1)))) (wX rm iv av r)) : rx_R Lx xs (d + 1) 20 [.ref 2, .int (nI c)] (wX rm iv av r) Q := by
  refine pz_en (t := rt_20) ⟨Nat.le_of_ble_eq_true rfl, rfl⟩ rfl rfl ?_
  refine pz_iln (i := 0) rfl rfl ?_
  refine pz_ic (i := 1) rfl ?_
  refine pz_add (i := 2) rfl ?_
  rw [nI_1]
  refine pz_aln (i := 3) rfl rfl ?_
  refine pz_get (i := 4) rfl (gf_2_0 ..) ?_
  refine pz_ii_ne (i := 5) rfl (fun c5 => ?_) (fun c5 => ?_)
  · refine pz_iln (i := 8) rfl rfl ?_
    refine pz_ic (i := 9) rfl ?_
    refine pz_add (i := 10) rfl ?_
    rw [nI_1]
    refine pz_ir (i := 11) rfl rfl rfl ?_
    first | rwa [if_neg (fun z => c5 (by rw [z]))] at hQ | rwa [if_pos ((nI_eq (by omega) (by omega)).mp c5)] at hQ
  · refine pz_ic (i := 6) rfl ?_
    refine pz_go (i := 7) rfl ?_
    refine pz_ir (i := 11) rfl rfl rfl ?_
    first | rwa [if_neg (fun z => c5 (by rw [z]))] at hQ | rwa [if_pos ((nI_eq (by omega) (by omega)).mp c5)] at hQ
theorem hh_fc {P : Prop} (h : P) : P := h
set_option maxRecDepth 20000 in
theorem sx_Fclear {f : Nat} (hf : f < 3) (hQ : Q none (wX rm (upd (upd (upd (upd (upd (upd iv (40 + 10 * f + 0) 0) (40 + 10 * f + 1) 0) (40 + 10 * f + 2) 0) (40 + 10 * f + 3) 0) (40 + 10 * f + 4) 0) (40 + 10 * f + 5) 0) av r)) : rx_R Lx xs (d + 1) 28 [.ref (oF f)] (wX rm iv av r) Q := by
  refine pz_en (t := rt_28) ⟨Nat.le_of_ble_eq_true rfl, rfl⟩ rfl rfl ?_
  refine pz_aln (i := 0) rfl rfl ?_
  refine pz_ic (i := 1) rfl ?_
  refine pz_put (i := 2) rfl (pF_0 hf ..) ⟨rfl, rfl⟩ ?_
  refine pz_aln (i := 3) rfl rfl ?_
  refine pz_ic (i := 4) rfl ?_
  refine pz_put (i := 5) rfl (pF_1 hf ..) ⟨rfl, rfl⟩ ?_
  refine pz_aln (i := 6) rfl rfl ?_
  refine pz_ic (i := 7) rfl ?_
  refine pz_put (i := 8) rfl (pF_2 hf ..) ⟨rfl, rfl⟩ ?_
  refine pz_aln (i := 9) rfl rfl ?_
  refine pz_ic (i := 10) rfl ?_
  refine pz_put (i := 11) rfl (pF_3 hf ..) ⟨rfl, rfl⟩ ?_
  refine pz_aln (i := 12) rfl rfl ?_
  refine pz_ic (i := 13) rfl ?_
  refine pz_put (i := 14) rfl (pF_4 hf ..) ⟨rfl, rfl⟩ ?_
  refine pz_aln (i := 15) rfl rfl ?_
  refine pz_ic (i := 16) rfl ?_
  refine pz_put (i := 17) rfl (pF_5 hf ..) ⟨rfl, rfl⟩ ?_
  refine pz_vr (i := 18) rfl rfl ?_
  exact hQ
set_option maxRecDepth 20000 in
theorem sx_hasRoom {n : Int32} (hQ : Q (some (.int (bB (decide (iv 15 + n + 12 - iv 14 ≤ nI rm))))) (wX rm iv av r)) : rx_R Lx xs (d + 1) 33 [.ref 13, .int n] (wX rm iv av r) Q := by
  refine pz_en (t := rt_33) ⟨Nat.le_of_ble_eq_true rfl, rfl⟩ rfl rfl ?_
  refine pz_aln (i := 0) rfl rfl ?_
  refine pz_get (i := 1) rfl (gf_13_1 ..) ?_
  refine pz_get (i := 2) rfl (gf_7_8 ..) ?_
  refine pz_iln (i := 3) rfl rfl ?_
  refine pz_add (i := 4) rfl ?_
  refine pz_bi (i := 5) rfl ?_
  refine pz_add (i := 6) rfl ?_
  refine pz_aln (i := 7) rfl rfl ?_
  refine pz_get (i := 8) rfl (gf_13_1 ..) ?_
  refine pz_get (i := 9) rfl (gf_7_7 ..) ?_
  refine pz_sub (i := 10) rfl ?_
  refine pz_aln (i := 11) rfl rfl ?_
  refine pz_get (i := 12) rfl (gf_13_0 ..) ?_
  refine pz_get (i := 13) rfl (gf_2_0 ..) ?_
  refine pz_ii_gt (i := 14) rfl (fun c14 => ?_) (fun c14 => ?_)
  · refine pz_ic (i := 17) rfl ?_
    refine pz_ir (i := 18) rfl rfl rfl ?_
    first | rwa [decide_eq_false (Int32.not_le.mpr c14)] at hQ | rwa [decide_eq_true (Int32.not_lt.mp c14)] at hQ
  · refine pz_ic (i := 15) rfl ?_
    refine pz_go (i := 16) rfl ?_
    refine pz_ir (i := 18) rfl rfl rfl ?_
    first | rwa [decide_eq_false (Int32.not_le.mpr c14)] at hQ | rwa [decide_eq_true (Int32.not_lt.mp c14)] at hQ
set_option maxRecDepth 20000 in
theorem sx_isKey {k : Int32} {w : pW} (hQ : Q (some (.int (bB (kx_is k)))) w) : rx_R Lx xs (d + 1) 79 [.int k] w Q := by
  refine pz_en (t := rt_79) ⟨Nat.le_of_ble_eq_true rfl, rfl⟩ rfl rfl ?_
  refine pz_iln (i := 0) rfl rfl ?_
  refine pz_if_lt (i := 1) rfl (fun c1 => ?_) (fun c1 => ?_)
  · refine pz_ic (i := 7) rfl ?_
    refine pz_ir (i := 8) rfl rfl rfl ?_
    first | rwa [kx_f1 c1] at hQ | rwa [kx_f2 c4] at hQ | rwa [kx_t c1 c4] at hQ
  · refine pz_iln (i := 2) rfl rfl ?_
    refine pz_bi (i := 3) rfl ?_
    refine pz_ii_ge (i := 4) rfl (fun c4 => ?_) (fun c4 => ?_)
    · refine pz_ic (i := 7) rfl ?_
      refine pz_ir (i := 8) rfl rfl rfl ?_
      first | rwa [kx_f1 c1] at hQ | rwa [kx_f2 c4] at hQ | rwa [kx_t c1 c4] at hQ
    · refine pz_ic (i := 5) rfl ?_
      refine pz_go (i := 6) rfl ?_
      refine pz_ir (i := 8) rfl rfl rfl ?_
      first | rwa [kx_f1 c1] at hQ | rwa [kx_f2 c4] at hQ | rwa [kx_t c1 c4] at hQ
set_option maxRecDepth 20000 in
theorem sx_tableStart {v : Nat} (hv : v < 2) {i : Nat} (hi : i < 6) (hQ : Q (some (.int (nI rm + av (4 + v) i * 1300))) (wX rm iv av r)) : rx_R Lx xs (d + 2) 47 [.ref (oV v), .int (nI i)] (wX rm iv av r) Q := by
  refine pz_en (t := rt_47) ⟨Nat.le_of_ble_eq_true rfl, rfl⟩ rfl rfl ?_
  refine pz_aln (i := 0) rfl rfl ?_
  refine pz_get (i := 1) rfl (gV_0 hv ..) ?_
  refine pz_aln (i := 2) rfl rfl ?_
  refine pz_get (i := 3) rfl (gV_2 hv ..) ?_
  refine pz_iln (i := 4) rfl rfl ?_
  refine pz_ial (i := 5) rfl (gVp hv ..) (vp_in_nI hi (by omega)) ?_
  rw [nI_clamp (by omega)]
  refine pz_cI1 (i := 6) rfl (gc_2 ..) rfl (Nat.le_of_ble_eq_true rfl) rfl ?_
  refine sx_tableCell ?_
  refine ⟨_, rfl, ?_⟩
  refine pz_ir (i := 7) rfl rfl rfl ?_
  exact hQ
set_option maxRecDepth 20000 in
theorem sx_Ehas {e : Nat} (he : e < 5) {k : Int32} (hQ : Q (some (.int (bB (kx_is k && decide (¬ av (10 + 3 * e + 0) k.toNatClampNeg = 0))))) (wX rm iv av r)) : rx_R Lx xs (d + 2) 23 [.ref (oE e), .int k] (wX rm iv av r) Q := by
  refine pz_en (t := rt_23) ⟨Nat.le_of_ble_eq_true rfl, rfl⟩ rfl rfl ?_
  refine pz_iln (i := 0) rfl rfl ?_
  refine pz_sI1 (i := 1) rfl (by decide) (Nat.le_of_ble_eq_true rfl) rfl ?_
  refine sx_isKey ?_
  refine ⟨_, rfl, ?_⟩
  refine pz_if_eq (i := 2) rfl (fun c2 => ?_) (fun c2 => ?_)
  · refine pz_ic (i := 10) rfl ?_
    refine pz_ir (i := 11) rfl rfl rfl ?_
    cases hk : kx_is k
    · rw [hk] at hQ
      first | exact hQ | (rw [hk] at c2; exact absurd rfl c2)
    · rw [hk] at hQ
      first | (rw [hk] at c2; exact absurd c2 (by decide)) | (rw [decide_eq_false (fun z => z c7)] at hQ; exact hQ) | (rw [decide_eq_true c7] at hQ; exact hQ)
  · refine pz_aln (i := 3) rfl rfl ?_
    refine pz_get (i := 4) rfl (gE_0 he ..) ?_
    refine pz_iln (i := 5) rfl rfl ?_
    refine pz_ial (i := 6) rfl (gEa_0 he ..) (kx_in (by cases hk : kx_is k; rw [hk] at c2; exact absurd rfl c2; rfl)) ?_
    refine pz_if_eq (i := 7) rfl (fun c7 => ?_) (fun c7 => ?_)
    · refine pz_ic (i := 10) rfl ?_
      refine pz_ir (i := 11) rfl rfl rfl ?_
      cases hk : kx_is k
      · rw [hk] at hQ
        first | exact hQ | (rw [hk] at c2; exact absurd rfl c2)
      · rw [hk] at hQ
        first | (rw [hk] at c2; exact absurd c2 (by decide)) | (rw [decide_eq_false (fun z => z c7)] at hQ; exact hQ) | (rw [decide_eq_true c7] at hQ; exact hQ)
    · refine pz_ic (i := 8) rfl ?_
      refine pz_go (i := 9) rfl ?_
      refine pz_ir (i := 11) rfl rfl rfl ?_
      cases hk : kx_is k
      · rw [hk] at hQ
        first | exact hQ | (rw [hk] at c2; exact absurd rfl c2)
      · rw [hk] at hQ
        first | (rw [hk] at c2; exact absurd c2 (by decide)) | (rw [decide_eq_false (fun z => z c7)] at hQ; exact hQ) | (rw [decide_eq_true c7] at hQ; exact hQ)
end S31
end
section
/-! PART 32: entries and the batch of the class -/
theorem ua_s (av : Nat → Nat → Int32) (k : Nat) (f : Nat → Int32) : up_a av k f k = f := by simp [up_a]
theorem ua_n {av : Nat → Nat → Int32} {k j : Nat} {f : Nat → Int32} (h : j ≠ k) : up_a av k f j = av j := by simp [up_a, h]
theorem ua_uu (av : Nat → Nat → Int32) (k : Nat) (f g : Nat → Int32) : up_a (up_a av k f) k g = up_a av k g := by
  funext j
  by_cases h : j = k <;> simp [up_a, h]
theorem ua_id (av : Nat → Nat → Int32) (k : Nat) : up_a av k (av k) = av := by
  funext j
  by_cases h : j = k <;> simp [up_a, h]
theorem ui_s (iv : Nat → Int32) (k : Nat) (x : Int32) : upd iv k x k = x := by simp [upd]
theorem ui_n {iv : Nat → Int32} {k j : Nat} {x : Int32} (h : j ≠ k) : upd iv k x j = iv j := by simp [upd, h]
theorem ui_uu (iv : Nat → Int32) (k : Nat) (x y : Int32) : upd (upd iv k x) k y = upd iv k y := by
  funext j
  by_cases h : j = k <;> simp [upd, h]
/-- all kinds 0 -/
def zK (f : Nat → Int32) : Nat → Int32 := fun j => if j < 120 then 0 else f j
/-- entry k of entries e: kind, number, where -/
def se_av (av : Nat → Nat → Int32) (e k : Nat) (a b c : Int32) : Nat → Nat → Int32 :=
  let v1 := up_a av (10 + 3 * e + 0) (upd (av (10 + 3 * e + 0)) k a)
  let v2 := up_a v1 (10 + 3 * e + 1) (upd (v1 (10 + 3 * e + 1)) k b)
  up_a v2 (10 + 3 * e + 2) (upd (v2 (10 + 3 * e + 2)) k c)
def se_iv (iv : Nat → Int32) (av : Nat → Nat → Int32) (e k : Nat) : Nat → Int32 := if av (10 + 3 * e + 0) k = 0 then upd iv (30 + e) (iv (30 + e) + 1) else iv
section S32
variable {Lx : Nat} {xs : Nat → Int32} {d rm : Nat} {iv : Nat → Int32} {av : Nat → Nat → Int32} {r : pW} {Q : rQ}
set_option maxRecDepth 20000 in
theorem lp_Eclear {e : Nat} (he : e < 5) : ∀ (n k : Nat) (av : Nat → Nat → Int32), k ≤ 120 → 120 ≤ k + n → Q none (wX rm (upd iv (30 + e) 0) (up_a av (10 + 3 * e + 0) (fun j => if k ≤ j ∧ j < 120 then 0 else av (10 + 3 * e + 0) j)) r) → pz Lx xs d rt_22 none Q 2 [some (.ref (oE e)), some (.int (nI k))] [] (wX rm iv av r) := by
  intro n
  induction n with
  | zero =>
    intro k av hk hn hQ
    obtain rfl : k = 120 := by omega
    refine pz_iln (i := 2) rfl rfl ?_
    refine pz_bi (i := 3) rfl ?_
    refine pz_ii_ge (i := 4) rfl (fun c4 => ?_) (fun c4 => ?_)
    · refine pz_aln (i := 12) rfl rfl ?_
      refine pz_ic (i := 13) rfl ?_
      refine pz_put (i := 14) rfl (pE_3 he ..) ⟨rfl, rfl⟩ ?_
      refine pz_vr (i := 15) rfl rfl ?_
      have e0 : up_a av (10 + 3 * e + 0) (fun j => if 120 ≤ j ∧ j < 120 then 0 else av (10 + 3 * e + 0) j) = av := by
        rw [show (fun j => if 120 ≤ j ∧ j < 120 then 0 else av (10 + 3 * e + 0) j) = av (10 + 3 * e + 0) from funext fun j => if_neg (by omega)]
        exact ua_id av _
      rw [e0] at hQ
      exact hQ
    · exact absurd (show nI 120 ≤ nI 120 from Int32.le_refl _) c4
  | succ n ih =>
    intro k av hk hn hQ
    refine pz_iln (i := 2) rfl rfl ?_
    refine pz_bi (i := 3) rfl ?_
    refine pz_ii_ge (i := 4) rfl (fun c4 => ?_) (fun c4 => ?_)
    · have hk2 : k = 120 := by
        have := (nI_leI (a := 120) (b := k) (by omega) (by omega)).mp c4
        omega
      subst hk2
      refine pz_aln (i := 12) rfl rfl ?_
      refine pz_ic (i := 13) rfl ?_
      refine pz_put (i := 14) rfl (pE_3 he ..) ⟨rfl, rfl⟩ ?_
      refine pz_vr (i := 15) rfl rfl ?_
      have e0 : up_a av (10 + 3 * e + 0) (fun j => if 120 ≤ j ∧ j < 120 then 0 else av (10 + 3 * e + 0) j) = av := by
        rw [show (fun j => if 120 ≤ j ∧ j < 120 then 0 else av (10 + 3 * e + 0) j) = av (10 + 3 * e + 0) from funext fun j => if_neg (by omega)]
        exact ua_id av _
      rw [e0] at hQ
      exact hQ
    · have hk3 : k < 120 := nle_ofI (a := 120) c4
      refine pz_aln (i := 5) rfl rfl ?_
      refine pz_get (i := 6) rfl (gE_0 he ..) ?_
      refine pz_iln (i := 7) rfl rfl ?_
      refine pz_ic (i := 8) rfl ?_
      refine pz_ias (i := 9) rfl (gEa_0 he ..) (in_ofI hk3) (pEa_0 he ..) ?_
      refine pz_inc (i := 10) rfl rfl rfl rfl ?_
      refine pz_go (i := 11) rfl ?_
      rw [nI_1]
      refine ih (k + 1) _ (by omega) (by omega) ?_
      rw [ua_uu, nI_clamp (by omega), ua_s]
      refine (congrArg (fun f => Q none (wX rm (upd iv (30 + e) 0) (up_a av (10 + 3 * e + 0) f) r)) (funext fun j => ?_)).mpr hQ
      by_cases hj : j = k
      · subst hj
        rw [if_neg (by omega), if_pos (by omega)]
        simp [upd]
      · simp only [upd, hj, if_false]
        by_cases h2 : k ≤ j ∧ j < 120
        · rw [if_pos (by omega), if_pos h2]
        · rw [if_neg (by omega), if_neg h2]
set_option maxRecDepth 20000 in
theorem sx_Eclear {e : Nat} (he : e < 5) (hQ : Q none (wX rm (upd iv (30 + e) 0) (up_a av (10 + 3 * e + 0) (zK (av (10 + 3 * e + 0)))) r)) : rx_R Lx xs (d + 1) 22 [.ref (oE e)] (wX rm iv av r) Q := by
  refine pz_en (t := rt_22) ⟨Nat.le_of_ble_eq_true rfl, rfl⟩ rfl rfl ?_
  refine pz_ic (i := 0) rfl ?_
  refine pz_isn (i := 1) rfl ⟨rfl, Nat.le_of_ble_eq_true rfl⟩ rfl ?_
  refine lp_Eclear he 120 0 av (by omega) (by omega) ?_
  refine (congrArg (fun f => Q none (wX rm (upd iv (30 + e) 0) (up_a av (10 + 3 * e + 0) f) r)) (funext fun j => ?_)).mpr hQ
  simp [zK]
set_option maxRecDepth 20000 in
theorem sx_Eset {e : Nat} (he : e < 5) {k : Nat} (hk : k < 120) {a b c : Int32} (hQ : Q none (wX rm (se_iv iv av e k) (se_av av e k a b c) r)) : rx_R Lx xs (d + 2) 24 [.ref (oE e), .int (nI k), .int a, .int b, .int c] (wX rm iv av r) Q := by
  refine pz_en (t := rt_24) ⟨Nat.le_of_ble_eq_true rfl, rfl⟩ rfl rfl ?_
  refine pz_iln (i := 0) rfl rfl ?_
  refine pz_sI1 (i := 1) rfl (by decide) (Nat.le_of_ble_eq_true rfl) rfl ?_
  refine sx_isKey ?_
  rw [kx_of hk]
  refine ⟨_, rfl, ?_⟩
  refine pz_if_ne (i := 2) rfl (fun c2 => ?_) (fun c2 => ?_)
  · refine pz_aln (i := 4) rfl rfl ?_
    refine pz_get (i := 5) rfl (gE_0 he ..) ?_
    refine pz_iln (i := 6) rfl rfl ?_
    refine pz_ial (i := 7) rfl (gEa_0 he ..) (vp_in_nI hk (by omega)) ?_
    rw [nI_clamp (by omega)]
    refine pz_if_ne (i := 8) rfl (fun c8 => ?_) (fun c8 => ?_)
    · refine pz_aln (i := 15) rfl rfl ?_
      refine pz_get (i := 16) rfl (gE_0 he ..) ?_
      refine pz_iln (i := 17) rfl rfl ?_
      refine pz_iln (i := 18) rfl rfl ?_
      refine pz_ias (i := 19) rfl (gEa_0 he ..) (vp_in_nI hk (by omega)) (pEa_0 he ..) ?_
      refine pz_aln (i := 20) rfl rfl ?_
      refine pz_get (i := 21) rfl (gE_1 he ..) ?_
      refine pz_iln (i := 22) rfl rfl ?_
      refine pz_iln (i := 23) rfl rfl ?_
      refine pz_ias (i := 24) rfl (gEa_1 he ..) (vp_in_nI hk (by omega)) (pEa_1 he ..) ?_
      refine pz_aln (i := 25) rfl rfl ?_
      refine pz_get (i := 26) rfl (gE_2 he ..) ?_
      refine pz_iln (i := 27) rfl rfl ?_
      refine pz_il (i := 28) rfl rfl ?_
      refine pz_ias (i := 29) rfl (gEa_2 he ..) (vp_in_nI hk (by omega)) (pEa_2 he ..) ?_
      refine pz_vr (i := 30) rfl rfl ?_
      unfold se_iv at hQ
      rw [nI_clamp (by omega)]
      first | (rw [if_neg c8] at hQ; exact hQ) | (rw [if_pos c8] at hQ; exact hQ)
    · refine pz_aln (i := 9) rfl rfl ?_
      refine pz_dup (i := 10) rfl rfl ?_
      refine pz_get (i := 11) rfl (gE_3 he ..) ?_
      refine pz_ic (i := 12) rfl ?_
      refine pz_add (i := 13) rfl ?_
      refine pz_put (i := 14) rfl (pE_3 he ..) ⟨rfl, rfl⟩ ?_
      refine pz_aln (i := 15) rfl rfl ?_
      refine pz_get (i := 16) rfl (gE_0 he ..) ?_
      refine pz_iln (i := 17) rfl rfl ?_
      refine pz_iln (i := 18) rfl rfl ?_
      refine pz_ias (i := 19) rfl (gEa_0 he ..) (vp_in_nI hk (by omega)) (pEa_0 he ..) ?_
      refine pz_aln (i := 20) rfl rfl ?_
      refine pz_get (i := 21) rfl (gE_1 he ..) ?_
      refine pz_iln (i := 22) rfl rfl ?_
      refine pz_iln (i := 23) rfl rfl ?_
      refine pz_ias (i := 24) rfl (gEa_1 he ..) (vp_in_nI hk (by omega)) (pEa_1 he ..) ?_
      refine pz_aln (i := 25) rfl rfl ?_
      refine pz_get (i := 26) rfl (gE_2 he ..) ?_
      refine pz_iln (i := 27) rfl rfl ?_
      refine pz_il (i := 28) rfl rfl ?_
      refine pz_ias (i := 29) rfl (gEa_2 he ..) (vp_in_nI hk (by omega)) (pEa_2 he ..) ?_
      refine pz_vr (i := 30) rfl rfl ?_
      unfold se_iv at hQ
      rw [nI_clamp (by omega)]
      first | (rw [if_neg c8] at hQ; exact hQ) | (rw [if_pos c8] at hQ; exact hQ)
  · exact absurd c2 (by decide)
set_option maxRecDepth 20000 in
theorem sx_Eset0 {e : Nat} {k a b c : Int32} (hk : kx_is k = false) (hQ : Q none (wX rm iv av r)) : rx_R Lx xs (d + 2) 24 [.ref (oE e), .int k, .int a, .int b, .int c] (wX rm iv av r) Q := by
  refine pz_en (t := rt_24) ⟨Nat.le_of_ble_eq_true rfl, rfl⟩ rfl rfl ?_
  refine pz_iln (i := 0) rfl rfl ?_
  refine pz_sI1 (i := 1) rfl (by decide) (Nat.le_of_ble_eq_true rfl) rfl ?_
  refine sx_isKey ?_
  rw [hk]
  refine ⟨_, rfl, ?_⟩
  refine pz_if_ne (i := 2) rfl (fun c2 => ?_) (fun c2 => ?_)
  · exact absurd rfl c2
  · refine pz_vr (i := 3) rfl rfl ?_
    exact hQ
end S32
end
section
/-! PART 33: the batch, numbers into rows, filters -/
/-- the two bits of a key -/
def fB (k : Int32) : Int32 := (1 : Int32) <<< ((7 * k - 7 * k / 32 * 32) &&& 31) ||| (1 : Int32) <<< ((11 * k + 5 - (11 * k + 5) / 32 * 32) &&& 31)
/-- the four bytes of a number -/
def n3 (x : Int32) : Int32 := (x.toUInt32 >>> ((24 : Int32).toUInt32 &&& Int32.toUInt32 31)).toInt32.toInt8.toInt32
def n2 (x : Int32) : Int32 := (x.toUInt32 >>> ((16 : Int32).toUInt32 &&& Int32.toUInt32 31)).toInt32.toInt8.toInt32
def n1 (x : Int32) : Int32 := (x.toUInt32 >>> ((8 : Int32).toUInt32 &&& Int32.toUInt32 31)).toInt32.toInt8.toInt32
def n0 (x : Int32) : Int32 := x.toInt8.toInt32
def w4 (f : Nat → Int32) (q : Nat) (x : Int32) : Nat → Int32 := upd (upd (upd (upd f q (n3 x)) (q + 1) (n2 x)) (q + 2) (n1 x)) (q + 3) (n0 x)
section S33
variable {Lx : Nat} {xs : Nat → Int32} {d rm : Nat} {iv : Nat → Int32} {av : Nat → Nat → Int32} {r : pW} {Q : rQ}
set_option maxRecDepth 20000 in
theorem sx_filterBits {k : Int32} {w : pW} (hQ : Q (some (.int (fB k))) w) : rx_R Lx xs (d + 1) 53 [.int k] w Q := by
  refine pz_en (t := rt_53) ⟨Nat.le_of_ble_eq_true rfl, rfl⟩ rfl rfl ?_
  refine pz_ic (i := 0) rfl ?_
  refine pz_bi (i := 1) rfl ?_
  refine pz_iln (i := 2) rfl rfl ?_
  refine pz_mul (i := 3) rfl ?_
  refine pz_bi (i := 4) rfl ?_
  refine pz_rem (i := 5) rfl (by decide) ?_
  refine pz_shl (i := 6) rfl ?_
  refine pz_ic (i := 7) rfl ?_
  refine pz_bi (i := 8) rfl ?_
  refine pz_iln (i := 9) rfl rfl ?_
  refine pz_mul (i := 10) rfl ?_
  refine pz_ic (i := 11) rfl ?_
  refine pz_add (i := 12) rfl ?_
  refine pz_bi (i := 13) rfl ?_
  refine pz_rem (i := 14) rfl (by decide) ?_
  refine pz_shl (i := 15) rfl ?_
  refine pz_or (i := 16) rfl ?_
  refine pz_ir (i := 17) rfl rfl rfl ?_
  exact hQ
set_option maxRecDepth 20000 in
theorem sx_setH {q : Nat} (hq : q + 3 < 12) {x : Int32} (hQ : Q none (wX rm iv (up_a av 26 (w4 (av 26) q x)) r)) : rx_R Lx xs (d + 1) 40 [.ref 20, .int (nI q), .int x] (wX rm iv av r) Q := by
  refine pz_en (t := rt_40) ⟨Nat.le_of_ble_eq_true rfl, rfl⟩ rfl rfl ?_
  refine pz_aln (i := 0) rfl rfl ?_
  refine pz_iln (i := 1) rfl rfl ?_
  refine pz_iln (i := 2) rfl rfl ?_
  refine pz_bi (i := 3) rfl ?_
  refine pz_ush (i := 4) rfl ?_
  refine pz_i2b (i := 5) rfl ?_
  refine pz_bas (i := 6) rfl (ga_20 ..) rfl (in_ofI (by omega)) (pa_20 ..) ?_
  rw [cl_ofI (a := q)]
  refine pz_aln (i := 7) rfl rfl ?_
  refine pz_iln (i := 8) rfl rfl ?_
  refine pz_ic (i := 9) rfl ?_
  refine pz_add (i := 10) rfl ?_
  refine pz_iln (i := 11) rfl rfl ?_
  refine pz_bi (i := 12) rfl ?_
  refine pz_ush (i := 13) rfl ?_
  refine pz_i2b (i := 14) rfl ?_
  rw [show nI q + 1 = nI (q + 1) from nI_add q 1]
  refine pz_bas (i := 15) rfl (ga_20 ..) rfl (in_ofI (a := q + 1) (by omega)) (pa_20 ..) ?_
  rw [cl_ofI (a := q + 1), ua_uu, ua_s]
  refine pz_aln (i := 16) rfl rfl ?_
  refine pz_iln (i := 17) rfl rfl ?_
  refine pz_ic (i := 18) rfl ?_
  refine pz_add (i := 19) rfl ?_
  refine pz_iln (i := 20) rfl rfl ?_
  refine pz_bi (i := 21) rfl ?_
  refine pz_ush (i := 22) rfl ?_
  refine pz_i2b (i := 23) rfl ?_
  rw [show nI q + 2 = nI (q + 2) from nI_add q 2]
  refine pz_bas (i := 24) rfl (ga_20 ..) rfl (in_ofI (a := q + 2) (by omega)) (pa_20 ..) ?_
  rw [cl_ofI (a := q + 2), ua_uu, ua_s]
  refine pz_aln (i := 25) rfl rfl ?_
  refine pz_iln (i := 26) rfl rfl ?_
  refine pz_ic (i := 27) rfl ?_
  refine pz_add (i := 28) rfl ?_
  refine pz_iln (i := 29) rfl rfl ?_
  refine pz_i2b (i := 30) rfl ?_
  rw [show nI q + 3 = nI (q + 3) from nI_add q 3]
  refine pz_bas (i := 31) rfl (ga_20 ..) rfl (in_ofI (a := q + 3) (by omega)) (pa_20 ..) ?_
  rw [cl_ofI (a := q + 3), ua_uu, ua_s]
  refine pz_vr (i := 32) rfl rfl ?_
  have e : ∀ z : Int32, vp_nar (rx_tg 1) z.toInt8.toInt32 = z.toInt8.toInt32 := pk_vb
  rw [e, e, e, e]
  exact hQ
set_option maxRecDepth 20000 in
theorem sx_setP {q : Nat} (hq : q + 3 < 1300) {x : Int32} (hQ : Q none (wX rm iv (up_a av 27 (w4 (av 27) q x)) r)) : rx_R Lx xs (d + 1) 40 [.ref 21, .int (nI q), .int x] (wX rm iv av r) Q := by
  refine pz_en (t := rt_40) ⟨Nat.le_of_ble_eq_true rfl, rfl⟩ rfl rfl ?_
  refine pz_aln (i := 0) rfl rfl ?_
  refine pz_iln (i := 1) rfl rfl ?_
  refine pz_iln (i := 2) rfl rfl ?_
  refine pz_bi (i := 3) rfl ?_
  refine pz_ush (i := 4) rfl ?_
  refine pz_i2b (i := 5) rfl ?_
  refine pz_bas (i := 6) rfl (ga_21 ..) rfl (in_ofI (by omega)) (pa_21 ..) ?_
  rw [cl_ofI (a := q)]
  refine pz_aln (i := 7) rfl rfl ?_
  refine pz_iln (i := 8) rfl rfl ?_
  refine pz_ic (i := 9) rfl ?_
  refine pz_add (i := 10) rfl ?_
  refine pz_iln (i := 11) rfl rfl ?_
  refine pz_bi (i := 12) rfl ?_
  refine pz_ush (i := 13) rfl ?_
  refine pz_i2b (i := 14) rfl ?_
  rw [show nI q + 1 = nI (q + 1) from nI_add q 1]
  refine pz_bas (i := 15) rfl (ga_21 ..) rfl (in_ofI (a := q + 1) (by omega)) (pa_21 ..) ?_
  rw [cl_ofI (a := q + 1), ua_uu, ua_s]
  refine pz_aln (i := 16) rfl rfl ?_
  refine pz_iln (i := 17) rfl rfl ?_
  refine pz_ic (i := 18) rfl ?_
  refine pz_add (i := 19) rfl ?_
  refine pz_iln (i := 20) rfl rfl ?_
  refine pz_bi (i := 21) rfl ?_
  refine pz_ush (i := 22) rfl ?_
  refine pz_i2b (i := 23) rfl ?_
  rw [show nI q + 2 = nI (q + 2) from nI_add q 2]
  refine pz_bas (i := 24) rfl (ga_21 ..) rfl (in_ofI (a := q + 2) (by omega)) (pa_21 ..) ?_
  rw [cl_ofI (a := q + 2), ua_uu, ua_s]
  refine pz_aln (i := 25) rfl rfl ?_
  refine pz_iln (i := 26) rfl rfl ?_
  refine pz_ic (i := 27) rfl ?_
  refine pz_add (i := 28) rfl ?_
  refine pz_iln (i := 29) rfl rfl ?_
  refine pz_i2b (i := 30) rfl ?_
  rw [show nI q + 3 = nI (q + 3) from nI_add q 3]
  refine pz_bas (i := 31) rfl (ga_21 ..) rfl (in_ofI (a := q + 3) (by omega)) (pa_21 ..) ?_
  rw [cl_ofI (a := q + 3), ua_uu, ua_s]
  refine pz_vr (i := 32) rfl rfl ?_
  have e : ∀ z : Int32, vp_nar (rx_tg 1) z.toInt8.toInt32 = z.toInt8.toInt32 := pk_vb
  rw [e, e, e, e]
  exact hQ
/-- no record of the batch before i has the key of record i -/
def fK (f : Nat → Int32) (i : Nat) : Bool := (List.range i).all (fun j => decide (¬ f j = f i))
theorem lp_first {i : Nat} (hi : i < 8) : ∀ (m k : Nat), k ≤ i → i ≤ k + m → (∀ j, j < k → ¬ av 30 j = av 30 i) → Q (some (.int (bB (fK (av 30) i)))) (wX rm iv av r) → pz Lx xs d rt_2 (some .boolean) Q 2 [some (.ref 37), some (.int (nI i)), some (.int (nI k))] [] (wX rm iv av r) := by
  have hdone : (∀ j, j < i → ¬ av 30 j = av 30 i) → Q (some (.int (bB (fK (av 30) i)))) (wX rm iv av r) → pz Lx xs d rt_2 (some .boolean) Q 2 [some (.ref 37), some (.int (nI i)), some (.int (nI i))] [] (wX rm iv av r) := by
    intro h hQ
    have hf : fK (av 30) i = true := List.all_eq_true.mpr (fun j hj => by simpa using h j (List.mem_range.mp hj))
    rw [hf] at hQ
    refine pz_iln (i := 2) rfl rfl ?_
    refine pz_iln (i := 3) rfl rfl ?_
    refine pz_ii_ge (i := 4) rfl (fun c4 => ?_) (fun c4 => ?_)
    · refine pz_ic (i := 18) rfl ?_
      refine pz_ir (i := 19) rfl rfl rfl ?_
      exact hQ
    · exact absurd (Int32.le_refl _) c4
  intro m
  induction m with
  | zero =>
    intro k hk hm h hQ
    obtain rfl : k = i := by omega
    exact hdone h hQ
  | succ m ih =>
    intro k hk hm h hQ
    by_cases hki : k = i
    · subst hki
      exact hdone h hQ
    refine pz_iln (i := 2) rfl rfl ?_
    refine pz_iln (i := 3) rfl rfl ?_
    refine pz_ii_ge (i := 4) rfl (fun c4 => ?_) (fun c4 => ?_)
    · exact absurd (le_ofI c4) (by omega)
    · refine pz_aln (i := 5) rfl rfl ?_
      refine pz_get (i := 6) rfl (gf_37_1 ..) ?_
      refine pz_iln (i := 7) rfl rfl ?_
      refine pz_ial (i := 8) rfl (ga_39 ..) (in_ofI (by omega)) ?_
      rw [cl_ofI (a := k)]
      refine pz_aln (i := 9) rfl rfl ?_
      refine pz_get (i := 10) rfl (gf_37_1 ..) ?_
      refine pz_iln (i := 11) rfl rfl ?_
      refine pz_ial (i := 12) rfl (ga_39 ..) (in_ofI (by omega)) ?_
      rw [cl_ofI (a := i)]
      refine pz_ii_ne (i := 13) rfl (fun c13 => ?_) (fun c13 => ?_)
      · refine pz_inc (i := 16) rfl rfl rfl rfl ?_
        refine pz_go (i := 17) rfl ?_
        rw [nI_1]
        refine ih (k + 1) (by omega) (by omega) (fun j hj => ?_) hQ
        by_cases hjk : j = k
        · subst hjk
          exact c13
        · exact h j (by omega)
      · refine pz_ic (i := 14) rfl ?_
        refine pz_ir (i := 15) rfl rfl rfl ?_
        have hf : fK (av 30) i = false := by
          apply Bool.eq_false_iff.mpr
          intro z
          have := List.all_eq_true.mp z k (List.mem_range.mpr (by omega))
          simp only [decide_eq_true_eq] at this
          exact this c13
        rw [hf] at hQ
        exact hQ
set_option maxRecDepth 20000 in
theorem sx_isFirst {i : Nat} (hi : i < 8) (hQ : Q (some (.int (bB (fK (av 30) i)))) (wX rm iv av r)) : rx_R Lx xs (d + 1) 2 [.ref 37, .int (nI i)] (wX rm iv av r) Q := by
  refine pz_en (t := rt_2) ⟨Nat.le_of_ble_eq_true rfl, rfl⟩ rfl rfl ?_
  refine pz_ic (i := 0) rfl ?_
  refine pz_isn (i := 1) rfl ⟨rfl, Nat.le_of_ble_eq_true rfl⟩ rfl ?_
  exact lp_first hi i 0 (by omega) (by omega) (fun j hj => absurd hj (by omega)) hQ
def sB (f : Nat → Nat) : Nat → Nat
  | 0 => 0
  | k + 1 => sB f k + (12 + f k)
theorem sB_le {f : Nat → Nat} (h : ∀ j, j < 8 → f j ≤ 64) : ∀ k, k ≤ 8 → sB f k ≤ 76 * k
  | 0, _ => by simp [sB]
  | k + 1, hk => by
    have h1 := sB_le h k (by omega)
    have h2 := h k (by omega)
    simp only [sB]
    omega
theorem lp_bsize {n : Nat} {f : Nat → Nat} (hn : n ≤ 8) (hc : iv 7 = nI n) (hf : ∀ j, j < n → av 31 j = nI (f j)) (hQ : Q (some (.int (nI (sB f n)))) (wX rm iv av r)) : ∀ (m k : Nat), k ≤ n → n ≤ k + m → pz Lx xs d rt_3 (some .int) Q 4 [some (.ref 37), some (.int (nI (sB f k))), some (.int (nI k))] [] (wX rm iv av r) := by
  have hdone : pz Lx xs d rt_3 (some .int) Q 4 [some (.ref 37), some (.int (nI (sB f n))), some (.int (nI n))] [] (wX rm iv av r) := by
    refine pz_iln (i := 4) rfl rfl ?_
    refine pz_aln (i := 5) rfl rfl ?_
    refine pz_get (i := 6) rfl (gf_37_4 ..) ?_
    rw [hc]
    refine pz_ii_ge (i := 7) rfl (fun c7 => ?_) (fun c7 => ?_)
    · refine pz_iln (i := 19) rfl rfl ?_
      refine pz_ir (i := 20) rfl rfl rfl ?_
      exact hQ
    · exact absurd (Int32.le_refl _) c7
  intro m
  induction m with
  | zero =>
    intro k hk hm
    obtain rfl : k = n := by omega
    exact hdone
  | succ m ih =>
    intro k hk hm
    by_cases hkn : k = n
    · subst hkn
      exact hdone
    refine pz_iln (i := 4) rfl rfl ?_
    refine pz_aln (i := 5) rfl rfl ?_
    refine pz_get (i := 6) rfl (gf_37_4 ..) ?_
    rw [hc]
    refine pz_ii_ge (i := 7) rfl (fun c7 => ?_) (fun c7 => ?_)
    · exact absurd (le_ofI c7) (by omega)
    · refine pz_iln (i := 8) rfl rfl ?_
      refine pz_bi (i := 9) rfl ?_
      refine pz_aln (i := 10) rfl rfl ?_
      refine pz_get (i := 11) rfl (gf_37_2 ..) ?_
      refine pz_iln (i := 12) rfl rfl ?_
      refine pz_ial (i := 13) rfl (ga_40 ..) (in_ofI (by omega)) ?_
      rw [cl_ofI (a := k), hf k (by omega)]
      refine pz_add (i := 14) rfl ?_
      rw [show (12 : Int32) + nI (f k) = nI (12 + f k) from nI_add 12 (f k)]
      refine pz_add (i := 15) rfl ?_
      rw [nI_add]
      refine pz_isn (i := 16) rfl ⟨rfl, Nat.le_of_ble_eq_true rfl⟩ rfl ?_
      refine pz_inc (i := 17) rfl rfl rfl rfl ?_
      refine pz_go (i := 18) rfl ?_
      rw [nI_1]
      exact ih (k + 1) (by omega) (by omega)
set_option maxRecDepth 20000 in
theorem sx_Bsize {n : Nat} {f : Nat → Nat} (hn : n ≤ 8) (hc : iv 7 = nI n) (hf : ∀ j, j < n → av 31 j = nI (f j)) (hQ : Q (some (.int (nI (sB f n)))) (wX rm iv av r)) : rx_R Lx xs (d + 1) 3 [.ref 37] (wX rm iv av r) Q := by
  refine pz_en (t := rt_3) ⟨Nat.le_of_ble_eq_true rfl, rfl⟩ rfl rfl ?_
  refine pz_ic (i := 0) rfl ?_
  refine pz_isn (i := 1) rfl ⟨rfl, Nat.le_of_ble_eq_true rfl⟩ rfl ?_
  refine pz_ic (i := 2) rfl ?_
  refine pz_isn (i := 3) rfl ⟨rfl, Nat.le_of_ble_eq_true rfl⟩ rfl ?_
  exact lp_bsize hn hc hf hQ n 0 (by omega) (by omega)
/-- how many of the batch's records bring a new key -/
def cW (kd : Nat → Int32) (ky : Nat → Int32) : Nat → Nat
  | 0 => 0
  | i + 1 => cW kd ky i + (if (!(kx_is (ky i) && decide (¬ kd (ky i).toNatClampNeg = 0))) && fK ky i then 1 else 0)
theorem bB_t {b : Bool} (h : ¬ bB b = 0) : b = true := by
  cases b
  · exact absurd rfl h
  · rfl
theorem bB_f {b : Bool} (h : bB b = 0) : b = false := by
  cases b
  · rfl
  · exact absurd h (by decide)
theorem cW_a {kd ky : Nat → Int32} {i : Nat} (h : (kx_is (ky i) && decide (¬ kd (ky i).toNatClampNeg = 0)) = true) : cW kd ky (i + 1) = cW kd ky i := by
  show cW kd ky i + _ = _
  rw [h]
  rfl
theorem cW_b {kd ky : Nat → Int32} {i : Nat} (h : (kx_is (ky i) && decide (¬ kd (ky i).toNatClampNeg = 0)) = false) (h2 : fK ky i = false) : cW kd ky (i + 1) = cW kd ky i := by
  show cW kd ky i + _ = _
  rw [h, h2]
  rfl
theorem cW_c {kd ky : Nat → Int32} {i : Nat} (h : (kx_is (ky i) && decide (¬ kd (ky i).toNatClampNeg = 0)) = false) (h2 : fK ky i = true) : cW kd ky (i + 1) = cW kd ky i + 1 := by
  show cW kd ky i + _ = _
  rw [h, h2]
  rfl
theorem cW_le (kd ky : Nat → Int32) : ∀ n, cW kd ky n ≤ n
  | 0 => Nat.le_refl _
  | n + 1 => by
    have := cW_le kd ky n
    unfold cW
    split <;> omega
theorem lp_cwith {e : Nat} (he : e < 5) {n c0 : Nat} (hn : n ≤ 8) (hc : iv 7 = nI n) (hc0 : c0 < 2 ^ 20) (hQ : Q (some (.int (nI (c0 + cW (av (10 + 3 * e + 0)) (av 30) n)))) (wX rm iv av r)) : ∀ (m k : Nat), k ≤ n → n ≤ k + m → pz Lx xs (d + 2) rt_26 (some .int) Q 5 [some (.ref (oE e)), some (.ref 37), some (.int (nI (c0 + cW (av (10 + 3 * e + 0)) (av 30) k))), some (.int (nI k))] [] (wX rm iv av r) := by
  have hdone : pz Lx xs (d + 2) rt_26 (some .int) Q 5 [some (.ref (oE e)), some (.ref 37), some (.int (nI (c0 + cW (av (10 + 3 * e + 0)) (av 30) n))), some (.int (nI n))] [] (wX rm iv av r) := by
    refine pz_iln (i := 5) rfl rfl ?_
    refine pz_aln (i := 6) rfl rfl ?_
    refine pz_get (i := 7) rfl (gf_37_4 ..) ?_
    rw [hc]
    refine pz_ii_ge (i := 8) rfl (fun c8 => ?_) (fun c8 => ?_)
    · refine pz_iln (i := 23) rfl rfl ?_
      refine pz_ir (i := 24) rfl rfl rfl ?_
      exact hQ
    · exact absurd (Int32.le_refl _) c8
  intro m
  induction m with
  | zero =>
    intro k hk hm
    obtain rfl : k = n := by omega
    exact hdone
  | succ m ih =>
    intro k hk hm
    by_cases hkn : k = n
    · subst hkn
      exact hdone
    have hnext : ∀ z, z = cW (av (10 + 3 * e + 0)) (av 30) (k + 1) → pz Lx xs (d + 2) rt_26 (some .int) Q 21 [some (.ref (oE e)), some (.ref 37), some (.int (nI (c0 + z))), some (.int (nI k))] [] (wX rm iv av r) := by
      intro z hz
      refine pz_inc (i := 21) rfl rfl rfl rfl ?_
      refine pz_go (i := 22) rfl ?_
      rw [nI_1, hz]
      exact ih (k + 1) (by omega) (by omega)
    refine pz_iln (i := 5) rfl rfl ?_
    refine pz_aln (i := 6) rfl rfl ?_
    refine pz_get (i := 7) rfl (gf_37_4 ..) ?_
    rw [hc]
    refine pz_ii_ge (i := 8) rfl (fun c8 => ?_) (fun c8 => ?_)
    · exact absurd (le_ofI c8) (by omega)
    · refine pz_aln (i := 9) rfl rfl ?_
      refine pz_aln (i := 10) rfl rfl ?_
      refine pz_get (i := 11) rfl (gf_37_1 ..) ?_
      refine pz_iln (i := 12) rfl rfl ?_
      refine pz_ial (i := 13) rfl (ga_39 ..) (in_ofI (by omega)) ?_
      rw [cl_ofI (a := k)]
      refine pz_cI1 (i := 14) rfl (gE_c he ..) rfl (Nat.le_of_ble_eq_true rfl) rfl ?_
      refine sx_Ehas he ?_
      refine ⟨_, rfl, ?_⟩
      refine pz_if_ne (i := 15) rfl (fun c15 => ?_) (fun c15 => ?_)
      · first | exact hnext _ (cW_a (bB_t c15)).symm | exact hnext _ (cW_b (bB_f c15) (bB_f c19)).symm | exact hnext _ (cW_c (bB_f c15) (bB_t c19)).symm
      · refine pz_aln (i := 16) rfl rfl ?_
        refine pz_iln (i := 17) rfl rfl ?_
        refine pz_cI1 (i := 18) rfl (gc_37 ..) rfl (Nat.le_of_ble_eq_true rfl) rfl ?_
        refine sx_isFirst (by omega) ?_
        refine ⟨_, rfl, ?_⟩
        refine pz_if_eq (i := 19) rfl (fun c19 => ?_) (fun c19 => ?_)
        · first | exact hnext _ (cW_a (bB_t c15)).symm | exact hnext _ (cW_b (bB_f c15) (bB_f c19)).symm | exact hnext _ (cW_c (bB_f c15) (bB_t c19)).symm
        · refine pz_inc (i := 20) rfl rfl rfl rfl ?_
          rw [show nI (c0 + cW (av (10 + 3 * e + 0)) (av 30) k) + 1 = nI (c0 + (cW (av (10 + 3 * e + 0)) (av 30) k + 1)) from by rw [nI_1, Nat.add_assoc]]
          first | exact hnext _ (cW_a (bB_t c15)).symm | exact hnext _ (cW_b (bB_f c15) (bB_f c19)).symm | exact hnext _ (cW_c (bB_f c15) (bB_t c19)).symm
set_option maxRecDepth 20000 in
theorem sx_countWith {e : Nat} (he : e < 5) {n c0 : Nat} (hn : n ≤ 8) (hc : iv 7 = nI n) (hc0 : c0 < 2 ^ 20) (hce : iv (30 + e) = nI c0) (hQ : Q (some (.int (nI (c0 + cW (av (10 + 3 * e + 0)) (av 30) n)))) (wX rm iv av r)) : rx_R Lx xs (d + 3) 26 [.ref (oE e), .ref 37] (wX rm iv av r) Q := by
  refine pz_en (t := rt_26) ⟨Nat.le_of_ble_eq_true rfl, rfl⟩ rfl rfl ?_
  refine pz_aln (i := 0) rfl rfl ?_
  refine pz_get (i := 1) rfl (gE_3 he ..) ?_
  rw [hce]
  refine pz_isn (i := 2) rfl ⟨rfl, Nat.le_of_ble_eq_true rfl⟩ rfl ?_
  refine pz_ic (i := 3) rfl ?_
  refine pz_isn (i := 4) rfl ⟨rfl, Nat.le_of_ble_eq_true rfl⟩ rfl ?_
  exact lp_cwith he hn hc hc0 hQ n 0 (by omega) (by omega)
end S33
end

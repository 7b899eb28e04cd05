section
-- ===== PART A: goes FIRST, ahead of the names: the tables' words, and 'selects' of the private methods out of them =====
/-- a private method of a class that the tables say can be made, by its rows of tables_1 -/
def lw_okq (q : MethodName × Nat) : Prop := (q.1.cls ≠ "java/lang/invoke/MethodHandle" ∧ q.1.cls ≠ "java/lang/invoke/VarHandle") ∧ Cond.instantiable q.1.cls q.2 ∈ tables_1 ∧ Cond.privateMethod q.1 ∈ tables_1 ∧ Cond.instanceMethod q.1 ∈ tables_1
theorem lw_p0 : lw_okq (⟨"TrailStore$View", "loadRoot", "()V"⟩, 11) := ⟨⟨by decide +kernel, by decide +kernel⟩, List.mem_of_getElem? (i := 74) (by decide +kernel), List.mem_of_getElem? (i := 282) (by decide +kernel), List.mem_of_getElem? (i := 283) (by decide +kernel)⟩
theorem lw_p1 : lw_okq (⟨"TrailStore$View", "loadRootAt", "(I)V"⟩, 11) := ⟨⟨by decide +kernel, by decide +kernel⟩, List.mem_of_getElem? (i := 74) (by decide +kernel), List.mem_of_getElem? (i := 298) (by decide +kernel), List.mem_of_getElem? (i := 299) (by decide +kernel)⟩
theorem lw_p2 : lw_okq (⟨"TrailStore$View", "takeRecordsBefore", "(I)V"⟩, 11) := ⟨⟨by decide +kernel, by decide +kernel⟩, List.mem_of_getElem? (i := 74) (by decide +kernel), List.mem_of_getElem? (i := 332) (by decide +kernel), List.mem_of_getElem? (i := 333) (by decide +kernel)⟩
theorem lw_p3 : lw_okq (⟨"TrailStore$Disk", "isInside", "(II)Z"⟩, 11) := ⟨⟨by decide +kernel, by decide +kernel⟩, List.mem_of_getElem? (i := 20) (by decide +kernel), List.mem_of_getElem? (i := 346) (by decide +kernel), List.mem_of_getElem? (i := 347) (by decide +kernel)⟩
theorem lw_p4 : lw_okq (⟨"TrailStore$Disk", "cellBehind", "(I)I"⟩, 11) := ⟨⟨by decide +kernel, by decide +kernel⟩, List.mem_of_getElem? (i := 20) (by decide +kernel), List.mem_of_getElem? (i := 354) (by decide +kernel), List.mem_of_getElem? (i := 355) (by decide +kernel)⟩
theorem lw_p5 : lw_okq (⟨"TrailStore$Keeper", "writeTable", "(ILTrailStore$Entries;I)V"⟩, 9) := ⟨⟨by decide +kernel, by decide +kernel⟩, List.mem_of_getElem? (i := 163) (by decide +kernel), List.mem_of_getElem? (i := 443) (by decide +kernel), List.mem_of_getElem? (i := 444) (by decide +kernel)⟩
theorem lw_p6 : lw_okq (⟨"TrailStore$Keeper", "leastFreePlace", "()I"⟩, 9) := ⟨⟨by decide +kernel, by decide +kernel⟩, List.mem_of_getElem? (i := 163) (by decide +kernel), List.mem_of_getElem? (i := 460) (by decide +kernel), List.mem_of_getElem? (i := 461) (by decide +kernel)⟩
theorem lw_p7 : lw_okq (⟨"TrailStore$Keeper", "writeRoot", "()V"⟩, 9) := ⟨⟨by decide +kernel, by decide +kernel⟩, List.mem_of_getElem? (i := 163) (by decide +kernel), List.mem_of_getElem? (i := 486) (by decide +kernel), List.mem_of_getElem? (i := 487) (by decide +kernel)⟩
theorem lw_p8 : lw_okq (⟨"TrailStore$Keeper", "hasRoom", "(I)Z"⟩, 9) := ⟨⟨by decide +kernel, by decide +kernel⟩, List.mem_of_getElem? (i := 163) (by decide +kernel), List.mem_of_getElem? (i := 491) (by decide +kernel), List.mem_of_getElem? (i := 492) (by decide +kernel)⟩
theorem lw_p9 : lw_okq (⟨"TrailStore$View", "findInTables", "(ILTrailStore$Found;)V"⟩, 11) := ⟨⟨by decide +kernel, by decide +kernel⟩, List.mem_of_getElem? (i := 74) (by decide +kernel), List.mem_of_getElem? (i := 510) (by decide +kernel), List.mem_of_getElem? (i := 511) (by decide +kernel)⟩
theorem lw_p10 : lw_okq (⟨"TrailStore$View", "entryCell", "(II)I"⟩, 11) := ⟨⟨by decide +kernel, by decide +kernel⟩, List.mem_of_getElem? (i := 74) (by decide +kernel), List.mem_of_getElem? (i := 515) (by decide +kernel), List.mem_of_getElem? (i := 516) (by decide +kernel)⟩
theorem lw_p11 : lw_okq (⟨"TrailStore$Keeper", "append", "(II[BI)V"⟩, 9) := ⟨⟨by decide +kernel, by decide +kernel⟩, List.mem_of_getElem? (i := 163) (by decide +kernel), List.mem_of_getElem? (i := 525) (by decide +kernel), List.mem_of_getElem? (i := 526) (by decide +kernel)⟩
theorem lw_p12 : lw_okq (⟨"TrailStore$Keeper", "appendAll", "(LTrailStore$Batch;)V"⟩, 9) := ⟨⟨by decide +kernel, by decide +kernel⟩, List.mem_of_getElem? (i := 163) (by decide +kernel), List.mem_of_getElem? (i := 530) (by decide +kernel), List.mem_of_getElem? (i := 531) (by decide +kernel)⟩
theorem lw_p13 : lw_okq (⟨"TrailStore", "batchOver", "(I)I"⟩, 14) := ⟨⟨by decide +kernel, by decide +kernel⟩, List.mem_of_getElem? (i := 12) (by decide +kernel), List.mem_of_getElem? (i := 534) (by decide +kernel), List.mem_of_getElem? (i := 535) (by decide +kernel)⟩
theorem lw_p14 : lw_okq (⟨"TrailStore", "ended", "(I)I"⟩, 14) := ⟨⟨by decide +kernel, by decide +kernel⟩, List.mem_of_getElem? (i := 12) (by decide +kernel), List.mem_of_getElem? (i := 538) (by decide +kernel), List.mem_of_getElem? (i := 539) (by decide +kernel)⟩
theorem lw_p15 : lw_okq (⟨"TrailStore", "losePower", "(II)V"⟩, 14) := ⟨⟨by decide +kernel, by decide +kernel⟩, List.mem_of_getElem? (i := 12) (by decide +kernel), List.mem_of_getElem? (i := 542) (by decide +kernel), List.mem_of_getElem? (i := 543) (by decide +kernel)⟩
def lw_privs_1 : List (MethodName × Nat) := [(⟨"TrailStore$View", "loadRoot", "()V"⟩, 11), (⟨"TrailStore$View", "loadRootAt", "(I)V"⟩, 11), (⟨"TrailStore$View", "takeRecordsBefore", "(I)V"⟩, 11), (⟨"TrailStore$Disk", "isInside", "(II)Z"⟩, 11), (⟨"TrailStore$Disk", "cellBehind", "(I)I"⟩, 11), (⟨"TrailStore$Keeper", "writeTable", "(ILTrailStore$Entries;I)V"⟩, 9), (⟨"TrailStore$Keeper", "leastFreePlace", "()I"⟩, 9), (⟨"TrailStore$Keeper", "writeRoot", "()V"⟩, 9), (⟨"TrailStore$Keeper", "hasRoom", "(I)Z"⟩, 9), (⟨"TrailStore$View", "findInTables", "(ILTrailStore$Found;)V"⟩, 11), (⟨"TrailStore$View", "entryCell", "(II)I"⟩, 11), (⟨"TrailStore$Keeper", "append", "(II[BI)V"⟩, 9), (⟨"TrailStore$Keeper", "appendAll", "(LTrailStore$Batch;)V"⟩, 9), (⟨"TrailStore", "batchOver", "(I)I"⟩, 14), (⟨"TrailStore", "ended", "(I)I"⟩, 14), (⟨"TrailStore", "losePower", "(II)V"⟩, 14)]
theorem lw_r1 : ∀ q ∈ lw_privs_1, lw_okq q := List.forall_mem_cons.mpr ⟨lw_p0, List.forall_mem_cons.mpr ⟨lw_p1, List.forall_mem_cons.mpr ⟨lw_p2, List.forall_mem_cons.mpr ⟨lw_p3, List.forall_mem_cons.mpr ⟨lw_p4, List.forall_mem_cons.mpr ⟨lw_p5, List.forall_mem_cons.mpr ⟨lw_p6, List.forall_mem_cons.mpr ⟨lw_p7, List.forall_mem_cons.mpr ⟨lw_p8, List.forall_mem_cons.mpr ⟨lw_p9, List.forall_mem_cons.mpr ⟨lw_p10, List.forall_mem_cons.mpr ⟨lw_p11, List.forall_mem_cons.mpr ⟨lw_p12, List.forall_mem_cons.mpr ⟨lw_p13, List.forall_mem_cons.mpr ⟨lw_p14, List.forall_mem_cons.mpr ⟨lw_p15, fun _ h => absurd h List.not_mem_nil⟩⟩⟩⟩⟩⟩⟩⟩⟩⟩⟩⟩⟩⟩⟩⟩
theorem lw_p16 : lw_okq (⟨"TrailStore", "isThere", "(I)Z"⟩, 14) := ⟨⟨by decide +kernel, by decide +kernel⟩, List.mem_of_getElem? (i := 12) (by decide +kernel), List.mem_of_getElem? (i := 554) (by decide +kernel), List.mem_of_getElem? (i := 555) (by decide +kernel)⟩
theorem lw_p17 : lw_okq (⟨"TrailStore", "keysThere", "()I"⟩, 14) := ⟨⟨by decide +kernel, by decide +kernel⟩, List.mem_of_getElem? (i := 12) (by decide +kernel), List.mem_of_getElem? (i := 625) (by decide +kernel), List.mem_of_getElem? (i := 626) (by decide +kernel)⟩
theorem lw_p18 : lw_okq (⟨"TrailStore", "bytesThere", "()I"⟩, 14) := ⟨⟨by decide +kernel, by decide +kernel⟩, List.mem_of_getElem? (i := 12) (by decide +kernel), List.mem_of_getElem? (i := 629) (by decide +kernel), List.mem_of_getElem? (i := 630) (by decide +kernel)⟩
theorem lw_p19 : lw_okq (⟨"TrailStore", "hasItsRecord", "(I)Z"⟩, 14) := ⟨⟨by decide +kernel, by decide +kernel⟩, List.mem_of_getElem? (i := 12) (by decide +kernel), List.mem_of_getElem? (i := 660) (by decide +kernel), List.mem_of_getElem? (i := 661) (by decide +kernel)⟩
theorem lw_p20 : lw_okq (⟨"TrailStore", "isSameReopened", "(I)Z"⟩, 14) := ⟨⟨by decide +kernel, by decide +kernel⟩, List.mem_of_getElem? (i := 12) (by decide +kernel), List.mem_of_getElem? (i := 666) (by decide +kernel), List.mem_of_getElem? (i := 667) (by decide +kernel)⟩
theorem lw_p21 : lw_okq (⟨"TrailStoreModel", "openDisk", "()I"⟩, 51) := ⟨⟨by decide +kernel, by decide +kernel⟩, List.mem_of_getElem? (i := 678) (by decide +kernel), List.mem_of_getElem? (i := 685) (by decide +kernel), List.mem_of_getElem? (i := 686) (by decide +kernel)⟩
theorem lw_p22 : lw_okq (⟨"TrailStoreModel", "four", "(II)I"⟩, 51) := ⟨⟨by decide +kernel, by decide +kernel⟩, List.mem_of_getElem? (i := 678) (by decide +kernel), List.mem_of_getElem? (i := 689) (by decide +kernel), List.mem_of_getElem? (i := 690) (by decide +kernel)⟩
theorem lw_p23 : lw_okq (⟨"TrailStoreModel", "byteAt", "(II)I"⟩, 51) := ⟨⟨by decide +kernel, by decide +kernel⟩, List.mem_of_getElem? (i := 678) (by decide +kernel), List.mem_of_getElem? (i := 693) (by decide +kernel), List.mem_of_getElem? (i := 694) (by decide +kernel)⟩
theorem lw_p24 : lw_okq (⟨"TrailStoreModel", "placeOf", "(II)I"⟩, 51) := ⟨⟨by decide +kernel, by decide +kernel⟩, List.mem_of_getElem? (i := 678) (by decide +kernel), List.mem_of_getElem? (i := 697) (by decide +kernel), List.mem_of_getElem? (i := 698) (by decide +kernel)⟩
theorem lw_p25 : lw_okq (⟨"TrailStoreModel", "isRecord", "(II)Z"⟩, 51) := ⟨⟨by decide +kernel, by decide +kernel⟩, List.mem_of_getElem? (i := 678) (by decide +kernel), List.mem_of_getElem? (i := 701) (by decide +kernel), List.mem_of_getElem? (i := 702) (by decide +kernel)⟩
theorem lw_p26 : lw_okq (⟨"TrailStoreModel", "sizeAt", "(I)I"⟩, 51) := ⟨⟨by decide +kernel, by decide +kernel⟩, List.mem_of_getElem? (i := 678) (by decide +kernel), List.mem_of_getElem? (i := 705) (by decide +kernel), List.mem_of_getElem? (i := 706) (by decide +kernel)⟩
theorem lw_p27 : lw_okq (⟨"TrailStoreModel", "remember", "(IIII)V"⟩, 51) := ⟨⟨by decide +kernel, by decide +kernel⟩, List.mem_of_getElem? (i := 678) (by decide +kernel), List.mem_of_getElem? (i := 709) (by decide +kernel), List.mem_of_getElem? (i := 710) (by decide +kernel)⟩
theorem lw_p28 : lw_okq (⟨"TrailStoreModel", "clearBuffer", "(I)V"⟩, 51) := ⟨⟨by decide +kernel, by decide +kernel⟩, List.mem_of_getElem? (i := 678) (by decide +kernel), List.mem_of_getElem? (i := 713) (by decide +kernel), List.mem_of_getElem? (i := 714) (by decide +kernel)⟩
theorem lw_p29 : lw_okq (⟨"TrailStoreModel", "write", "(III)V"⟩, 51) := ⟨⟨by decide +kernel, by decide +kernel⟩, List.mem_of_getElem? (i := 678) (by decide +kernel), List.mem_of_getElem? (i := 717) (by decide +kernel), List.mem_of_getElem? (i := 718) (by decide +kernel)⟩
theorem lw_p30 : lw_okq (⟨"TrailStoreModel", "powerFails", "(II)V"⟩, 51) := ⟨⟨by decide +kernel, by decide +kernel⟩, List.mem_of_getElem? (i := 678) (by decide +kernel), List.mem_of_getElem? (i := 721) (by decide +kernel), List.mem_of_getElem? (i := 722) (by decide +kernel)⟩
theorem lw_p31 : lw_okq (⟨"TrailStoreModel", "lastWrite", "(II)V"⟩, 51) := ⟨⟨by decide +kernel, by decide +kernel⟩, List.mem_of_getElem? (i := 678) (by decide +kernel), List.mem_of_getElem? (i := 725) (by decide +kernel), List.mem_of_getElem? (i := 726) (by decide +kernel)⟩
def lw_privs_2 : List (MethodName × Nat) := [(⟨"TrailStore", "isThere", "(I)Z"⟩, 14), (⟨"TrailStore", "keysThere", "()I"⟩, 14), (⟨"TrailStore", "bytesThere", "()I"⟩, 14), (⟨"TrailStore", "hasItsRecord", "(I)Z"⟩, 14), (⟨"TrailStore", "isSameReopened", "(I)Z"⟩, 14), (⟨"TrailStoreModel", "openDisk", "()I"⟩, 51), (⟨"TrailStoreModel", "four", "(II)I"⟩, 51), (⟨"TrailStoreModel", "byteAt", "(II)I"⟩, 51), (⟨"TrailStoreModel", "placeOf", "(II)I"⟩, 51), (⟨"TrailStoreModel", "isRecord", "(II)Z"⟩, 51), (⟨"TrailStoreModel", "sizeAt", "(I)I"⟩, 51), (⟨"TrailStoreModel", "remember", "(IIII)V"⟩, 51), (⟨"TrailStoreModel", "clearBuffer", "(I)V"⟩, 51), (⟨"TrailStoreModel", "write", "(III)V"⟩, 51), (⟨"TrailStoreModel", "powerFails", "(II)V"⟩, 51), (⟨"TrailStoreModel", "lastWrite", "(II)V"⟩, 51)]
theorem lw_r2 : ∀ q ∈ lw_privs_2, lw_okq q := List.forall_mem_cons.mpr ⟨lw_p16, List.forall_mem_cons.mpr ⟨lw_p17, List.forall_mem_cons.mpr ⟨lw_p18, List.forall_mem_cons.mpr ⟨lw_p19, List.forall_mem_cons.mpr ⟨lw_p20, List.forall_mem_cons.mpr ⟨lw_p21, List.forall_mem_cons.mpr ⟨lw_p22, List.forall_mem_cons.mpr ⟨lw_p23, List.forall_mem_cons.mpr ⟨lw_p24, List.forall_mem_cons.mpr ⟨lw_p25, List.forall_mem_cons.mpr ⟨lw_p26, List.forall_mem_cons.mpr ⟨lw_p27, List.forall_mem_cons.mpr ⟨lw_p28, List.forall_mem_cons.mpr ⟨lw_p29, List.forall_mem_cons.mpr ⟨lw_p30, List.forall_mem_cons.mpr ⟨lw_p31, fun _ h => absurd h List.not_mem_nil⟩⟩⟩⟩⟩⟩⟩⟩⟩⟩⟩⟩⟩⟩⟩⟩
theorem lw_p32 : lw_okq (⟨"TrailStoreModel", "syncAll", "()I"⟩, 51) := ⟨⟨by decide +kernel, by decide +kernel⟩, List.mem_of_getElem? (i := 678) (by decide +kernel), List.mem_of_getElem? (i := 729) (by decide +kernel), List.mem_of_getElem? (i := 730) (by decide +kernel)⟩
theorem lw_p33 : lw_okq (⟨"TrailStoreModel", "lay", "(II)V"⟩, 51) := ⟨⟨by decide +kernel, by decide +kernel⟩, List.mem_of_getElem? (i := 678) (by decide +kernel), List.mem_of_getElem? (i := 903) (by decide +kernel), List.mem_of_getElem? (i := 904) (by decide +kernel)⟩
theorem lw_p34 : lw_okq (⟨"TrailStoreModel", "writeBatch", "()I"⟩, 51) := ⟨⟨by decide +kernel, by decide +kernel⟩, List.mem_of_getElem? (i := 678) (by decide +kernel), List.mem_of_getElem? (i := 907) (by decide +kernel), List.mem_of_getElem? (i := 908) (by decide +kernel)⟩
theorem lw_p35 : lw_okq (⟨"TrailStoreModel", "wouldHave", "()I"⟩, 51) := ⟨⟨by decide +kernel, by decide +kernel⟩, List.mem_of_getElem? (i := 678) (by decide +kernel), List.mem_of_getElem? (i := 911) (by decide +kernel), List.mem_of_getElem? (i := 912) (by decide +kernel)⟩
theorem lw_p36 : lw_okq (⟨"TrailStoreModel", "checkpointAll", "()V"⟩, 51) := ⟨⟨by decide +kernel, by decide +kernel⟩, List.mem_of_getElem? (i := 678) (by decide +kernel), List.mem_of_getElem? (i := 915) (by decide +kernel), List.mem_of_getElem? (i := 916) (by decide +kernel)⟩
theorem lw_p37 : lw_okq (⟨"TrailStoreModel", "makeTables", "()V"⟩, 51) := ⟨⟨by decide +kernel, by decide +kernel⟩, List.mem_of_getElem? (i := 678) (by decide +kernel), List.mem_of_getElem? (i := 919) (by decide +kernel), List.mem_of_getElem? (i := 920) (by decide +kernel)⟩
theorem lw_p38 : lw_okq (⟨"TrailStoreModel", "writeTable", "(I)I"⟩, 51) := ⟨⟨by decide +kernel, by decide +kernel⟩, List.mem_of_getElem? (i := 678) (by decide +kernel), List.mem_of_getElem? (i := 923) (by decide +kernel), List.mem_of_getElem? (i := 924) (by decide +kernel)⟩
theorem lw_p39 : lw_okq (⟨"TrailStoreModel", "put4", "(II)V"⟩, 51) := ⟨⟨by decide +kernel, by decide +kernel⟩, List.mem_of_getElem? (i := 678) (by decide +kernel), List.mem_of_getElem? (i := 927) (by decide +kernel), List.mem_of_getElem? (i := 928) (by decide +kernel)⟩
theorem lw_p40 : lw_okq (⟨"TrailStoreModel", "insert", "(II)V"⟩, 51) := ⟨⟨by decide +kernel, by decide +kernel⟩, List.mem_of_getElem? (i := 678) (by decide +kernel), List.mem_of_getElem? (i := 934) (by decide +kernel), List.mem_of_getElem? (i := 935) (by decide +kernel)⟩
theorem lw_p41 : lw_okq (⟨"TrailStoreModel", "countOf", "(I)I"⟩, 51) := ⟨⟨by decide +kernel, by decide +kernel⟩, List.mem_of_getElem? (i := 678) (by decide +kernel), List.mem_of_getElem? (i := 938) (by decide +kernel), List.mem_of_getElem? (i := 939) (by decide +kernel)⟩
theorem lw_p42 : lw_okq (⟨"TrailStoreModel", "levelOf", "(I)I"⟩, 51) := ⟨⟨by decide +kernel, by decide +kernel⟩, List.mem_of_getElem? (i := 678) (by decide +kernel), List.mem_of_getElem? (i := 942) (by decide +kernel), List.mem_of_getElem? (i := 943) (by decide +kernel)⟩
theorem lw_p43 : lw_okq (⟨"TrailStoreModel", "tableByte", "(II)I"⟩, 51) := ⟨⟨by decide +kernel, by decide +kernel⟩, List.mem_of_getElem? (i := 678) (by decide +kernel), List.mem_of_getElem? (i := 946) (by decide +kernel), List.mem_of_getElem? (i := 947) (by decide +kernel)⟩
theorem lw_p44 : lw_okq (⟨"TrailStoreModel", "clearNew", "()V"⟩, 51) := ⟨⟨by decide +kernel, by decide +kernel⟩, List.mem_of_getElem? (i := 678) (by decide +kernel), List.mem_of_getElem? (i := 950) (by decide +kernel), List.mem_of_getElem? (i := 951) (by decide +kernel)⟩
theorem lw_p45 : lw_okq (⟨"TrailStoreModel", "gather", "(I)V"⟩, 51) := ⟨⟨by decide +kernel, by decide +kernel⟩, List.mem_of_getElem? (i := 678) (by decide +kernel), List.mem_of_getElem? (i := 954) (by decide +kernel), List.mem_of_getElem? (i := 955) (by decide +kernel)⟩
theorem lw_p46 : lw_okq (⟨"TrailStoreModel", "tableFour", "(II)I"⟩, 51) := ⟨⟨by decide +kernel, by decide +kernel⟩, List.mem_of_getElem? (i := 678) (by decide +kernel), List.mem_of_getElem? (i := 958) (by decide +kernel), List.mem_of_getElem? (i := 959) (by decide +kernel)⟩
theorem lw_p47 : lw_okq (⟨"TrailStoreModel", "newCount", "()I"⟩, 51) := ⟨⟨by decide +kernel, by decide +kernel⟩, List.mem_of_getElem? (i := 678) (by decide +kernel), List.mem_of_getElem? (i := 962) (by decide +kernel), List.mem_of_getElem? (i := 963) (by decide +kernel)⟩
def lw_privs_3 : List (MethodName × Nat) := [(⟨"TrailStoreModel", "syncAll", "()I"⟩, 51), (⟨"TrailStoreModel", "lay", "(II)V"⟩, 51), (⟨"TrailStoreModel", "writeBatch", "()I"⟩, 51), (⟨"TrailStoreModel", "wouldHave", "()I"⟩, 51), (⟨"TrailStoreModel", "checkpointAll", "()V"⟩, 51), (⟨"TrailStoreModel", "makeTables", "()V"⟩, 51), (⟨"TrailStoreModel", "writeTable", "(I)I"⟩, 51), (⟨"TrailStoreModel", "put4", "(II)V"⟩, 51), (⟨"TrailStoreModel", "insert", "(II)V"⟩, 51), (⟨"TrailStoreModel", "countOf", "(I)I"⟩, 51), (⟨"TrailStoreModel", "levelOf", "(I)I"⟩, 51), (⟨"TrailStoreModel", "tableByte", "(II)I"⟩, 51), (⟨"TrailStoreModel", "clearNew", "()V"⟩, 51), (⟨"TrailStoreModel", "gather", "(I)V"⟩, 51), (⟨"TrailStoreModel", "tableFour", "(II)I"⟩, 51), (⟨"TrailStoreModel", "newCount", "()I"⟩, 51)]
theorem lw_r3 : ∀ q ∈ lw_privs_3, lw_okq q := List.forall_mem_cons.mpr ⟨lw_p32, List.forall_mem_cons.mpr ⟨lw_p33, List.forall_mem_cons.mpr ⟨lw_p34, List.forall_mem_cons.mpr ⟨lw_p35, List.forall_mem_cons.mpr ⟨lw_p36, List.forall_mem_cons.mpr ⟨lw_p37, List.forall_mem_cons.mpr ⟨lw_p38, List.forall_mem_cons.mpr ⟨lw_p39, List.forall_mem_cons.mpr ⟨lw_p40, List.forall_mem_cons.mpr ⟨lw_p41, List.forall_mem_cons.mpr ⟨lw_p42, List.forall_mem_cons.mpr ⟨lw_p43, List.forall_mem_cons.mpr ⟨lw_p44, List.forall_mem_cons.mpr ⟨lw_p45, List.forall_mem_cons.mpr ⟨lw_p46, List.forall_mem_cons.mpr ⟨lw_p47, fun _ h => absurd h List.not_mem_nil⟩⟩⟩⟩⟩⟩⟩⟩⟩⟩⟩⟩⟩⟩⟩⟩
theorem lw_p48 : lw_okq (⟨"TrailStoreModel", "drop", "(II)V"⟩, 51) := ⟨⟨by decide +kernel, by decide +kernel⟩, List.mem_of_getElem? (i := 678) (by decide +kernel), List.mem_of_getElem? (i := 966) (by decide +kernel), List.mem_of_getElem? (i := 967) (by decide +kernel)⟩
theorem lw_p49 : lw_okq (⟨"TrailStoreModel", "writeRoot", "()V"⟩, 51) := ⟨⟨by decide +kernel, by decide +kernel⟩, List.mem_of_getElem? (i := 678) (by decide +kernel), List.mem_of_getElem? (i := 970) (by decide +kernel), List.mem_of_getElem? (i := 971) (by decide +kernel)⟩
theorem lw_p50 : lw_okq (⟨"TrailStoreModel", "hasRoom", "(II)Z"⟩, 51) := ⟨⟨by decide +kernel, by decide +kernel⟩, List.mem_of_getElem? (i := 678) (by decide +kernel), List.mem_of_getElem? (i := 974) (by decide +kernel), List.mem_of_getElem? (i := 975) (by decide +kernel)⟩
theorem lw_p51 : lw_okq (⟨"TrailStoreModel", "passLog", "()V"⟩, 51) := ⟨⟨by decide +kernel, by decide +kernel⟩, List.mem_of_getElem? (i := 678) (by decide +kernel), List.mem_of_getElem? (i := 979) (by decide +kernel), List.mem_of_getElem? (i := 980) (by decide +kernel)⟩
theorem lw_p52 : lw_okq (⟨"TrailStoreModel", "collecting", "(I)I"⟩, 51) := ⟨⟨by decide +kernel, by decide +kernel⟩, List.mem_of_getElem? (i := 678) (by decide +kernel), List.mem_of_getElem? (i := 983) (by decide +kernel), List.mem_of_getElem? (i := 984) (by decide +kernel)⟩
theorem lw_p53 : lw_okq (⟨"TrailStoreModel", "find", "(I)Z"⟩, 51) := ⟨⟨by decide +kernel, by decide +kernel⟩, List.mem_of_getElem? (i := 678) (by decide +kernel), List.mem_of_getElem? (i := 987) (by decide +kernel), List.mem_of_getElem? (i := 988) (by decide +kernel)⟩
theorem lw_p54 : lw_okq (⟨"TrailStoreModel", "placeIn", "(II)I"⟩, 51) := ⟨⟨by decide +kernel, by decide +kernel⟩, List.mem_of_getElem? (i := 678) (by decide +kernel), List.mem_of_getElem? (i := 991) (by decide +kernel), List.mem_of_getElem? (i := 992) (by decide +kernel)⟩
theorem lw_p55 : lw_okq (⟨"TrailStoreModel", "append", "(III)Z"⟩, 51) := ⟨⟨by decide +kernel, by decide +kernel⟩, List.mem_of_getElem? (i := 678) (by decide +kernel), List.mem_of_getElem? (i := 995) (by decide +kernel), List.mem_of_getElem? (i := 996) (by decide +kernel)⟩
theorem lw_p56 : lw_okq (⟨"TrailStoreModel", "isThere", "(I)Z"⟩, 51) := ⟨⟨by decide +kernel, by decide +kernel⟩, List.mem_of_getElem? (i := 678) (by decide +kernel), List.mem_of_getElem? (i := 1003) (by decide +kernel), List.mem_of_getElem? (i := 1004) (by decide +kernel)⟩
def lw_privs_4 : List (MethodName × Nat) := [(⟨"TrailStoreModel", "drop", "(II)V"⟩, 51), (⟨"TrailStoreModel", "writeRoot", "()V"⟩, 51), (⟨"TrailStoreModel", "hasRoom", "(II)Z"⟩, 51), (⟨"TrailStoreModel", "passLog", "()V"⟩, 51), (⟨"TrailStoreModel", "collecting", "(I)I"⟩, 51), (⟨"TrailStoreModel", "find", "(I)Z"⟩, 51), (⟨"TrailStoreModel", "placeIn", "(II)I"⟩, 51), (⟨"TrailStoreModel", "append", "(III)Z"⟩, 51), (⟨"TrailStoreModel", "isThere", "(I)Z"⟩, 51)]
theorem lw_r4 : ∀ q ∈ lw_privs_4, lw_okq q := List.forall_mem_cons.mpr ⟨lw_p48, List.forall_mem_cons.mpr ⟨lw_p49, List.forall_mem_cons.mpr ⟨lw_p50, List.forall_mem_cons.mpr ⟨lw_p51, List.forall_mem_cons.mpr ⟨lw_p52, List.forall_mem_cons.mpr ⟨lw_p53, List.forall_mem_cons.mpr ⟨lw_p54, List.forall_mem_cons.mpr ⟨lw_p55, List.forall_mem_cons.mpr ⟨lw_p56, fun _ h => absurd h List.not_mem_nil⟩⟩⟩⟩⟩⟩⟩⟩⟩
def lw_privs : List (MethodName × Nat) := lw_privs_1 ++ (lw_privs_2 ++ (lw_privs_3 ++ (lw_privs_4)))
def lw_tbl : List Cond := k2_sels lw_privs ++ tables_1
theorem lw_privs_ok : ∀ q ∈ lw_privs, lw_okq q := by
  show ∀ q ∈ lw_privs_1 ++ (lw_privs_2 ++ (lw_privs_3 ++ (lw_privs_4))), lw_okq q
  exact List.forall_mem_append.mpr ⟨lw_r1, List.forall_mem_append.mpr ⟨lw_r2, List.forall_mem_append.mpr ⟨lw_r3, lw_r4⟩⟩⟩
-- ===== end of PART A; then your names; then what follows =====
end
section
/-! PART 02: classes, methods, and the tables of resolved instructions (printed by wip/whole/gen_names.py out of the claim) -/
def cn_0 : String := "TrailStore$Batch"
def cf_0 : u_T := fun k => match k with
  | 0 => ("TrailStore$Batch", "kind", "[I", true)
  | 1 => ("TrailStore$Batch", "key", "[I", true)
  | 2 => ("TrailStore$Batch", "length", "[I", true)
  | 3 => ("TrailStore$Batch", "value", "[[B", true)
  | _ => ("TrailStore$Batch", "count", "I", false)
def ct_0 : Nat → FieldType := fun k => match k with
  | 0 => .array .int
  | 1 => .array .int
  | 2 => .array .int
  | 3 => .array (.array .byte)
  | _ => .int
def cn_1 : String := "TrailStore$Disk"
def cf_1 : u_T := fun k => match k with
  | 0 => ("TrailStore$Disk", "room", "I", true)
  | 1 => ("TrailStore$Disk", "cells", "[B", true)
  | 2 => ("TrailStore$Disk", "starts", "[I", true)
  | 3 => ("TrailStore$Disk", "lengths", "[I", true)
  | 4 => ("TrailStore$Disk", "covered", "[B", true)
  | 5 => ("TrailStore$Disk", "coveredBytes", "I", false)
  | 6 => ("TrailStore$Disk", "writes", "I", false)
  | 7 => ("TrailStore$Disk", "failsIn", "I", false)
  | 8 => ("TrailStore$Disk", "failKeep", "I", false)
  | 9 => ("TrailStore$Disk", "failCut", "I", false)
  | _ => ("TrailStore$Disk", "down", "Z", false)
def ct_1 : Nat → FieldType := fun k => match k with
  | 0 => .int
  | 1 => .array .byte
  | 2 => .array .int
  | 3 => .array .int
  | 4 => .array .byte
  | 5 => .int
  | 6 => .int
  | 7 => .int
  | 8 => .int
  | 9 => .int
  | _ => .boolean
def cn_2 : String := "TrailStore$Entries"
def cf_2 : u_T := fun k => match k with
  | 0 => ("TrailStore$Entries", "kind", "[I", true)
  | 1 => ("TrailStore$Entries", "number", "[I", true)
  | 2 => ("TrailStore$Entries", "where", "[I", true)
  | _ => ("TrailStore$Entries", "count", "I", false)
def ct_2 : Nat → FieldType := fun k => match k with
  | 0 => .array .int
  | 1 => .array .int
  | 2 => .array .int
  | _ => .int
def cn_3 : String := "TrailStore$Found"
def cf_3 : u_T := fun k => match k with
  | 0 => ("TrailStore$Found", "kind", "I", false)
  | 1 => ("TrailStore$Found", "number", "I", false)
  | 2 => ("TrailStore$Found", "where", "I", false)
  | 3 => ("TrailStore$Found", "inMemory", "Z", false)
  | 4 => ("TrailStore$Found", "lookedInto", "I", false)
  | _ => ("TrailStore$Found", "passedBy", "I", false)
def ct_3 : Nat → FieldType := fun k => match k with
  | 0 => .int
  | 1 => .int
  | 2 => .int
  | 3 => .boolean
  | 4 => .int
  | _ => .int
def cn_4 : String := "TrailStore$Keeper"
def cf_4 : u_T := fun k => match k with
  | 0 => ("TrailStore$Keeper", "disk", "LTrailStore$Disk;", true)
  | 1 => ("TrailStore$Keeper", "view", "LTrailStore$View;", true)
  | 2 => ("TrailStore$Keeper", "found", "LTrailStore$Found;", true)
  | 3 => ("TrailStore$Keeper", "merged", "LTrailStore$Entries;", true)
  | 4 => ("TrailStore$Keeper", "zeros", "[B", true)
  | 5 => ("TrailStore$Keeper", "header", "[B", true)
  | 6 => ("TrailStore$Keeper", "page", "[B", true)
  | 7 => ("TrailStore$Keeper", "moved", "[B", true)
  | _ => ("TrailStore$Keeper", "taken", "I", false)
def ct_4 : Nat → FieldType := fun k => match k with
  | 0 => .object "TrailStore$Disk"
  | 1 => .object "TrailStore$View"
  | 2 => .object "TrailStore$Found"
  | 3 => .object "TrailStore$Entries"
  | 4 => .array .byte
  | 5 => .array .byte
  | 6 => .array .byte
  | 7 => .array .byte
  | _ => .int
def cn_5 : String := "TrailStore$View"
def cf_5 : u_T := fun k => match k with
  | 0 => ("TrailStore$View", "disk", "LTrailStore$Disk;", true)
  | 1 => ("TrailStore$View", "memory", "LTrailStore$Entries;", true)
  | 2 => ("TrailStore$View", "places", "[I", true)
  | 3 => ("TrailStore$View", "tables", "I", false)
  | 4 => ("TrailStore$View", "version", "I", false)
  | 5 => ("TrailStore$View", "checkpoint", "I", false)
  | 6 => ("TrailStore$View", "checkpointNumber", "I", false)
  | 7 => ("TrailStore$View", "tail", "I", false)
  | 8 => ("TrailStore$View", "head", "I", false)
  | 9 => ("TrailStore$View", "nextNumber", "I", false)
  | _ => ("TrailStore$View", "nextTable", "I", false)
def ct_5 : Nat → FieldType := fun k => match k with
  | 0 => .object "TrailStore$Disk"
  | 1 => .object "TrailStore$Entries"
  | 2 => .array .int
  | 3 => .int
  | 4 => .int
  | 5 => .int
  | 6 => .int
  | 7 => .int
  | 8 => .int
  | 9 => .int
  | _ => .int
def cn_6 : String := "TrailStore"
def cf_6 : u_T := fun k => match k with
  | 0 => ("TrailStore", "disk", "LTrailStore$Disk;", true)
  | 1 => ("TrailStore", "view", "LTrailStore$View;", true)
  | 2 => ("TrailStore", "keeper", "LTrailStore$Keeper;", true)
  | 3 => ("TrailStore", "reopened", "LTrailStore$View;", true)
  | 4 => ("TrailStore", "all", "LTrailStore$Entries;", true)
  | 5 => ("TrailStore", "reopenedAll", "LTrailStore$Entries;", true)
  | 6 => ("TrailStore", "batch", "LTrailStore$Batch;", true)
  | 7 => ("TrailStore", "begun", "Z", false)
  | 8 => ("TrailStore", "tape", "[B", true)
  | 9 => ("TrailStore", "taped", "I", false)
  | 10 => ("TrailStore", "value", "[B", true)
  | 11 => ("TrailStore", "valueLength", "I", false)
  | 12 => ("TrailStore", "got", "LTrailStore$Found;", true)
  | _ => ("TrailStore", "found", "LTrailStore$Found;", true)
def ct_6 : Nat → FieldType := fun k => match k with
  | 0 => .object "TrailStore$Disk"
  | 1 => .object "TrailStore$View"
  | 2 => .object "TrailStore$Keeper"
  | 3 => .object "TrailStore$View"
  | 4 => .object "TrailStore$Entries"
  | 5 => .object "TrailStore$Entries"
  | 6 => .object "TrailStore$Batch"
  | 7 => .boolean
  | 8 => .array .byte
  | 9 => .int
  | 10 => .array .byte
  | 11 => .int
  | 12 => .object "TrailStore$Found"
  | _ => .object "TrailStore$Found"
def cn_7 : String := "TrailStoreModel"
def cf_7 : u_T := fun k => match k with
  | 0 => ("TrailStoreModel", "room", "I", true)
  | 1 => ("TrailStoreModel", "areaAt", "[I", true)
  | 2 => ("TrailStoreModel", "areaSizes", "[I", true)
  | 3 => ("TrailStoreModel", "disk", "[B", true)
  | 4 => ("TrailStoreModel", "lasting", "[B", true)
  | 5 => ("TrailStoreModel", "writeAreas", "[I", true)
  | 6 => ("TrailStoreModel", "writeAt", "[I", true)
  | 7 => ("TrailStoreModel", "writeSizes", "[I", true)
  | 8 => ("TrailStoreModel", "writeFrom", "[I", true)
  | 9 => ("TrailStoreModel", "written", "[B", true)
  | 10 => ("TrailStoreModel", "writes", "I", false)
  | 11 => ("TrailStoreModel", "writtenSize", "I", false)
  | 12 => ("TrailStoreModel", "failing", "I", false)
  | 13 => ("TrailStoreModel", "failKeep", "I", false)
  | 14 => ("TrailStoreModel", "failCut", "I", false)
  | 15 => ("TrailStoreModel", "down", "Z", false)
  | 16 => ("TrailStoreModel", "tape", "[B", true)
  | 17 => ("TrailStoreModel", "tapeSize", "I", false)
  | 18 => ("TrailStoreModel", "got", "[B", true)
  | 19 => ("TrailStoreModel", "gotSize", "I", false)
  | 20 => ("TrailStoreModel", "looked", "I", false)
  | 21 => ("TrailStoreModel", "passed", "I", false)
  | 22 => ("TrailStoreModel", "inBatch", "Z", false)
  | 23 => ("TrailStoreModel", "batch", "I", false)
  | 24 => ("TrailStoreModel", "batchKinds", "[I", true)
  | 25 => ("TrailStoreModel", "batchKeys", "[I", true)
  | 26 => ("TrailStoreModel", "batchSizes", "[I", true)
  | 27 => ("TrailStoreModel", "batchValues", "[B", true)
  | 28 => ("TrailStoreModel", "head", "I", false)
  | 29 => ("TrailStoreModel", "tail", "I", false)
  | 30 => ("TrailStoreModel", "mark", "I", false)
  | 31 => ("TrailStoreModel", "markNumber", "I", false)
  | 32 => ("TrailStoreModel", "number", "I", false)
  | 33 => ("TrailStoreModel", "tableNumber", "I", false)
  | 34 => ("TrailStoreModel", "version", "I", false)
  | 35 => ("TrailStoreModel", "inUse", "[I", true)
  | 36 => ("TrailStoreModel", "tables", "I", false)
  | 37 => ("TrailStoreModel", "putAway", "[Z", true)
  | 38 => ("TrailStoreModel", "kinds", "[I", true)
  | 39 => ("TrailStoreModel", "numbers", "[I", true)
  | 40 => ("TrailStoreModel", "wheres", "[I", true)
  | 41 => ("TrailStoreModel", "entries", "I", false)
  | 42 => ("TrailStoreModel", "newKinds", "[I", true)
  | 43 => ("TrailStoreModel", "newNumbers", "[I", true)
  | 44 => ("TrailStoreModel", "newWheres", "[I", true)
  | 45 => ("TrailStoreModel", "buffer", "[B", true)
  | 46 => ("TrailStoreModel", "entryKind", "I", false)
  | 47 => ("TrailStoreModel", "entryNumber", "I", false)
  | 48 => ("TrailStoreModel", "entryWhere", "I", false)
  | 49 => ("TrailStoreModel", "entryHere", "Z", false)
  | _ => ("TrailStoreModel", "value", "[B", true)
def ct_7 : Nat → FieldType := fun k => match k with
  | 0 => .int
  | 1 => .array .int
  | 2 => .array .int
  | 3 => .array .byte
  | 4 => .array .byte
  | 5 => .array .int
  | 6 => .array .int
  | 7 => .array .int
  | 8 => .array .int
  | 9 => .array .byte
  | 10 => .int
  | 11 => .int
  | 12 => .int
  | 13 => .int
  | 14 => .int
  | 15 => .boolean
  | 16 => .array .byte
  | 17 => .int
  | 18 => .array .byte
  | 19 => .int
  | 20 => .int
  | 21 => .int
  | 22 => .boolean
  | 23 => .int
  | 24 => .array .int
  | 25 => .array .int
  | 26 => .array .int
  | 27 => .array .byte
  | 28 => .int
  | 29 => .int
  | 30 => .int
  | 31 => .int
  | 32 => .int
  | 33 => .int
  | 34 => .int
  | 35 => .array .int
  | 36 => .int
  | 37 => .array .boolean
  | 38 => .array .int
  | 39 => .array .int
  | 40 => .array .int
  | 41 => .int
  | 42 => .array .int
  | 43 => .array .int
  | 44 => .array .int
  | 45 => .array .byte
  | 46 => .int
  | 47 => .int
  | 48 => .int
  | 49 => .boolean
  | _ => .array .byte
abbrev rx_cl : List vw_C := [(cn_0, cf_0, 5), (cn_1, cf_1, 11), (cn_2, cf_2, 4), (cn_3, cf_3, 6), (cn_4, cf_4, 9), (cn_5, cf_5, 11), (cn_6, cf_6, 14), (cn_7, cf_7, 51)]
def rx_ty (c k : Nat) : FieldType := match c with
  | 0 => ct_0 k
  | 1 => ct_1 k
  | 2 => ct_2 k
  | 3 => ct_3 k
  | 4 => ct_4 k
  | 5 => ct_5 k
  | 6 => ct_6 k
  | _ => ct_7 k
abbrev rI : Type := Nat × Instr × Nat × List Nat × Int32
/-- a method: name, code, locals, what it returns, places of its words (instance or static, selects, code, initialized), cells and slots that it makes -/
abbrev rM : Type := MethodName × ByteArray × Nat × Option FieldType × List Nat × Nat × Nat
def rt_0 : List (List rI) := [[(0, .aload_n 0, 1, [], 0), (1, .invokespecial 3, 3, [0, 0, 12, 301], 0), (4, .aload_n 0, 1, [], 0), (5, .bipush 8, 2, [], 8), (7, .newarray .int, 2, [0], 0), (9, .putfield 9, 3, [0, 0, 304], 0), (12, .aload_n 0, 1, [], 0), (13, .bipush 8, 2, [], 8), (15, .newarray .int, 2, [0], 0), (17, .putfield 15, 3, [0, 1, 306], 0), (20, .aload_n 0, 1, [], 0), (21, .bipush 8, 2, [], 8), (23, .newarray .int, 2, [0], 0), (25, .putfield 18, 3, [0, 2, 309], 0), (28, .aload_n 0, 1, [], 0), (29, .bipush 8, 2, [], 8)],
  [(31, .bipush 64, 2, [], 64), (33, .multianewarray 21 2, 4, [302], 0), (37, .putfield 23, 3, [0, 3, 311], 0), (40, .return_, 1, [], 0)]]
def rt_1 : List (List rI) := [[(0, .aload_n 0, 1, [], 0), (1, .getfield 26, 3, [0, 4, 313], 0), (4, .bipush 8, 2, [], 8), (6, .if_icmp .ge 17, 3, [11], 0), (9, .iload 4, 2, [], 0), (11, .bipush 64, 2, [], 64), (13, .if_icmp .gt 10, 3, [11], 0), (16, .iload 4, 2, [], 0), (18, .aload_n 3, 1, [], 0), (19, .arraylength, 1, [], 0), (20, .if_icmp .le 4, 3, [12], 0), (23, .return_, 1, [], 0), (24, .aload_n 0, 1, [], 0), (25, .getfield 9, 3, [0, 0, 304], 0), (28, .aload_n 0, 1, [], 0), (29, .getfield 26, 3, [0, 4, 313], 0)],
  [(32, .iload_n 1, 1, [], 0), (33, .iastore, 1, [], 0), (34, .aload_n 0, 1, [], 0), (35, .getfield 15, 3, [0, 1, 306], 0), (38, .aload_n 0, 1, [], 0), (39, .getfield 26, 3, [0, 4, 313], 0), (42, .iload_n 2, 1, [], 0), (43, .iastore, 1, [], 0), (44, .aload_n 0, 1, [], 0), (45, .getfield 18, 3, [0, 2, 309], 0), (48, .aload_n 0, 1, [], 0), (49, .getfield 26, 3, [0, 4, 313], 0), (52, .iload 4, 2, [], 0), (54, .iastore, 1, [], 0), (55, .iconst 0, 1, [], 0), (56, .istore 5, 2, [], 0)],
  [(58, .iload 5, 2, [], 0), (60, .iload 4, 2, [], 0), (62, .if_icmp .ge 25, 3, [47], 0), (65, .aload_n 0, 1, [], 0), (66, .getfield 23, 3, [0, 3, 311], 0), (69, .aload_n 0, 1, [], 0), (70, .getfield 26, 3, [0, 4, 313], 0), (73, .aaload, 1, [], 0), (74, .iload 5, 2, [], 0), (76, .aload_n 3, 1, [], 0), (77, .iload 5, 2, [], 0), (79, .baload, 1, [], 0), (80, .bastore, 1, [], 0), (81, .iinc 5 1, 3, [], 1), (84, .goto (-26), 3, [32], 0), (87, .aload_n 0, 1, [], 0)],
  [(88, .dup, 1, [], 0), (89, .getfield 26, 3, [0, 4, 313], 0), (92, .iconst 1, 1, [], 1), (93, .iadd, 1, [], 0), (94, .putfield 26, 3, [0, 4, 313], 0), (97, .return_, 1, [], 0)]]
def rt_2 : List (List rI) := [[(0, .iconst 0, 1, [], 0), (1, .istore_n 2, 1, [], 0), (2, .iload_n 2, 1, [], 0), (3, .iload_n 1, 1, [], 0), (4, .if_icmp .ge 26, 3, [18], 0), (7, .aload_n 0, 1, [], 0), (8, .getfield 15, 3, [0, 1, 306], 0), (11, .iload_n 2, 1, [], 0), (12, .iaload, 1, [], 0), (13, .aload_n 0, 1, [], 0), (14, .getfield 15, 3, [0, 1, 306], 0), (17, .iload_n 1, 1, [], 0), (18, .iaload, 1, [], 0), (19, .if_icmp .ne 5, 3, [16], 0), (22, .iconst 0, 1, [], 0), (23, .ireturn, 1, [], 0)],
  [(24, .iinc 2 1, 3, [], 1), (27, .goto (-25), 3, [2], 0), (30, .iconst 1, 1, [], 1), (31, .ireturn, 1, [], 0)]]
def rt_3 : List (List rI) := [[(0, .iconst 0, 1, [], 0), (1, .istore_n 1, 1, [], 0), (2, .iconst 0, 1, [], 0), (3, .istore_n 2, 1, [], 0), (4, .iload_n 2, 1, [], 0), (5, .aload_n 0, 1, [], 0), (6, .getfield 26, 3, [0, 4, 313], 0), (9, .if_icmp .ge 21, 3, [19], 0), (12, .iload_n 1, 1, [], 0), (13, .bipush 12, 2, [], 12), (15, .aload_n 0, 1, [], 0), (16, .getfield 18, 3, [0, 2, 309], 0), (19, .iload_n 2, 1, [], 0), (20, .iaload, 1, [], 0), (21, .iadd, 1, [], 0), (22, .iadd, 1, [], 0)],
  [(23, .istore_n 1, 1, [], 0), (24, .iinc 2 1, 3, [], 1), (27, .goto (-23), 3, [4], 0), (30, .iload_n 1, 1, [], 0), (31, .ireturn, 1, [], 0)]]
def rt_4 : List (List rI) := [[(0, .aload_n 0, 1, [], 0), (1, .invokespecial 3, 3, [0, 0, 12, 87], 0), (4, .aload_n 0, 1, [], 0), (5, .iload_n 1, 1, [], 0), (6, .putfield 9, 3, [1, 0, 88], 0), (9, .aload_n 0, 1, [], 0), (10, .iload_n 1, 1, [], 0), (11, .sipush 15600, 3, [], 15600), (14, .iadd, 1, [], 0), (15, .sipush 128, 3, [], 128), (18, .iadd, 1, [], 0), (19, .newarray .byte, 2, [1], 0), (21, .putfield 15, 3, [1, 1, 91], 0), (24, .aload_n 0, 1, [], 0), (25, .sipush 1024, 3, [], 1024), (28, .newarray .int, 2, [0], 0)],
  [(30, .putfield 19, 3, [1, 2, 92], 0), (33, .aload_n 0, 1, [], 0), (34, .sipush 1024, 3, [], 1024), (37, .newarray .int, 2, [0], 0), (39, .putfield 23, 3, [1, 3, 93], 0), (42, .aload_n 0, 1, [], 0), (43, .sipush 8192, 3, [], 8192), (46, .newarray .byte, 2, [1], 0), (48, .putfield 26, 3, [1, 4, 94], 0), (51, .return_, 1, [], 0)]]
def rt_5 : List (List rI) := [[(0, .iload_n 1, 1, [], 0), (1, .tableswitch 91 0 2 #[27, 45, 68], 27, [38, 2, 12, 25], 0), (28, .iload_n 2, 1, [], 0), (29, .ifCond .lt 11, 3, [8], 0), (32, .iload_n 2, 1, [], 0), (33, .aload_n 0, 1, [], 0), (34, .getfield 9, 3, [1, 0, 88], 0), (37, .if_icmp .lt 7, 3, [10], 0), (40, .iconst (-1), 1, [], (-1)), (41, .goto 4, 3, [11], 0), (44, .iload_n 2, 1, [], 0), (45, .ireturn, 1, [], 0), (46, .iload_n 2, 1, [], 0), (47, .ifCond .lt 10, 3, [17], 0), (50, .iload_n 2, 1, [], 0), (51, .sipush 15600, 3, [], 15600)],
  [(54, .if_icmp .lt 7, 3, [19], 0), (57, .iconst (-1), 1, [], (-1)), (58, .goto 10, 3, [24], 0), (61, .aload_n 0, 1, [], 0), (62, .iconst 0, 1, [], 0), (63, .invokevirtual 29, 3, [7, 1, 0, 709], 0), (66, .iload_n 2, 1, [], 0), (67, .iadd, 1, [], 0), (68, .ireturn, 1, [], 0), (69, .iload_n 2, 1, [], 0), (70, .ifCond .lt 10, 3, [30], 0), (73, .iload_n 2, 1, [], 0), (74, .sipush 128, 3, [], 128), (77, .if_icmp .lt 7, 3, [32], 0), (80, .iconst (-1), 1, [], (-1)), (81, .goto 10, 3, [37], 0)],
  [(84, .aload_n 0, 1, [], 0), (85, .iconst 0, 1, [], 0), (86, .invokevirtual 33, 3, [8, 1, 0, 710], 0), (89, .iload_n 2, 1, [], 0), (90, .iadd, 1, [], 0), (91, .ireturn, 1, [], 0), (92, .iconst (-1), 1, [], (-1)), (93, .ireturn, 1, [], 0)]]
def rt_6 : List (List rI) := [[(0, .iload_n 1, 1, [], 0), (1, .aload_n 0, 1, [], 0), (2, .getfield 9, 3, [1, 0, 88], 0), (5, .irem, 1, [], 0), (6, .istore_n 2, 1, [], 0), (7, .iload_n 2, 1, [], 0), (8, .ifCond .ge 12, 3, [12], 0), (11, .iload_n 2, 1, [], 0), (12, .aload_n 0, 1, [], 0), (13, .getfield 9, 3, [1, 0, 88], 0), (16, .iadd, 1, [], 0), (17, .goto 4, 3, [13], 0), (20, .iload_n 2, 1, [], 0), (21, .ireturn, 1, [], 0)]]
def rt_7 : List (List rI) := [[(0, .aload_n 0, 1, [], 0), (1, .getfield 9, 3, [1, 0, 88], 0), (4, .iload_n 1, 1, [], 0), (5, .sipush 1300, 3, [], 1300), (8, .imul, 1, [], 0), (9, .iadd, 1, [], 0), (10, .ireturn, 1, [], 0)]]
def rt_8 : List (List rI) := [[(0, .aload_n 0, 1, [], 0), (1, .getfield 9, 3, [1, 0, 88], 0), (4, .sipush 15600, 3, [], 15600), (7, .iadd, 1, [], 0), (8, .iload_n 1, 1, [], 0), (9, .iconst 1, 1, [], 1), (10, .iand, 1, [], 0), (11, .bipush 64, 2, [], 64), (13, .imul, 1, [], 0), (14, .iadd, 1, [], 0), (15, .ireturn, 1, [], 0)]]
def rt_9 : List (List rI) := [[(0, .iload_n 1, 1, [], 0), (1, .ifCond .lt 12, 3, [7], 0), (4, .iload_n 1, 1, [], 0), (5, .aload_n 0, 1, [], 0), (6, .getfield 15, 3, [1, 1, 91], 0), (9, .arraylength, 1, [], 0), (10, .if_icmp .lt 7, 3, [9], 0), (13, .iconst 0, 1, [], 0), (14, .goto 13, 3, [15], 0), (17, .aload_n 0, 1, [], 0), (18, .getfield 15, 3, [1, 1, 91], 0), (21, .iload_n 1, 1, [], 0), (22, .baload, 1, [], 0), (23, .sipush 255, 3, [], 255), (26, .iand, 1, [], 0), (27, .ireturn, 1, [], 0)]]
def rt_10 : List (List rI) := [[(0, .aload_n 0, 1, [], 0), (1, .iload_n 1, 1, [], 0), (2, .invokevirtual 36, 3, [9, 1, 0, 350], 0), (5, .bipush 24, 2, [], 24), (7, .ishl, 1, [], 0), (8, .aload_n 0, 1, [], 0), (9, .iload_n 1, 1, [], 0), (10, .iconst 1, 1, [], 1), (11, .iadd, 1, [], 0), (12, .invokevirtual 36, 3, [9, 1, 0, 350], 0), (15, .bipush 16, 2, [], 16), (17, .ishl, 1, [], 0), (18, .ior, 1, [], 0), (19, .aload_n 0, 1, [], 0), (20, .iload_n 1, 1, [], 0), (21, .iconst 2, 1, [], 2)],
  [(22, .iadd, 1, [], 0), (23, .invokevirtual 36, 3, [9, 1, 0, 350], 0), (26, .bipush 8, 2, [], 8), (28, .ishl, 1, [], 0), (29, .ior, 1, [], 0), (30, .aload_n 0, 1, [], 0), (31, .iload_n 1, 1, [], 0), (32, .iconst 3, 1, [], 3), (33, .iadd, 1, [], 0), (34, .invokevirtual 36, 3, [9, 1, 0, 350], 0), (37, .ior, 1, [], 0), (38, .ireturn, 1, [], 0)]]
def rt_11 : List (List rI) := [[(0, .aload_n 0, 1, [], 0), (1, .getfield 15, 3, [1, 1, 91], 0), (4, .aload_n 0, 1, [], 0), (5, .iload_n 1, 1, [], 0), (6, .invokevirtual 39, 3, [6, 1, 0, 372], 0), (9, .baload, 1, [], 0), (10, .sipush 255, 3, [], 255), (13, .iand, 1, [], 0), (14, .ireturn, 1, [], 0)]]
def rt_12 : List (List rI) := [[(0, .aload_n 0, 1, [], 0), (1, .iload_n 1, 1, [], 0), (2, .invokevirtual 42, 3, [11, 1, 0, 383], 0), (5, .bipush 24, 2, [], 24), (7, .ishl, 1, [], 0), (8, .aload_n 0, 1, [], 0), (9, .iload_n 1, 1, [], 0), (10, .iconst 1, 1, [], 1), (11, .iadd, 1, [], 0), (12, .invokevirtual 42, 3, [11, 1, 0, 383], 0), (15, .bipush 16, 2, [], 16), (17, .ishl, 1, [], 0), (18, .ior, 1, [], 0), (19, .aload_n 0, 1, [], 0), (20, .iload_n 1, 1, [], 0), (21, .iconst 2, 1, [], 2)],
  [(22, .iadd, 1, [], 0), (23, .invokevirtual 42, 3, [11, 1, 0, 383], 0), (26, .bipush 8, 2, [], 8), (28, .ishl, 1, [], 0), (29, .ior, 1, [], 0), (30, .aload_n 0, 1, [], 0), (31, .iload_n 1, 1, [], 0), (32, .iconst 3, 1, [], 3), (33, .iadd, 1, [], 0), (34, .invokevirtual 42, 3, [11, 1, 0, 383], 0), (37, .ior, 1, [], 0), (38, .ireturn, 1, [], 0)]]
def rt_13 : List (List rI) := [[(0, .bipush 12, 2, [], 12), (2, .aload_n 0, 1, [], 0), (3, .iload_n 1, 1, [], 0), (4, .iconst 2, 1, [], 2), (5, .iadd, 1, [], 0), (6, .invokevirtual 42, 3, [11, 1, 0, 383], 0), (9, .iadd, 1, [], 0), (10, .ireturn, 1, [], 0)]]
def rt_14 : List (List rI) := [[(0, .aload_n 0, 1, [], 0), (1, .iload_n 1, 1, [], 0), (2, .iconst 2, 1, [], 2), (3, .iadd, 1, [], 0), (4, .invokevirtual 42, 3, [11, 1, 0, 383], 0), (7, .aload_n 2, 1, [], 0), (8, .arraylength, 1, [], 0), (9, .invokestatic 45, 3, [0, 2, 11, 580], 0), (12, .istore_n 3, 1, [], 0), (13, .iconst 0, 1, [], 0), (14, .istore 4, 2, [], 0), (16, .iload 4, 2, [], 0), (18, .iload_n 3, 1, [], 0), (19, .if_icmp .ge 25, 3, [27], 0), (22, .aload_n 2, 1, [], 0), (23, .iload 4, 2, [], 0)],
  [(25, .aload_n 0, 1, [], 0), (26, .iload_n 1, 1, [], 0), (27, .bipush 12, 2, [], 12), (29, .iadd, 1, [], 0), (30, .iload 4, 2, [], 0), (32, .iadd, 1, [], 0), (33, .invokevirtual 42, 3, [11, 1, 0, 383], 0), (36, .i2b, 1, [], 0), (37, .bastore, 1, [], 0), (38, .iinc 4 1, 3, [], 1), (41, .goto (-25), 3, [11], 0), (44, .iload_n 3, 1, [], 0), (45, .ireturn, 1, [], 0)]]
def rt_15 : List (List rI) := [[(0, .aload_n 0, 1, [], 0), (1, .iload_n 1, 1, [], 0), (2, .invokevirtual 51, 3, [13, 1, 0, 730], 0), (5, .istore_n 3, 1, [], 0), (6, .iload_n 3, 1, [], 0), (7, .aload_n 0, 1, [], 0), (8, .iload_n 2, 1, [], 0), (9, .invokevirtual 51, 3, [13, 1, 0, 730], 0), (12, .if_icmp .ne 7, 3, [11], 0), (15, .iconst 1, 1, [], 1), (16, .goto 4, 3, [12], 0), (19, .iconst 0, 1, [], 0), (20, .istore 4, 2, [], 0), (22, .bipush 12, 2, [], 12), (24, .istore 5, 2, [], 0), (26, .iload 4, 2, [], 0)],
  [(28, .ifCond .eq 41, 3, [37], 0), (31, .iload 5, 2, [], 0), (33, .iload_n 3, 1, [], 0), (34, .if_icmp .ge 35, 3, [37], 0), (37, .aload_n 0, 1, [], 0), (38, .iload_n 1, 1, [], 0), (39, .iload 5, 2, [], 0), (41, .iadd, 1, [], 0), (42, .invokevirtual 42, 3, [11, 1, 0, 383], 0), (45, .aload_n 0, 1, [], 0), (46, .iload_n 2, 1, [], 0), (47, .iload 5, 2, [], 0), (49, .iadd, 1, [], 0), (50, .invokevirtual 42, 3, [11, 1, 0, 383], 0), (53, .if_icmp .ne 7, 3, [33], 0), (56, .iconst 1, 1, [], 1)],
  [(57, .goto 4, 3, [34], 0), (60, .iconst 0, 1, [], 0), (61, .istore 4, 2, [], 0), (63, .iinc 5 1, 3, [], 1), (66, .goto (-40), 3, [15], 0), (69, .iload 4, 2, [], 0), (71, .ireturn, 1, [], 0)]]
def rt_16 : List (List rI) := [[(0, .aload_n 0, 1, [], 0), (1, .getfield 54, 3, [1, 10, 104], 0), (4, .ifCond .ne 26, 3, [16], 0), (7, .aload_n 0, 1, [], 0), (8, .iload_n 1, 1, [], 0), (9, .iload 4, 2, [], 0), (11, .invokevirtual 58, 3, [19, 2, 0, 402], 0), (14, .ifCond .eq 16, 3, [16], 0), (17, .iload_n 3, 1, [], 0), (18, .ifCond .lt 12, 3, [16], 0), (21, .iload_n 3, 1, [], 0), (22, .iload 4, 2, [], 0), (24, .iadd, 1, [], 0), (25, .aload_n 2, 1, [], 0), (26, .arraylength, 1, [], 0), (27, .if_icmp .le 4, 3, [17], 0)],
  [(30, .return_, 1, [], 0), (31, .aload_n 0, 1, [], 0), (32, .getfield 62, 3, [1, 6, 97], 0), (35, .sipush 1024, 3, [], 1024), (38, .if_icmp .eq 16, 3, [27], 0), (41, .aload_n 0, 1, [], 0), (42, .getfield 65, 3, [1, 5, 95], 0), (45, .iload 4, 2, [], 0), (47, .iadd, 1, [], 0), (48, .sipush 8192, 3, [], 8192), (51, .if_icmp .le 7, 3, [29], 0), (54, .aload_n 0, 1, [], 0), (55, .invokevirtual 68, 3, [17, 0, 0, 406], 0), (58, .aload_n 0, 1, [], 0), (59, .getfield 19, 3, [1, 2, 92], 0), (62, .aload_n 0, 1, [], 0)],
  [(63, .getfield 62, 3, [1, 6, 97], 0), (66, .iload_n 1, 1, [], 0), (67, .iastore, 1, [], 0), (68, .aload_n 0, 1, [], 0), (69, .getfield 23, 3, [1, 3, 93], 0), (72, .aload_n 0, 1, [], 0), (73, .getfield 62, 3, [1, 6, 97], 0), (76, .iload 4, 2, [], 0), (78, .iastore, 1, [], 0), (79, .aload_n 0, 1, [], 0), (80, .dup, 1, [], 0), (81, .getfield 62, 3, [1, 6, 97], 0), (84, .iconst 1, 1, [], 1), (85, .iadd, 1, [], 0), (86, .putfield 62, 3, [1, 6, 97], 0), (89, .iload_n 1, 1, [], 0)],
  [(90, .istore 5, 2, [], 0), (92, .iconst 0, 1, [], 0), (93, .istore 6, 2, [], 0), (95, .iload 6, 2, [], 0), (97, .iload 4, 2, [], 0), (99, .if_icmp .ge 56, 3, [84], 0), (102, .aload_n 0, 1, [], 0), (103, .getfield 26, 3, [1, 4, 94], 0), (106, .aload_n 0, 1, [], 0), (107, .getfield 65, 3, [1, 5, 95], 0), (110, .aload_n 0, 1, [], 0), (111, .getfield 15, 3, [1, 1, 91], 0), (114, .iload 5, 2, [], 0), (116, .baload, 1, [], 0), (117, .bastore, 1, [], 0), (118, .aload_n 0, 1, [], 0)],
  [(119, .dup, 1, [], 0), (120, .getfield 65, 3, [1, 5, 95], 0), (123, .iconst 1, 1, [], 1), (124, .iadd, 1, [], 0), (125, .putfield 65, 3, [1, 5, 95], 0), (128, .aload_n 0, 1, [], 0), (129, .getfield 15, 3, [1, 1, 91], 0), (132, .iload 5, 2, [], 0), (134, .aload_n 2, 1, [], 0), (135, .iload_n 3, 1, [], 0), (136, .iload 6, 2, [], 0), (138, .iadd, 1, [], 0), (139, .baload, 1, [], 0), (140, .bastore, 1, [], 0), (141, .aload_n 0, 1, [], 0), (142, .iload 5, 2, [], 0)],
  [(144, .invokevirtual 71, 3, [20, 1, 0, 410], 0), (147, .istore 5, 2, [], 0), (149, .iinc 6 1, 3, [], 1), (152, .goto (-57), 3, [51], 0), (155, .aload_n 0, 1, [], 0), (156, .getfield 74, 3, [1, 7, 98], 0), (159, .ifCond .le 29, 3, [101], 0), (162, .aload_n 0, 1, [], 0), (163, .dup, 1, [], 0), (164, .getfield 74, 3, [1, 7, 98], 0), (167, .iconst 1, 1, [], 1), (168, .isub, 1, [], 0), (169, .putfield 74, 3, [1, 7, 98], 0), (172, .aload_n 0, 1, [], 0), (173, .aload_n 0, 1, [], 0), (174, .getfield 74, 3, [1, 7, 98], 0)],
  [(177, .ifCond .ne 7, 3, [99], 0), (180, .iconst 1, 1, [], 1), (181, .goto 4, 3, [100], 0), (184, .iconst 0, 1, [], 0), (185, .putfield 54, 3, [1, 10, 104], 0), (188, .return_, 1, [], 0)]]
def rt_17 : List (List rI) := [[(0, .aload_n 0, 1, [], 0), (1, .getfield 54, 3, [1, 10, 104], 0), (4, .ifCond .ne 13, 3, [9], 0), (7, .aload_n 0, 1, [], 0), (8, .iconst 0, 1, [], 0), (9, .putfield 62, 3, [1, 6, 97], 0), (12, .aload_n 0, 1, [], 0), (13, .iconst 0, 1, [], 0), (14, .putfield 65, 3, [1, 5, 95], 0), (17, .return_, 1, [], 0)]]
def rt_18 : List (List rI) := [[(0, .aload_n 0, 1, [], 0), (1, .getfield 62, 3, [1, 6, 97], 0), (4, .iconst 1, 1, [], 1), (5, .isub, 1, [], 0), (6, .istore_n 3, 1, [], 0), (7, .iload_n 3, 1, [], 0), (8, .ifCond .lt 95, 3, [57], 0), (11, .iload_n 3, 1, [], 0), (12, .iload_n 1, 1, [], 0), (13, .if_icmp .lt 90, 3, [57], 0), (16, .aload_n 0, 1, [], 0), (17, .dup, 1, [], 0), (18, .getfield 65, 3, [1, 5, 95], 0), (21, .aload_n 0, 1, [], 0), (22, .getfield 23, 3, [1, 3, 93], 0), (25, .iload_n 3, 1, [], 0)],
  [(26, .iaload, 1, [], 0), (27, .isub, 1, [], 0), (28, .putfield 65, 3, [1, 5, 95], 0), (31, .aload_n 0, 1, [], 0), (32, .getfield 19, 3, [1, 2, 92], 0), (35, .iload_n 3, 1, [], 0), (36, .iaload, 1, [], 0), (37, .istore 4, 2, [], 0), (39, .iconst 0, 1, [], 0), (40, .istore 5, 2, [], 0), (42, .iload 5, 2, [], 0), (44, .aload_n 0, 1, [], 0), (45, .getfield 23, 3, [1, 3, 93], 0), (48, .iload_n 3, 1, [], 0), (49, .iaload, 1, [], 0), (50, .if_icmp .ge 47, 3, [55], 0)],
  [(53, .iload_n 3, 1, [], 0), (54, .iload_n 1, 1, [], 0), (55, .if_icmp .gt 9, 3, [38], 0), (58, .iload 5, 2, [], 0), (60, .iload_n 2, 1, [], 0), (61, .if_icmp .lt 22, 3, [49], 0), (64, .aload_n 0, 1, [], 0), (65, .getfield 15, 3, [1, 1, 91], 0), (68, .iload 4, 2, [], 0), (70, .aload_n 0, 1, [], 0), (71, .getfield 26, 3, [1, 4, 94], 0), (74, .aload_n 0, 1, [], 0), (75, .getfield 65, 3, [1, 5, 95], 0), (78, .iload 5, 2, [], 0), (80, .iadd, 1, [], 0), (81, .baload, 1, [], 0)],
  [(82, .bastore, 1, [], 0), (83, .aload_n 0, 1, [], 0), (84, .iload 4, 2, [], 0), (86, .invokevirtual 71, 3, [20, 1, 0, 410], 0), (89, .istore 4, 2, [], 0), (91, .iinc 5 1, 3, [], 1), (94, .goto (-52), 3, [26], 0), (97, .iinc 3 (-1), 3, [], (-1)), (100, .goto (-93), 3, [5], 0), (103, .aload_n 0, 1, [], 0), (104, .iconst 0, 1, [], 0), (105, .putfield 62, 3, [1, 6, 97], 0), (108, .aload_n 0, 1, [], 0), (109, .iconst 0, 1, [], 0), (110, .putfield 65, 3, [1, 5, 95], 0), (113, .aload_n 0, 1, [], 0)],
  [(114, .iconst 0, 1, [], 0), (115, .putfield 74, 3, [1, 7, 98], 0), (118, .aload_n 0, 1, [], 0), (119, .iconst 1, 1, [], 1), (120, .putfield 54, 3, [1, 10, 104], 0), (123, .return_, 1, [], 0)]]
def rt_19 : List (List rI) := [[(0, .iload_n 1, 1, [], 0), (1, .ifCond .lt 15, 3, [8], 0), (4, .iload_n 1, 1, [], 0), (5, .aload_n 0, 1, [], 0), (6, .getfield 9, 3, [1, 0, 88], 0), (9, .if_icmp .ge 7, 3, [8], 0), (12, .iconst 1, 1, [], 1), (13, .goto 4, 3, [9], 0), (16, .iconst 0, 1, [], 0), (17, .istore_n 3, 1, [], 0), (18, .iload_n 3, 1, [], 0), (19, .ifCond .ne 22, 3, [23], 0), (22, .iload_n 1, 1, [], 0), (23, .aload_n 0, 1, [], 0), (24, .getfield 9, 3, [1, 0, 88], 0), (27, .if_icmp .lt 18, 3, [25], 0)],
  [(30, .iload_n 1, 1, [], 0), (31, .iload_n 2, 1, [], 0), (32, .iadd, 1, [], 0), (33, .aload_n 0, 1, [], 0), (34, .getfield 15, 3, [1, 1, 91], 0), (37, .arraylength, 1, [], 0), (38, .if_icmp .gt 7, 3, [25], 0), (41, .iconst 1, 1, [], 1), (42, .goto 4, 3, [26], 0), (45, .iconst 0, 1, [], 0), (46, .ireturn, 1, [], 0)]]
def rt_20 : List (List rI) := [[(0, .iload_n 1, 1, [], 0), (1, .iconst 1, 1, [], 1), (2, .iadd, 1, [], 0), (3, .aload_n 0, 1, [], 0), (4, .getfield 9, 3, [1, 0, 88], 0), (7, .if_icmp .ne 7, 3, [8], 0), (10, .iconst 0, 1, [], 0), (11, .goto 6, 3, [11], 0), (14, .iload_n 1, 1, [], 0), (15, .iconst 1, 1, [], 1), (16, .iadd, 1, [], 0), (17, .ireturn, 1, [], 0)]]
def rt_21 : List (List rI) := [[(0, .aload_n 0, 1, [], 0), (1, .invokespecial 3, 3, [0, 0, 12, 141], 0), (4, .aload_n 0, 1, [], 0), (5, .bipush 120, 2, [], 120), (7, .newarray .int, 2, [0], 0), (9, .putfield 9, 3, [2, 0, 142], 0), (12, .aload_n 0, 1, [], 0), (13, .bipush 120, 2, [], 120), (15, .newarray .int, 2, [0], 0), (17, .putfield 15, 3, [2, 1, 146], 0), (20, .aload_n 0, 1, [], 0), (21, .bipush 120, 2, [], 120), (23, .newarray .int, 2, [0], 0), (25, .putfield 18, 3, [2, 2, 150], 0), (28, .return_, 1, [], 0)]]
def rt_22 : List (List rI) := [[(0, .iconst 0, 1, [], 0), (1, .istore_n 1, 1, [], 0), (2, .iload_n 1, 1, [], 0), (3, .bipush 120, 2, [], 120), (5, .if_icmp .ge 16, 3, [12], 0), (8, .aload_n 0, 1, [], 0), (9, .getfield 9, 3, [2, 0, 142], 0), (12, .iload_n 1, 1, [], 0), (13, .iconst 0, 1, [], 0), (14, .iastore, 1, [], 0), (15, .iinc 1 1, 3, [], 1), (18, .goto (-16), 3, [2], 0), (21, .aload_n 0, 1, [], 0), (22, .iconst 0, 1, [], 0), (23, .putfield 21, 3, [2, 3, 154], 0), (26, .return_, 1, [], 0)]]
def rt_23 : List (List rI) := [[(0, .iload_n 1, 1, [], 0), (1, .invokestatic 25, 3, [79, 1, 2, 396], 0), (4, .ifCond .eq 16, 3, [10], 0), (7, .aload_n 0, 1, [], 0), (8, .getfield 9, 3, [2, 0, 142], 0), (11, .iload_n 1, 1, [], 0), (12, .iaload, 1, [], 0), (13, .ifCond .eq 7, 3, [10], 0), (16, .iconst 1, 1, [], 1), (17, .goto 4, 3, [11], 0), (20, .iconst 0, 1, [], 0), (21, .ireturn, 1, [], 0)]]
def rt_24 : List (List rI) := [[(0, .iload_n 1, 1, [], 0), (1, .invokestatic 25, 3, [79, 1, 2, 396], 0), (4, .ifCond .ne 4, 3, [4], 0), (7, .return_, 1, [], 0), (8, .aload_n 0, 1, [], 0), (9, .getfield 9, 3, [2, 0, 142], 0), (12, .iload_n 1, 1, [], 0), (13, .iaload, 1, [], 0), (14, .ifCond .ne 13, 3, [15], 0), (17, .aload_n 0, 1, [], 0), (18, .dup, 1, [], 0), (19, .getfield 21, 3, [2, 3, 154], 0), (22, .iconst 1, 1, [], 1), (23, .iadd, 1, [], 0), (24, .putfield 21, 3, [2, 3, 154], 0), (27, .aload_n 0, 1, [], 0)],
  [(28, .getfield 9, 3, [2, 0, 142], 0), (31, .iload_n 1, 1, [], 0), (32, .iload_n 2, 1, [], 0), (33, .iastore, 1, [], 0), (34, .aload_n 0, 1, [], 0), (35, .getfield 15, 3, [2, 1, 146], 0), (38, .iload_n 1, 1, [], 0), (39, .iload_n 3, 1, [], 0), (40, .iastore, 1, [], 0), (41, .aload_n 0, 1, [], 0), (42, .getfield 18, 3, [2, 2, 150], 0), (45, .iload_n 1, 1, [], 0), (46, .iload 4, 2, [], 0), (48, .iastore, 1, [], 0), (49, .return_, 1, [], 0)]]
def rt_25 : List (List rI) := [[(0, .iconst 0, 1, [], 0), (1, .istore_n 1, 1, [], 0), (2, .iload_n 1, 1, [], 0), (3, .bipush 120, 2, [], 120), (5, .if_icmp .ge 36, 3, [24], 0), (8, .aload_n 0, 1, [], 0), (9, .getfield 9, 3, [2, 0, 142], 0), (12, .iload_n 1, 1, [], 0), (13, .iaload, 1, [], 0), (14, .iconst 2, 1, [], 2), (15, .if_icmp .ne 20, 3, [22], 0), (18, .aload_n 0, 1, [], 0), (19, .getfield 9, 3, [2, 0, 142], 0), (22, .iload_n 1, 1, [], 0), (23, .iconst 0, 1, [], 0), (24, .iastore, 1, [], 0)],
  [(25, .aload_n 0, 1, [], 0), (26, .dup, 1, [], 0), (27, .getfield 21, 3, [2, 3, 154], 0), (30, .iconst 1, 1, [], 1), (31, .isub, 1, [], 0), (32, .putfield 21, 3, [2, 3, 154], 0), (35, .iinc 1 1, 3, [], 1), (38, .goto (-36), 3, [2], 0), (41, .return_, 1, [], 0)]]
def rt_26 : List (List rI) := [[(0, .aload_n 0, 1, [], 0), (1, .getfield 21, 3, [2, 3, 154], 0), (4, .istore_n 2, 1, [], 0), (5, .iconst 0, 1, [], 0), (6, .istore_n 3, 1, [], 0), (7, .iload_n 3, 1, [], 0), (8, .aload_n 1, 1, [], 0), (9, .getfield 29, 3, [0, 4, 316], 0), (12, .if_icmp .ge 33, 3, [23], 0), (15, .aload_n 0, 1, [], 0), (16, .aload_n 1, 1, [], 0), (17, .getfield 32, 3, [0, 1, 308], 0), (20, .iload_n 3, 1, [], 0), (21, .iaload, 1, [], 0), (22, .invokevirtual 35, 3, [23, 1, 0, 483], 0), (25, .ifCond .ne 14, 3, [21], 0)],
  [(28, .aload_n 1, 1, [], 0), (29, .iload_n 3, 1, [], 0), (30, .invokevirtual 38, 3, [2, 1, 0, 487], 0), (33, .ifCond .eq 6, 3, [21], 0), (36, .iinc 2 1, 3, [], 1), (39, .iinc 3 1, 3, [], 1), (42, .goto (-35), 3, [5], 0), (45, .iload_n 2, 1, [], 0), (46, .ireturn, 1, [], 0)]]
def rt_27 : List (List rI) := [[(0, .aload_n 0, 1, [], 0), (1, .invokespecial 3, 3, [0, 0, 12, 230], 0), (4, .return_, 1, [], 0)]]
def rt_28 : List (List rI) := [[(0, .aload_n 0, 1, [], 0), (1, .iconst 0, 1, [], 0), (2, .putfield 9, 3, [3, 0, 231], 0), (5, .aload_n 0, 1, [], 0), (6, .iconst 0, 1, [], 0), (7, .putfield 15, 3, [3, 1, 235], 0), (10, .aload_n 0, 1, [], 0), (11, .iconst 0, 1, [], 0), (12, .putfield 18, 3, [3, 2, 238], 0), (15, .aload_n 0, 1, [], 0), (16, .iconst 0, 1, [], 0), (17, .putfield 21, 3, [3, 3, 242], 0), (20, .aload_n 0, 1, [], 0), (21, .iconst 0, 1, [], 0), (22, .putfield 25, 3, [3, 4, 245], 0), (25, .aload_n 0, 1, [], 0)],
  [(26, .iconst 0, 1, [], 0), (27, .putfield 28, 3, [3, 5, 248], 0), (30, .return_, 1, [], 0)]]
def rt_29 : List (List rI) := [[(0, .aload_n 0, 1, [], 0), (1, .invokespecial 3, 3, [0, 0, 12, 224], 0), (4, .aload_n 0, 1, [], 0), (5, .new 9, 3, [3, 225, 226, 64], 0), (8, .dup, 1, [], 0), (9, .invokespecial 11, 3, [27, 0, 3, 227], 0), (12, .putfield 12, 3, [4, 2, 268], 0), (15, .aload_n 0, 1, [], 0), (16, .new 18, 3, [2, 264, 137, 62], 0), (19, .dup, 1, [], 0), (20, .invokespecial 20, 3, [21, 0, 3, 265], 0), (23, .putfield 21, 3, [4, 3, 269], 0), (26, .aload_n 0, 1, [], 0), (27, .bipush 12, 2, [], 12), (29, .newarray .byte, 2, [1], 0), (31, .putfield 25, 3, [4, 4, 270], 0)],
  [(34, .aload_n 0, 1, [], 0), (35, .bipush 12, 2, [], 12), (37, .newarray .byte, 2, [1], 0), (39, .putfield 29, 3, [4, 5, 271], 0), (42, .aload_n 0, 1, [], 0), (43, .sipush 1300, 3, [], 1300), (46, .newarray .byte, 2, [1], 0), (48, .putfield 32, 3, [4, 6, 272], 0), (51, .aload_n 0, 1, [], 0), (52, .bipush 64, 2, [], 64), (54, .newarray .byte, 2, [1], 0), (56, .putfield 35, 3, [4, 7, 273], 0), (59, .aload_n 0, 1, [], 0), (60, .aload_n 1, 1, [], 0), (61, .putfield 38, 3, [4, 0, 266], 0), (64, .aload_n 0, 1, [], 0)],
  [(65, .aload_n 2, 1, [], 0), (66, .putfield 42, 3, [4, 1, 267], 0), (69, .return_, 1, [], 0)]]
def rt_30 : List (List rI) := [[(0, .aload_n 0, 1, [], 0), (1, .getfield 38, 3, [4, 0, 266], 0), (4, .iconst 0, 1, [], 0), (5, .putfield 46, 3, [1, 10, 103], 0), (8, .aload_n 0, 1, [], 0), (9, .getfield 42, 3, [4, 1, 267], 0), (12, .invokevirtual 52, 3, [42, 0, 0, 334], 0), (15, .istore_n 1, 1, [], 0), (16, .aload_n 0, 1, [], 0), (17, .getfield 38, 3, [4, 0, 266], 0), (20, .aload_n 0, 1, [], 0), (21, .getfield 38, 3, [4, 0, 266], 0), (24, .aload_n 0, 1, [], 0), (25, .getfield 42, 3, [4, 1, 267], 0), (28, .getfield 58, 3, [5, 8, 188], 0), (31, .invokevirtual 62, 3, [6, 1, 0, 397], 0)],
  [(34, .aload_n 0, 1, [], 0), (35, .getfield 25, 3, [4, 4, 270], 0), (38, .iconst 0, 1, [], 0), (39, .bipush 12, 2, [], 12), (41, .invokevirtual 66, 3, [16, 4, 0, 398], 0), (44, .aload_n 0, 1, [], 0), (45, .getfield 38, 3, [4, 0, 266], 0), (48, .invokevirtual 70, 3, [17, 0, 0, 414], 0), (51, .iload_n 1, 1, [], 0), (52, .ireturn, 1, [], 0)]]
def rt_31 : List (List rI) := [[(0, .aload_n 1, 1, [], 0), (1, .invokevirtual 73, 3, [3, 0, 0, 475], 0), (4, .sipush 176, 3, [], 176), (7, .iadd, 1, [], 0), (8, .istore_n 2, 1, [], 0), (9, .aload_n 0, 1, [], 0), (10, .getfield 42, 3, [4, 1, 267], 0), (13, .getfield 78, 3, [5, 1, 168], 0), (16, .aload_n 1, 1, [], 0), (17, .invokevirtual 81, 3, [26, 1, 0, 479], 0), (20, .bipush 24, 2, [], 24), (22, .if_icmp .le 7, 3, [14], 0), (25, .aload_n 0, 1, [], 0), (26, .invokevirtual 85, 3, [35, 0, 0, 491], 0), (29, .aload_n 0, 1, [], 0), (30, .iload_n 2, 1, [], 0)],
  [(31, .invokevirtual 88, 3, [33, 1, 0, 547], 0), (34, .ifCond .ne 87, 3, [57], 0), (37, .aload_n 0, 1, [], 0), (38, .getfield 42, 3, [4, 1, 267], 0), (41, .getfield 58, 3, [5, 8, 188], 0), (44, .istore_n 3, 1, [], 0), (45, .iconst 1, 1, [], 1), (46, .istore 4, 2, [], 0), (48, .iconst 0, 1, [], 0), (49, .istore 5, 2, [], 0), (51, .iload 5, 2, [], 0), (53, .sipush 1000, 3, [], 1000), (56, .if_icmp .ge 34, 3, [42], 0), (59, .iload 4, 2, [], 0), (61, .ifCond .le 29, 3, [42], 0), (64, .aload_n 0, 1, [], 0)],
  [(65, .getfield 42, 3, [4, 1, 267], 0), (68, .getfield 92, 3, [5, 7, 185], 0), (71, .iload_n 3, 1, [], 0), (72, .if_icmp .ge 18, 3, [42], 0), (75, .aload_n 0, 1, [], 0), (76, .sipush 1000, 3, [], 1000), (79, .invokevirtual 95, 3, [39, 1, 0, 551], 0), (82, .istore 4, 2, [], 0), (84, .iinc 5 1, 3, [], 1), (87, .goto (-36), 3, [26], 0), (90, .aload_n 0, 1, [], 0), (91, .iload_n 2, 1, [], 0), (92, .invokevirtual 88, 3, [33, 1, 0, 547], 0), (95, .ifCond .ne 6, 3, [48], 0), (98, .bipush (-3), 2, [], (-3)), (100, .ireturn, 1, [], 0)],
  [(101, .aload_n 0, 1, [], 0), (102, .getfield 42, 3, [4, 1, 267], 0), (105, .getfield 78, 3, [5, 1, 168], 0), (108, .aload_n 1, 1, [], 0), (109, .invokevirtual 81, 3, [26, 1, 0, 479], 0), (112, .bipush 24, 2, [], 24), (114, .if_icmp .le 7, 3, [57], 0), (117, .aload_n 0, 1, [], 0), (118, .invokevirtual 85, 3, [35, 0, 0, 491], 0), (121, .aload_n 0, 1, [], 0), (122, .aload_n 1, 1, [], 0), (123, .invokevirtual 98, 3, [32, 1, 0, 586], 0), (126, .aload_n 1, 1, [], 0), (127, .getfield 102, 3, [0, 4, 315], 0), (130, .ireturn, 1, [], 0)]]
def rt_32 : List (List rI) := [[(0, .iconst 0, 1, [], 0), (1, .istore_n 2, 1, [], 0), (2, .iload_n 2, 1, [], 0), (3, .aload_n 1, 1, [], 0), (4, .getfield 102, 3, [0, 4, 315], 0), (7, .if_icmp .ge 57, 3, [38], 0), (10, .iload_n 2, 1, [], 0), (11, .aload_n 1, 1, [], 0), (12, .getfield 102, 3, [0, 4, 315], 0), (15, .iconst 1, 1, [], 1), (16, .isub, 1, [], 0), (17, .if_icmp .ge 9, 3, [14], 0), (20, .sipush 128, 3, [], 128), (23, .goto 4, 3, [15], 0), (26, .iconst 0, 1, [], 0), (27, .istore_n 3, 1, [], 0)],
  [(28, .aload_n 0, 1, [], 0), (29, .aload_n 1, 1, [], 0), (30, .getfield 105, 3, [0, 0, 305], 0), (33, .iload_n 2, 1, [], 0), (34, .iaload, 1, [], 0), (35, .iload_n 3, 1, [], 0), (36, .ior, 1, [], 0), (37, .aload_n 1, 1, [], 0), (38, .getfield 109, 3, [0, 1, 307], 0), (41, .iload_n 2, 1, [], 0), (42, .iaload, 1, [], 0), (43, .aload_n 1, 1, [], 0), (44, .getfield 112, 3, [0, 3, 312], 0), (47, .iload_n 2, 1, [], 0), (48, .aaload, 1, [], 0), (49, .aload_n 1, 1, [], 0)],
  [(50, .getfield 116, 3, [0, 2, 310], 0), (53, .iload_n 2, 1, [], 0), (54, .iaload, 1, [], 0), (55, .invokevirtual 119, 3, [34, 4, 0, 581], 0), (58, .iinc 2 1, 3, [], 1), (61, .goto (-59), 3, [2], 0), (64, .return_, 1, [], 0)]]
def rt_33 : List (List rI) := [[(0, .aload_n 0, 1, [], 0), (1, .getfield 42, 3, [4, 1, 267], 0), (4, .getfield 58, 3, [5, 8, 188], 0), (7, .iload_n 1, 1, [], 0), (8, .iadd, 1, [], 0), (9, .bipush 12, 2, [], 12), (11, .iadd, 1, [], 0), (12, .aload_n 0, 1, [], 0), (13, .getfield 42, 3, [4, 1, 267], 0), (16, .getfield 92, 3, [5, 7, 185], 0), (19, .isub, 1, [], 0), (20, .aload_n 0, 1, [], 0), (21, .getfield 38, 3, [4, 0, 266], 0), (24, .getfield 123, 3, [1, 0, 90], 0), (27, .if_icmp .gt 7, 3, [17], 0), (30, .iconst 1, 1, [], 1)],
  [(31, .goto 4, 3, [18], 0), (34, .iconst 0, 1, [], 0), (35, .ireturn, 1, [], 0)]]
def rt_34 : List (List rI) := [[(0, .aload_n 0, 1, [], 0), (1, .getfield 38, 3, [4, 0, 266], 0), (4, .aload_n 0, 1, [], 0), (5, .getfield 38, 3, [4, 0, 266], 0), (8, .aload_n 0, 1, [], 0), (9, .getfield 42, 3, [4, 1, 267], 0), (12, .getfield 58, 3, [5, 8, 188], 0), (15, .bipush 12, 2, [], 12), (17, .iadd, 1, [], 0), (18, .iload 4, 2, [], 0), (20, .iadd, 1, [], 0), (21, .invokevirtual 62, 3, [6, 1, 0, 397], 0), (24, .aload_n 0, 1, [], 0), (25, .getfield 25, 3, [4, 4, 270], 0), (28, .iconst 0, 1, [], 0), (29, .bipush 12, 2, [], 12)],
  [(31, .invokevirtual 66, 3, [16, 4, 0, 398], 0), (34, .iload 4, 2, [], 0), (36, .ifCond .le 31, 3, [33], 0), (39, .aload_n 0, 1, [], 0), (40, .getfield 38, 3, [4, 0, 266], 0), (43, .aload_n 0, 1, [], 0), (44, .getfield 38, 3, [4, 0, 266], 0), (47, .aload_n 0, 1, [], 0), (48, .getfield 42, 3, [4, 1, 267], 0), (51, .getfield 58, 3, [5, 8, 188], 0), (54, .bipush 12, 2, [], 12), (56, .iadd, 1, [], 0), (57, .invokevirtual 62, 3, [6, 1, 0, 397], 0), (60, .aload_n 3, 1, [], 0), (61, .iconst 0, 1, [], 0), (62, .iload 4, 2, [], 0)],
  [(64, .invokevirtual 66, 3, [16, 4, 0, 398], 0), (67, .aload_n 0, 1, [], 0), (68, .getfield 29, 3, [4, 5, 271], 0), (71, .iconst 0, 1, [], 0), (72, .iload_n 1, 1, [], 0), (73, .i2b, 1, [], 0), (74, .bastore, 1, [], 0), (75, .aload_n 0, 1, [], 0), (76, .getfield 29, 3, [4, 5, 271], 0), (79, .iconst 1, 1, [], 1), (80, .iload_n 2, 1, [], 0), (81, .i2b, 1, [], 0), (82, .bastore, 1, [], 0), (83, .aload_n 0, 1, [], 0), (84, .getfield 29, 3, [4, 5, 271], 0), (87, .iconst 2, 1, [], 2)],
  [(88, .iload 4, 2, [], 0), (90, .i2b, 1, [], 0), (91, .bastore, 1, [], 0), (92, .aload_n 0, 1, [], 0), (93, .getfield 29, 3, [4, 5, 271], 0), (96, .iconst 4, 1, [], 4), (97, .aload_n 0, 1, [], 0), (98, .getfield 42, 3, [4, 1, 267], 0), (101, .getfield 126, 3, [5, 9, 191], 0), (104, .invokestatic 129, 3, [40, 3, 1, 510], 0), (107, .aload_n 0, 1, [], 0), (108, .getfield 29, 3, [4, 5, 271], 0), (111, .bipush 8, 2, [], 8), (113, .aload_n 0, 1, [], 0), (114, .getfield 42, 3, [4, 1, 267], 0), (117, .getfield 126, 3, [5, 9, 191], 0)],
  [(120, .invokestatic 129, 3, [40, 3, 1, 510], 0), (123, .aload_n 0, 1, [], 0), (124, .getfield 38, 3, [4, 0, 266], 0), (127, .aload_n 0, 1, [], 0), (128, .getfield 38, 3, [4, 0, 266], 0), (131, .aload_n 0, 1, [], 0), (132, .getfield 42, 3, [4, 1, 267], 0), (135, .getfield 58, 3, [5, 8, 188], 0), (138, .invokevirtual 62, 3, [6, 1, 0, 397], 0), (141, .aload_n 0, 1, [], 0), (142, .getfield 29, 3, [4, 5, 271], 0), (145, .iconst 0, 1, [], 0), (146, .bipush 12, 2, [], 12), (148, .invokevirtual 66, 3, [16, 4, 0, 398], 0), (151, .aload_n 0, 1, [], 0), (152, .getfield 42, 3, [4, 1, 267], 0)],
  [(155, .getfield 78, 3, [5, 1, 168], 0), (158, .iload_n 2, 1, [], 0), (159, .iload_n 1, 1, [], 0), (160, .sipush (-129), 3, [], (-129)), (163, .iand, 1, [], 0), (164, .aload_n 0, 1, [], 0), (165, .getfield 42, 3, [4, 1, 267], 0), (168, .getfield 126, 3, [5, 9, 191], 0), (171, .aload_n 0, 1, [], 0), (172, .getfield 42, 3, [4, 1, 267], 0), (175, .getfield 58, 3, [5, 8, 188], 0), (178, .invokevirtual 133, 3, [24, 4, 0, 585], 0), (181, .aload_n 0, 1, [], 0), (182, .getfield 42, 3, [4, 1, 267], 0), (185, .dup, 1, [], 0), (186, .getfield 58, 3, [5, 8, 188], 0)],
  [(189, .bipush 12, 2, [], 12), (191, .iload 4, 2, [], 0), (193, .iadd, 1, [], 0), (194, .iadd, 1, [], 0), (195, .putfield 58, 3, [5, 8, 188], 0), (198, .aload_n 0, 1, [], 0), (199, .getfield 42, 3, [4, 1, 267], 0), (202, .dup, 1, [], 0), (203, .getfield 126, 3, [5, 9, 191], 0), (206, .iconst 1, 1, [], 1), (207, .iadd, 1, [], 0), (208, .putfield 126, 3, [5, 9, 191], 0), (211, .return_, 1, [], 0)]]
def rt_35 : List (List rI) := [[(0, .aload_n 0, 1, [], 0), (1, .getfield 38, 3, [4, 0, 266], 0), (4, .invokevirtual 70, 3, [17, 0, 0, 414], 0), (7, .aload_n 0, 1, [], 0), (8, .getfield 42, 3, [4, 1, 267], 0), (11, .getfield 78, 3, [5, 1, 168], 0), (14, .getfield 137, 3, [2, 3, 155], 0), (17, .ifCond .le 123, 3, [71], 0), (20, .aload_n 0, 1, [], 0), (21, .aload_n 0, 1, [], 0), (22, .getfield 42, 3, [4, 1, 267], 0), (25, .invokevirtual 138, 3, [48, 0, 0, 495], 0), (28, .putfield 141, 3, [4, 8, 274], 0), (31, .aload_n 0, 1, [], 0), (32, .iconst 0, 1, [], 0), (33, .aload_n 0, 1, [], 0)],
  [(34, .getfield 42, 3, [4, 1, 267], 0), (37, .getfield 78, 3, [5, 1, 168], 0), (40, .iconst 0, 1, [], 0), (41, .invokevirtual 144, 3, [36, 3, 0, 499], 0), (44, .aload_n 0, 1, [], 0), (45, .getfield 42, 3, [4, 1, 267], 0), (48, .iconst 0, 1, [], 0), (49, .invokevirtual 148, 3, [49, 1, 0, 524], 0), (52, .iconst 3, 1, [], 3), (53, .if_icmp .le 7, 3, [28], 0), (56, .iconst 1, 1, [], 1), (57, .goto 4, 3, [29], 0), (60, .iconst 0, 1, [], 0), (61, .istore_n 1, 1, [], 0), (62, .iconst 1, 1, [], 1), (63, .istore_n 2, 1, [], 0)],
  [(64, .iload_n 2, 1, [], 0), (65, .iconst 2, 1, [], 2), (66, .if_icmp .gt 74, 3, [71], 0), (69, .iload_n 1, 1, [], 0), (70, .ifCond .eq 70, 3, [71], 0), (73, .aload_n 0, 1, [], 0), (74, .getfield 42, 3, [4, 1, 267], 0), (77, .iload_n 2, 1, [], 0), (78, .invokevirtual 148, 3, [49, 1, 0, 524], 0), (81, .istore_n 3, 1, [], 0), (82, .aload_n 0, 1, [], 0), (83, .getfield 42, 3, [4, 1, 267], 0), (86, .iload_n 3, 1, [], 0), (87, .aload_n 0, 1, [], 0), (88, .getfield 21, 3, [4, 3, 269], 0), (91, .invokevirtual 151, 3, [55, 2, 0, 533], 0)],
  [(94, .iload_n 2, 1, [], 0), (95, .iconst 2, 1, [], 2), (96, .if_icmp .ne 10, 3, [54], 0), (99, .aload_n 0, 1, [], 0), (100, .getfield 21, 3, [4, 3, 269], 0), (103, .invokevirtual 155, 3, [25, 0, 0, 537], 0), (106, .aload_n 0, 1, [], 0), (107, .iload_n 2, 1, [], 0), (108, .aload_n 0, 1, [], 0), (109, .getfield 21, 3, [4, 3, 269], 0), (112, .iload_n 3, 1, [], 0), (113, .invokevirtual 144, 3, [36, 3, 0, 499], 0), (116, .aload_n 0, 1, [], 0), (117, .getfield 21, 3, [4, 3, 269], 0), (120, .getfield 137, 3, [2, 3, 155], 0), (123, .bipush 40, 2, [], 40)],
  [(125, .if_icmp .le 7, 3, [67], 0), (128, .iconst 1, 1, [], 1), (129, .goto 4, 3, [68], 0), (132, .iconst 0, 1, [], 0), (133, .istore_n 1, 1, [], 0), (134, .iinc 2 1, 3, [], 1), (137, .goto (-73), 3, [32], 0), (140, .aload_n 0, 1, [], 0), (141, .getfield 42, 3, [4, 1, 267], 0), (144, .getfield 78, 3, [5, 1, 168], 0), (147, .invokevirtual 158, 3, [22, 0, 0, 541], 0), (150, .aload_n 0, 1, [], 0), (151, .getfield 38, 3, [4, 0, 266], 0), (154, .invokevirtual 70, 3, [17, 0, 0, 414], 0), (157, .aload_n 0, 1, [], 0), (158, .getfield 42, 3, [4, 1, 267], 0)],
  [(161, .aload_n 0, 1, [], 0), (162, .getfield 42, 3, [4, 1, 267], 0), (165, .getfield 58, 3, [5, 8, 188], 0), (168, .putfield 161, 3, [5, 5, 180], 0), (171, .aload_n 0, 1, [], 0), (172, .getfield 42, 3, [4, 1, 267], 0), (175, .aload_n 0, 1, [], 0), (176, .getfield 42, 3, [4, 1, 267], 0), (179, .getfield 126, 3, [5, 9, 191], 0), (182, .putfield 164, 3, [5, 6, 183], 0), (185, .aload_n 0, 1, [], 0), (186, .invokevirtual 167, 3, [38, 0, 0, 542], 0), (189, .aload_n 0, 1, [], 0), (190, .getfield 38, 3, [4, 0, 266], 0), (193, .invokevirtual 70, 3, [17, 0, 0, 414], 0), (196, .return_, 1, [], 0)]]
def rt_36 : List (List rI) := [[(0, .aload_n 2, 1, [], 0), (1, .getfield 137, 3, [2, 3, 155], 0), (4, .ifCond .ne 14, 3, [10], 0), (7, .aload_n 0, 1, [], 0), (8, .getfield 42, 3, [4, 1, 267], 0), (11, .iload_n 3, 1, [], 0), (12, .iconst 0, 1, [], 0), (13, .iconst 0, 1, [], 0), (14, .invokevirtual 170, 3, [56, 3, 0, 503], 0), (17, .return_, 1, [], 0), (18, .iconst 0, 1, [], 0), (19, .istore 4, 2, [], 0), (21, .bipush 16, 2, [], 16), (23, .istore 5, 2, [], 0), (25, .iconst 0, 1, [], 0), (26, .istore 6, 2, [], 0)],
  [(28, .iload 6, 2, [], 0), (30, .bipush 120, 2, [], 120), (32, .if_icmp .ge 96, 3, [69], 0), (35, .aload_n 2, 1, [], 0), (36, .getfield 174, 3, [2, 0, 143], 0), (39, .iload 6, 2, [], 0), (41, .iaload, 1, [], 0), (42, .ifCond .eq 80, 3, [67], 0), (45, .aload_n 0, 1, [], 0), (46, .getfield 32, 3, [4, 6, 272], 0), (49, .iload 5, 2, [], 0), (51, .iload 6, 2, [], 0), (53, .i2b, 1, [], 0), (54, .bastore, 1, [], 0), (55, .aload_n 0, 1, [], 0), (56, .getfield 32, 3, [4, 6, 272], 0)],
  [(59, .iload 5, 2, [], 0), (61, .iconst 1, 1, [], 1), (62, .iadd, 1, [], 0), (63, .aload_n 2, 1, [], 0), (64, .getfield 174, 3, [2, 0, 143], 0), (67, .iload 6, 2, [], 0), (69, .iaload, 1, [], 0), (70, .i2b, 1, [], 0), (71, .bastore, 1, [], 0), (72, .aload_n 0, 1, [], 0), (73, .getfield 32, 3, [4, 6, 272], 0), (76, .iload 5, 2, [], 0), (78, .iconst 2, 1, [], 2), (79, .iadd, 1, [], 0), (80, .aload_n 2, 1, [], 0), (81, .getfield 175, 3, [2, 2, 151], 0)],
  [(84, .iload 6, 2, [], 0), (86, .iaload, 1, [], 0), (87, .invokestatic 129, 3, [40, 3, 1, 510], 0), (90, .aload_n 0, 1, [], 0), (91, .getfield 32, 3, [4, 6, 272], 0), (94, .iload 5, 2, [], 0), (96, .bipush 6, 2, [], 6), (98, .iadd, 1, [], 0), (99, .aload_n 2, 1, [], 0), (100, .getfield 178, 3, [2, 1, 147], 0), (103, .iload 6, 2, [], 0), (105, .iaload, 1, [], 0), (106, .invokestatic 129, 3, [40, 3, 1, 510], 0), (109, .iload 4, 2, [], 0), (111, .iload 6, 2, [], 0), (113, .invokestatic 181, 3, [53, 1, 1, 513], 0)],
  [(116, .ior, 1, [], 0), (117, .istore 4, 2, [], 0), (119, .iinc 5 10, 3, [], 10), (122, .iinc 6 1, 3, [], 1), (125, .goto (-97), 3, [16], 0), (128, .aload_n 0, 1, [], 0), (129, .getfield 32, 3, [4, 6, 272], 0), (132, .iconst 0, 1, [], 0), (133, .bipush 84, 2, [], 84), (135, .bastore, 1, [], 0), (136, .aload_n 0, 1, [], 0), (137, .getfield 32, 3, [4, 6, 272], 0), (140, .iconst 1, 1, [], 1), (141, .iload_n 1, 1, [], 0), (142, .i2b, 1, [], 0), (143, .bastore, 1, [], 0)],
  [(144, .aload_n 0, 1, [], 0), (145, .getfield 32, 3, [4, 6, 272], 0), (148, .iconst 2, 1, [], 2), (149, .aload_n 2, 1, [], 0), (150, .getfield 137, 3, [2, 3, 155], 0), (153, .i2b, 1, [], 0), (154, .bastore, 1, [], 0), (155, .aload_n 0, 1, [], 0), (156, .getfield 32, 3, [4, 6, 272], 0), (159, .iconst 3, 1, [], 3), (160, .iconst 0, 1, [], 0), (161, .bastore, 1, [], 0), (162, .aload_n 0, 1, [], 0), (163, .getfield 32, 3, [4, 6, 272], 0), (166, .iconst 4, 1, [], 4), (167, .aload_n 0, 1, [], 0)],
  [(168, .getfield 42, 3, [4, 1, 267], 0), (171, .getfield 184, 3, [5, 10, 194], 0), (174, .invokestatic 129, 3, [40, 3, 1, 510], 0), (177, .aload_n 0, 1, [], 0), (178, .getfield 32, 3, [4, 6, 272], 0), (181, .bipush 8, 2, [], 8), (183, .iload 4, 2, [], 0), (185, .invokestatic 129, 3, [40, 3, 1, 510], 0), (188, .aload_n 0, 1, [], 0), (189, .getfield 32, 3, [4, 6, 272], 0), (192, .bipush 12, 2, [], 12), (194, .aload_n 0, 1, [], 0), (195, .getfield 42, 3, [4, 1, 267], 0), (198, .getfield 184, 3, [5, 10, 194], 0), (201, .invokestatic 129, 3, [40, 3, 1, 510], 0), (204, .aload_n 0, 1, [], 0)],
  [(205, .invokevirtual 187, 3, [37, 0, 0, 516], 0), (208, .istore 6, 2, [], 0), (210, .aload_n 0, 1, [], 0), (211, .getfield 38, 3, [4, 0, 266], 0), (214, .aload_n 0, 1, [], 0), (215, .getfield 38, 3, [4, 0, 266], 0), (218, .iload 6, 2, [], 0), (220, .invokevirtual 190, 3, [7, 1, 0, 520], 0), (223, .aload_n 0, 1, [], 0), (224, .getfield 32, 3, [4, 6, 272], 0), (227, .iconst 0, 1, [], 0), (228, .iload 5, 2, [], 0), (230, .invokevirtual 66, 3, [16, 4, 0, 398], 0), (233, .aload_n 0, 1, [], 0), (234, .dup, 1, [], 0), (235, .getfield 141, 3, [4, 8, 274], 0)],
  [(238, .iconst 1, 1, [], 1), (239, .iload 6, 2, [], 0), (241, .ishl, 1, [], 0), (242, .ior, 1, [], 0), (243, .putfield 141, 3, [4, 8, 274], 0), (246, .aload_n 0, 1, [], 0), (247, .getfield 42, 3, [4, 1, 267], 0), (250, .dup, 1, [], 0), (251, .getfield 184, 3, [5, 10, 194], 0), (254, .iconst 1, 1, [], 1), (255, .iadd, 1, [], 0), (256, .putfield 184, 3, [5, 10, 194], 0), (259, .aload_n 0, 1, [], 0), (260, .getfield 42, 3, [4, 1, 267], 0), (263, .iload_n 3, 1, [], 0), (264, .iconst 1, 1, [], 1)],
  [(265, .iload 6, 2, [], 0), (267, .invokevirtual 170, 3, [56, 3, 0, 503], 0), (270, .return_, 1, [], 0)]]
def rt_37 : List (List rI) := [[(0, .iconst 0, 1, [], 0), (1, .istore_n 1, 1, [], 0), (2, .iload_n 1, 1, [], 0), (3, .bipush 11, 2, [], 11), (5, .if_icmp .ge 20, 3, [14], 0), (8, .aload_n 0, 1, [], 0), (9, .getfield 141, 3, [4, 8, 274], 0), (12, .iload_n 1, 1, [], 0), (13, .ishr, 1, [], 0), (14, .iconst 1, 1, [], 1), (15, .iand, 1, [], 0), (16, .ifCond .eq 9, 3, [14], 0), (19, .iinc 1 1, 3, [], 1), (22, .goto (-20), 3, [2], 0), (25, .iload_n 1, 1, [], 0), (26, .ireturn, 1, [], 0)]]
def rt_38 : List (List rI) := [[(0, .aload_n 0, 1, [], 0), (1, .getfield 42, 3, [4, 1, 267], 0), (4, .dup, 1, [], 0), (5, .getfield 193, 3, [5, 4, 177], 0), (8, .iconst 1, 1, [], 1), (9, .iadd, 1, [], 0), (10, .putfield 193, 3, [5, 4, 177], 0), (13, .iconst 0, 1, [], 0), (14, .istore_n 1, 1, [], 0), (15, .iload_n 1, 1, [], 0), (16, .bipush 64, 2, [], 64), (18, .if_icmp .ge 16, 3, [19], 0), (21, .aload_n 0, 1, [], 0), (22, .getfield 32, 3, [4, 6, 272], 0), (25, .iload_n 1, 1, [], 0), (26, .iconst 0, 1, [], 0)],
  [(27, .bastore, 1, [], 0), (28, .iinc 1 1, 3, [], 1), (31, .goto (-16), 3, [9], 0), (34, .aload_n 0, 1, [], 0), (35, .getfield 32, 3, [4, 6, 272], 0), (38, .iconst 0, 1, [], 0), (39, .aload_n 0, 1, [], 0), (40, .getfield 42, 3, [4, 1, 267], 0), (43, .getfield 193, 3, [5, 4, 177], 0), (46, .invokestatic 129, 3, [40, 3, 1, 510], 0), (49, .aload_n 0, 1, [], 0), (50, .getfield 32, 3, [4, 6, 272], 0), (53, .iconst 4, 1, [], 4), (54, .aload_n 0, 1, [], 0), (55, .getfield 42, 3, [4, 1, 267], 0), (58, .getfield 161, 3, [5, 5, 180], 0)],
  [(61, .invokestatic 129, 3, [40, 3, 1, 510], 0), (64, .aload_n 0, 1, [], 0), (65, .getfield 32, 3, [4, 6, 272], 0), (68, .bipush 8, 2, [], 8), (70, .aload_n 0, 1, [], 0), (71, .getfield 42, 3, [4, 1, 267], 0), (74, .getfield 92, 3, [5, 7, 185], 0), (77, .invokestatic 129, 3, [40, 3, 1, 510], 0), (80, .aload_n 0, 1, [], 0), (81, .getfield 32, 3, [4, 6, 272], 0), (84, .bipush 12, 2, [], 12), (86, .aload_n 0, 1, [], 0), (87, .getfield 42, 3, [4, 1, 267], 0), (90, .getfield 164, 3, [5, 6, 183], 0), (93, .invokestatic 129, 3, [40, 3, 1, 510], 0), (96, .aload_n 0, 1, [], 0)],
  [(97, .getfield 32, 3, [4, 6, 272], 0), (100, .bipush 16, 2, [], 16), (102, .aload_n 0, 1, [], 0), (103, .getfield 42, 3, [4, 1, 267], 0), (106, .getfield 184, 3, [5, 10, 194], 0), (109, .invokestatic 129, 3, [40, 3, 1, 510], 0), (112, .aload_n 0, 1, [], 0), (113, .getfield 32, 3, [4, 6, 272], 0), (116, .bipush 20, 2, [], 20), (118, .aload_n 0, 1, [], 0), (119, .getfield 42, 3, [4, 1, 267], 0), (122, .getfield 196, 3, [5, 3, 174], 0), (125, .i2b, 1, [], 0), (126, .bastore, 1, [], 0), (127, .iconst 0, 1, [], 0), (128, .istore_n 1, 1, [], 0)],
  [(129, .iload_n 1, 1, [], 0), (130, .aload_n 0, 1, [], 0), (131, .getfield 42, 3, [4, 1, 267], 0), (134, .getfield 196, 3, [5, 3, 174], 0), (137, .if_icmp .ge 28, 3, [83], 0), (140, .aload_n 0, 1, [], 0), (141, .getfield 32, 3, [4, 6, 272], 0), (144, .bipush 21, 2, [], 21), (146, .iload_n 1, 1, [], 0), (147, .iadd, 1, [], 0), (148, .aload_n 0, 1, [], 0), (149, .getfield 42, 3, [4, 1, 267], 0), (152, .getfield 199, 3, [5, 2, 171], 0), (155, .iload_n 1, 1, [], 0), (156, .iaload, 1, [], 0), (157, .i2b, 1, [], 0)],
  [(158, .bastore, 1, [], 0), (159, .iinc 1 1, 3, [], 1), (162, .goto (-33), 3, [64], 0), (165, .aload_n 0, 1, [], 0), (166, .getfield 32, 3, [4, 6, 272], 0), (169, .bipush 60, 2, [], 60), (171, .aload_n 0, 1, [], 0), (172, .getfield 42, 3, [4, 1, 267], 0), (175, .getfield 193, 3, [5, 4, 177], 0), (178, .invokestatic 129, 3, [40, 3, 1, 510], 0), (181, .aload_n 0, 1, [], 0), (182, .getfield 38, 3, [4, 0, 266], 0), (185, .aload_n 0, 1, [], 0), (186, .getfield 42, 3, [4, 1, 267], 0), (189, .getfield 193, 3, [5, 4, 177], 0), (192, .invokevirtual 202, 3, [8, 1, 0, 546], 0)],
  [(195, .istore_n 1, 1, [], 0), (196, .aload_n 0, 1, [], 0), (197, .getfield 38, 3, [4, 0, 266], 0), (200, .iload_n 1, 1, [], 0), (201, .bipush 60, 2, [], 60), (203, .iadd, 1, [], 0), (204, .aload_n 0, 1, [], 0), (205, .getfield 25, 3, [4, 4, 270], 0), (208, .iconst 0, 1, [], 0), (209, .iconst 4, 1, [], 4), (210, .invokevirtual 66, 3, [16, 4, 0, 398], 0), (213, .aload_n 0, 1, [], 0), (214, .getfield 38, 3, [4, 0, 266], 0), (217, .iload_n 1, 1, [], 0), (218, .aload_n 0, 1, [], 0), (219, .getfield 32, 3, [4, 6, 272], 0)],
  [(222, .iconst 0, 1, [], 0), (223, .bipush 60, 2, [], 60), (225, .invokevirtual 66, 3, [16, 4, 0, 398], 0), (228, .aload_n 0, 1, [], 0), (229, .getfield 38, 3, [4, 0, 266], 0), (232, .iload_n 1, 1, [], 0), (233, .bipush 60, 2, [], 60), (235, .iadd, 1, [], 0), (236, .aload_n 0, 1, [], 0), (237, .getfield 32, 3, [4, 6, 272], 0), (240, .bipush 60, 2, [], 60), (242, .iconst 4, 1, [], 4), (243, .invokevirtual 66, 3, [16, 4, 0, 398], 0), (246, .return_, 1, [], 0)]]
def rt_39 : List (List rI) := [[(0, .aload_n 0, 1, [], 0), (1, .getfield 42, 3, [4, 1, 267], 0), (4, .getfield 161, 3, [5, 5, 180], 0), (7, .aload_n 0, 1, [], 0), (8, .getfield 42, 3, [4, 1, 267], 0), (11, .getfield 58, 3, [5, 8, 188], 0), (14, .if_icmp .eq 7, 3, [9], 0), (17, .aload_n 0, 1, [], 0), (18, .invokevirtual 85, 3, [35, 0, 0, 491], 0), (21, .aload_n 0, 1, [], 0), (22, .getfield 42, 3, [4, 1, 267], 0), (25, .getfield 58, 3, [5, 8, 188], 0), (28, .istore_n 2, 1, [], 0), (29, .aload_n 0, 1, [], 0), (30, .getfield 42, 3, [4, 1, 267], 0), (33, .getfield 92, 3, [5, 7, 185], 0)],
  [(36, .istore_n 3, 1, [], 0), (37, .iconst 0, 1, [], 0), (38, .istore 4, 2, [], 0), (40, .iload 4, 2, [], 0), (42, .iload_n 1, 1, [], 0), (43, .if_icmp .ge 163, 3, [98], 0), (46, .iload_n 3, 1, [], 0), (47, .iload_n 2, 1, [], 0), (48, .if_icmp .ge 158, 3, [98], 0), (51, .aload_n 0, 1, [], 0), (52, .getfield 38, 3, [4, 0, 266], 0), (55, .getfield 46, 3, [1, 10, 103], 0), (58, .ifCond .ne 148, 3, [98], 0), (61, .aload_n 0, 1, [], 0), (62, .getfield 38, 3, [4, 0, 266], 0), (65, .iload_n 3, 1, [], 0)],
  [(66, .iconst 1, 1, [], 1), (67, .iadd, 1, [], 0), (68, .invokevirtual 205, 3, [11, 1, 0, 555], 0), (71, .istore 5, 2, [], 0), (73, .aload_n 0, 1, [], 0), (74, .getfield 38, 3, [4, 0, 266], 0), (77, .iload_n 3, 1, [], 0), (78, .invokevirtual 208, 3, [13, 1, 0, 556], 0), (81, .istore 6, 2, [], 0), (83, .aload_n 0, 1, [], 0), (84, .getfield 42, 3, [4, 1, 267], 0), (87, .iload 5, 2, [], 0), (89, .aload_n 0, 1, [], 0), (90, .getfield 12, 3, [4, 2, 268], 0), (93, .invokevirtual 211, 3, [50, 2, 0, 557], 0), (96, .aload_n 0, 1, [], 0)],
  [(97, .getfield 12, 3, [4, 2, 268], 0), (100, .getfield 215, 3, [3, 0, 234], 0), (103, .iconst 1, 1, [], 1), (104, .if_icmp .ne 91, 3, [92], 0), (107, .aload_n 0, 1, [], 0), (108, .getfield 12, 3, [4, 2, 268], 0), (111, .getfield 217, 3, [3, 2, 241], 0), (114, .iload_n 3, 1, [], 0), (115, .if_icmp .ne 80, 3, [92], 0), (118, .aload_n 0, 1, [], 0), (119, .getfield 42, 3, [4, 1, 267], 0), (122, .getfield 78, 3, [5, 1, 168], 0), (125, .iload 5, 2, [], 0), (127, .invokevirtual 219, 3, [23, 1, 0, 575], 0), (130, .ifCond .ne 18, 3, [69], 0), (133, .aload_n 0, 1, [], 0)],
  [(134, .getfield 42, 3, [4, 1, 267], 0), (137, .getfield 78, 3, [5, 1, 168], 0), (140, .getfield 137, 3, [2, 3, 155], 0), (143, .bipush 24, 2, [], 24), (145, .if_icmp .ge 7, 3, [71], 0), (148, .iconst 1, 1, [], 1), (149, .goto 4, 3, [72], 0), (152, .iconst 0, 1, [], 0), (153, .istore 7, 2, [], 0), (155, .iload 7, 2, [], 0), (157, .ifCond .eq 49, 3, [98], 0), (160, .aload_n 0, 1, [], 0), (161, .iload 6, 2, [], 0), (163, .invokevirtual 88, 3, [33, 1, 0, 547], 0), (166, .ifCond .ne 6, 3, [80], 0), (169, .goto 37, 3, [98], 0)],
  [(172, .aload_n 0, 1, [], 0), (173, .iconst 1, 1, [], 1), (174, .iload 5, 2, [], 0), (176, .aload_n 0, 1, [], 0), (177, .getfield 35, 3, [4, 7, 273], 0), (180, .aload_n 0, 1, [], 0), (181, .getfield 38, 3, [4, 0, 266], 0), (184, .iload_n 3, 1, [], 0), (185, .aload_n 0, 1, [], 0), (186, .getfield 35, 3, [4, 7, 273], 0), (189, .invokevirtual 222, 3, [14, 2, 0, 576], 0), (192, .invokevirtual 119, 3, [34, 4, 0, 581], 0), (195, .iload_n 3, 1, [], 0), (196, .iload 6, 2, [], 0), (198, .iadd, 1, [], 0), (199, .istore_n 3, 1, [], 0)],
  [(200, .iinc 4 1, 3, [], 1), (203, .goto (-163), 3, [19], 0), (206, .aload_n 0, 1, [], 0), (207, .getfield 38, 3, [4, 0, 266], 0), (210, .invokevirtual 70, 3, [17, 0, 0, 414], 0), (213, .aload_n 0, 1, [], 0), (214, .getfield 42, 3, [4, 1, 267], 0), (217, .iload_n 3, 1, [], 0), (218, .putfield 92, 3, [5, 7, 185], 0), (221, .iload 4, 2, [], 0), (223, .ifCond .le 14, 3, [112], 0), (226, .aload_n 0, 1, [], 0), (227, .invokevirtual 167, 3, [38, 0, 0, 542], 0), (230, .aload_n 0, 1, [], 0), (231, .getfield 38, 3, [4, 0, 266], 0), (234, .invokevirtual 70, 3, [17, 0, 0, 414], 0)],
  [(237, .iload 4, 2, [], 0), (239, .ireturn, 1, [], 0)]]
def rt_40 : List (List rI) := [[(0, .aload_n 0, 1, [], 0), (1, .iload_n 1, 1, [], 0), (2, .iload_n 2, 1, [], 0), (3, .bipush 24, 2, [], 24), (5, .iushr, 1, [], 0), (6, .i2b, 1, [], 0), (7, .bastore, 1, [], 0), (8, .aload_n 0, 1, [], 0), (9, .iload_n 1, 1, [], 0), (10, .iconst 1, 1, [], 1), (11, .iadd, 1, [], 0), (12, .iload_n 2, 1, [], 0), (13, .bipush 16, 2, [], 16), (15, .iushr, 1, [], 0), (16, .i2b, 1, [], 0), (17, .bastore, 1, [], 0)],
  [(18, .aload_n 0, 1, [], 0), (19, .iload_n 1, 1, [], 0), (20, .iconst 2, 1, [], 2), (21, .iadd, 1, [], 0), (22, .iload_n 2, 1, [], 0), (23, .bipush 8, 2, [], 8), (25, .iushr, 1, [], 0), (26, .i2b, 1, [], 0), (27, .bastore, 1, [], 0), (28, .aload_n 0, 1, [], 0), (29, .iload_n 1, 1, [], 0), (30, .iconst 3, 1, [], 3), (31, .iadd, 1, [], 0), (32, .iload_n 2, 1, [], 0), (33, .i2b, 1, [], 0), (34, .bastore, 1, [], 0)],
  [(35, .return_, 1, [], 0)]]
def rt_41 : List (List rI) := [[(0, .aload_n 0, 1, [], 0), (1, .invokespecial 3, 3, [0, 0, 12, 135], 0), (4, .aload_n 0, 1, [], 0), (5, .new 9, 3, [2, 136, 137, 62], 0), (8, .dup, 1, [], 0), (9, .invokespecial 11, 3, [21, 0, 3, 138], 0), (12, .putfield 12, 3, [5, 1, 167], 0), (15, .aload_n 0, 1, [], 0), (16, .bipush 6, 2, [], 6), (18, .newarray .int, 2, [0], 0), (20, .putfield 18, 3, [5, 2, 170], 0), (23, .aload_n 0, 1, [], 0), (24, .aload_n 1, 1, [], 0), (25, .putfield 22, 3, [5, 0, 166], 0), (28, .return_, 1, [], 0)]]
def rt_42 : List (List rI) := [[(0, .aload_n 0, 1, [], 0), (1, .invokevirtual 26, 3, [43, 0, 0, 338], 0), (4, .aload_n 0, 1, [], 0), (5, .getfield 12, 3, [5, 1, 167], 0), (8, .invokevirtual 29, 3, [22, 0, 0, 360], 0), (11, .aload_n 0, 1, [], 0), (12, .aload_n 0, 1, [], 0), (13, .getfield 32, 3, [5, 5, 179], 0), (16, .putfield 36, 3, [5, 8, 187], 0), (19, .aload_n 0, 1, [], 0), (20, .aload_n 0, 1, [], 0), (21, .getfield 39, 3, [5, 6, 182], 0), (24, .putfield 42, 3, [5, 9, 190], 0), (27, .aload_n 0, 1, [], 0), (28, .getfield 42, 3, [5, 9, 190], 0), (31, .istore_n 1, 1, [], 0)],
  [(32, .aload_n 0, 1, [], 0), (33, .getfield 36, 3, [5, 8, 187], 0), (36, .istore_n 2, 1, [], 0), (37, .aload_n 0, 1, [], 0), (38, .getfield 42, 3, [5, 9, 190], 0), (41, .istore_n 3, 1, [], 0), (42, .iconst 0, 1, [], 0), (43, .istore 4, 2, [], 0), (45, .iload 4, 2, [], 0), (47, .aload_n 0, 1, [], 0), (48, .getfield 22, 3, [5, 0, 166], 0), (51, .getfield 45, 3, [1, 0, 89], 0), (54, .if_icmp .ge 91, 3, [73], 0), (57, .aload_n 0, 1, [], 0), (58, .iload_n 2, 1, [], 0), (59, .iload_n 3, 1, [], 0)],
  [(60, .invokevirtual 50, 3, [45, 2, 0, 364], 0), (63, .ifCond .eq 82, 3, [73], 0), (66, .iload_n 2, 1, [], 0), (67, .aload_n 0, 1, [], 0), (68, .getfield 22, 3, [5, 0, 166], 0), (71, .iload_n 2, 1, [], 0), (72, .invokevirtual 54, 3, [13, 1, 0, 384], 0), (75, .iadd, 1, [], 0), (76, .istore 5, 2, [], 0), (78, .iload 5, 2, [], 0), (80, .aload_n 0, 1, [], 0), (81, .getfield 58, 3, [5, 7, 184], 0), (84, .isub, 1, [], 0), (85, .aload_n 0, 1, [], 0), (86, .getfield 22, 3, [5, 0, 166], 0), (89, .getfield 45, 3, [1, 0, 89], 0)],
  [(92, .bipush 12, 2, [], 12), (94, .isub, 1, [], 0), (95, .if_icmp .le 6, 3, [52], 0), (98, .goto 47, 3, [73], 0), (101, .aload_n 0, 1, [], 0), (102, .getfield 22, 3, [5, 0, 166], 0), (105, .iload_n 2, 1, [], 0), (106, .invokevirtual 61, 3, [11, 1, 0, 368], 0), (109, .sipush 128, 3, [], 128), (112, .iand, 1, [], 0), (113, .ifCond .eq 7, 3, [61], 0), (116, .iconst 1, 1, [], 1), (117, .goto 4, 3, [62], 0), (120, .iconst 0, 1, [], 0), (121, .istore 6, 2, [], 0), (123, .iload 5, 2, [], 0)],
  [(125, .istore_n 2, 1, [], 0), (126, .iinc 3 1, 3, [], 1), (129, .iload 6, 2, [], 0), (131, .ifCond .ne 8, 3, [71], 0), (134, .aload_n 0, 1, [], 0), (135, .iload_n 3, 1, [], 0), (136, .invokevirtual 64, 3, [46, 1, 0, 388], 0), (139, .iinc 4 12, 3, [], 12), (142, .goto (-97), 3, [24], 0), (145, .aload_n 0, 1, [], 0), (146, .getfield 42, 3, [5, 9, 190], 0), (149, .iload_n 1, 1, [], 0), (150, .isub, 1, [], 0), (151, .ireturn, 1, [], 0)]]
def rt_43 : List (List rI) := [[(0, .aload_n 0, 1, [], 0), (1, .iconst 0, 1, [], 0), (2, .putfield 68, 3, [5, 4, 176], 0), (5, .aload_n 0, 1, [], 0), (6, .iconst 0, 1, [], 0), (7, .putfield 32, 3, [5, 5, 179], 0), (10, .aload_n 0, 1, [], 0), (11, .iconst 0, 1, [], 0), (12, .putfield 58, 3, [5, 7, 184], 0), (15, .aload_n 0, 1, [], 0), (16, .iconst 1, 1, [], 1), (17, .putfield 39, 3, [5, 6, 182], 0), (20, .aload_n 0, 1, [], 0), (21, .iconst 1, 1, [], 1), (22, .putfield 71, 3, [5, 10, 193], 0), (25, .aload_n 0, 1, [], 0)],
  [(26, .iconst 0, 1, [], 0), (27, .putfield 74, 3, [5, 3, 173], 0), (30, .iconst 0, 1, [], 0), (31, .istore_n 1, 1, [], 0), (32, .iload_n 1, 1, [], 0), (33, .iconst 2, 1, [], 2), (34, .if_icmp .ge 55, 3, [50], 0), (37, .aload_n 0, 1, [], 0), (38, .getfield 22, 3, [5, 0, 166], 0), (41, .iload_n 1, 1, [], 0), (42, .invokevirtual 77, 3, [8, 1, 0, 342], 0), (45, .istore_n 2, 1, [], 0), (46, .aload_n 0, 1, [], 0), (47, .getfield 22, 3, [5, 0, 166], 0), (50, .iload_n 2, 1, [], 0), (51, .invokevirtual 80, 3, [10, 1, 0, 346], 0)],
  [(54, .istore_n 3, 1, [], 0), (55, .iload_n 3, 1, [], 0), (56, .aload_n 0, 1, [], 0), (57, .getfield 68, 3, [5, 4, 176], 0), (60, .if_icmp .le 23, 3, [48], 0), (63, .iload_n 3, 1, [], 0), (64, .aload_n 0, 1, [], 0), (65, .getfield 22, 3, [5, 0, 166], 0), (68, .iload_n 2, 1, [], 0), (69, .bipush 60, 2, [], 60), (71, .iadd, 1, [], 0), (72, .invokevirtual 80, 3, [10, 1, 0, 346], 0), (75, .if_icmp .ne 8, 3, [48], 0), (78, .aload_n 0, 1, [], 0), (79, .iload_n 2, 1, [], 0), (80, .invokevirtual 83, 3, [44, 1, 0, 354], 0)],
  [(83, .iinc 1 1, 3, [], 1), (86, .goto (-54), 3, [20], 0), (89, .return_, 1, [], 0)]]
def rt_44 : List (List rI) := [[(0, .aload_n 0, 1, [], 0), (1, .aload_n 0, 1, [], 0), (2, .getfield 22, 3, [5, 0, 166], 0), (5, .iload_n 1, 1, [], 0), (6, .invokevirtual 80, 3, [10, 1, 0, 346], 0), (9, .putfield 68, 3, [5, 4, 176], 0), (12, .aload_n 0, 1, [], 0), (13, .aload_n 0, 1, [], 0), (14, .getfield 22, 3, [5, 0, 166], 0), (17, .iload_n 1, 1, [], 0), (18, .iconst 4, 1, [], 4), (19, .iadd, 1, [], 0), (20, .invokevirtual 80, 3, [10, 1, 0, 346], 0), (23, .putfield 32, 3, [5, 5, 179], 0), (26, .aload_n 0, 1, [], 0), (27, .aload_n 0, 1, [], 0)],
  [(28, .getfield 22, 3, [5, 0, 166], 0), (31, .iload_n 1, 1, [], 0), (32, .bipush 8, 2, [], 8), (34, .iadd, 1, [], 0), (35, .invokevirtual 80, 3, [10, 1, 0, 346], 0), (38, .putfield 58, 3, [5, 7, 184], 0), (41, .aload_n 0, 1, [], 0), (42, .aload_n 0, 1, [], 0), (43, .getfield 22, 3, [5, 0, 166], 0), (46, .iload_n 1, 1, [], 0), (47, .bipush 12, 2, [], 12), (49, .iadd, 1, [], 0), (50, .invokevirtual 80, 3, [10, 1, 0, 346], 0), (53, .putfield 39, 3, [5, 6, 182], 0), (56, .aload_n 0, 1, [], 0), (57, .aload_n 0, 1, [], 0)],
  [(58, .getfield 22, 3, [5, 0, 166], 0), (61, .iload_n 1, 1, [], 0), (62, .bipush 16, 2, [], 16), (64, .iadd, 1, [], 0), (65, .invokevirtual 80, 3, [10, 1, 0, 346], 0), (68, .putfield 71, 3, [5, 10, 193], 0), (71, .aload_n 0, 1, [], 0), (72, .aload_n 0, 1, [], 0), (73, .getfield 22, 3, [5, 0, 166], 0), (76, .iload_n 1, 1, [], 0), (77, .bipush 20, 2, [], 20), (79, .iadd, 1, [], 0), (80, .invokevirtual 86, 3, [9, 1, 0, 358], 0), (83, .iconst 5, 1, [], 5), (84, .invokestatic 89, 3, [0, 2, 11, 359], 0), (87, .putfield 74, 3, [5, 3, 173], 0)],
  [(90, .iconst 0, 1, [], 0), (91, .istore_n 2, 1, [], 0), (92, .iload_n 2, 1, [], 0), (93, .aload_n 0, 1, [], 0), (94, .getfield 74, 3, [5, 3, 173], 0), (97, .if_icmp .ge 28, 3, [68], 0), (100, .aload_n 0, 1, [], 0), (101, .getfield 18, 3, [5, 2, 170], 0), (104, .iload_n 2, 1, [], 0), (105, .aload_n 0, 1, [], 0), (106, .getfield 22, 3, [5, 0, 166], 0), (109, .iload_n 1, 1, [], 0), (110, .bipush 21, 2, [], 21), (112, .iadd, 1, [], 0), (113, .iload_n 2, 1, [], 0), (114, .iadd, 1, [], 0)],
  [(115, .invokevirtual 86, 3, [9, 1, 0, 358], 0), (118, .iastore, 1, [], 0), (119, .iinc 2 1, 3, [], 1), (122, .goto (-30), 3, [50], 0), (125, .return_, 1, [], 0)]]
def rt_45 : List (List rI) := [[(0, .aload_n 0, 1, [], 0), (1, .getfield 22, 3, [5, 0, 166], 0), (4, .iload_n 1, 1, [], 0), (5, .invokevirtual 61, 3, [11, 1, 0, 368], 0), (8, .sipush (-129), 3, [], (-129)), (11, .iand, 1, [], 0), (12, .istore_n 3, 1, [], 0), (13, .aload_n 0, 1, [], 0), (14, .getfield 22, 3, [5, 0, 166], 0), (17, .iload_n 1, 1, [], 0), (18, .iconst 2, 1, [], 2), (19, .iadd, 1, [], 0), (20, .invokevirtual 61, 3, [11, 1, 0, 368], 0), (23, .istore 4, 2, [], 0), (25, .iload_n 3, 1, [], 0), (26, .iconst 1, 1, [], 1)],
  [(27, .if_icmp .ne 10, 3, [20], 0), (30, .iload 4, 2, [], 0), (32, .bipush 64, 2, [], 64), (34, .if_icmp .le 13, 3, [25], 0), (37, .iload_n 3, 1, [], 0), (38, .iconst 2, 1, [], 2), (39, .if_icmp .ne 12, 3, [27], 0), (42, .iload 4, 2, [], 0), (44, .ifCond .ne 7, 3, [27], 0), (47, .iconst 1, 1, [], 1), (48, .goto 4, 3, [28], 0), (51, .iconst 0, 1, [], 0), (52, .istore 5, 2, [], 0), (54, .iload 5, 2, [], 0), (56, .ifCond .eq 65, 3, [64], 0), (59, .aload_n 0, 1, [], 0)],
  [(60, .getfield 22, 3, [5, 0, 166], 0), (63, .iload_n 1, 1, [], 0), (64, .iconst 1, 1, [], 1), (65, .iadd, 1, [], 0), (66, .invokevirtual 61, 3, [11, 1, 0, 368], 0), (69, .invokestatic 95, 3, [79, 1, 2, 376], 0), (72, .ifCond .eq 49, 3, [64], 0), (75, .aload_n 0, 1, [], 0), (76, .getfield 22, 3, [5, 0, 166], 0), (79, .iload_n 1, 1, [], 0), (80, .iconst 3, 1, [], 3), (81, .iadd, 1, [], 0), (82, .invokevirtual 61, 3, [11, 1, 0, 368], 0), (85, .ifCond .ne 36, 3, [64], 0), (88, .aload_n 0, 1, [], 0), (89, .getfield 22, 3, [5, 0, 166], 0)],
  [(92, .iload_n 1, 1, [], 0), (93, .iconst 4, 1, [], 4), (94, .iadd, 1, [], 0), (95, .invokevirtual 99, 3, [12, 1, 0, 379], 0), (98, .iload_n 2, 1, [], 0), (99, .if_icmp .ne 22, 3, [64], 0), (102, .aload_n 0, 1, [], 0), (103, .getfield 22, 3, [5, 0, 166], 0), (106, .iload_n 1, 1, [], 0), (107, .bipush 8, 2, [], 8), (109, .iadd, 1, [], 0), (110, .invokevirtual 99, 3, [12, 1, 0, 379], 0), (113, .iload_n 2, 1, [], 0), (114, .if_icmp .ne 7, 3, [64], 0), (117, .iconst 1, 1, [], 1), (118, .goto 4, 3, [65], 0)],
  [(121, .iconst 0, 1, [], 0), (122, .ireturn, 1, [], 0)]]
def rt_46 : List (List rI) := [[(0, .aload_n 0, 1, [], 0), (1, .getfield 42, 3, [5, 9, 190], 0), (4, .istore_n 2, 1, [], 0), (5, .iload_n 2, 1, [], 0), (6, .iload_n 1, 1, [], 0), (7, .if_icmp .ge 71, 3, [40], 0), (10, .aload_n 0, 1, [], 0), (11, .getfield 22, 3, [5, 0, 166], 0), (14, .aload_n 0, 1, [], 0), (15, .getfield 36, 3, [5, 8, 187], 0), (18, .invokevirtual 61, 3, [11, 1, 0, 368], 0), (21, .sipush (-129), 3, [], (-129)), (24, .iand, 1, [], 0), (25, .istore_n 3, 1, [], 0), (26, .aload_n 0, 1, [], 0), (27, .getfield 12, 3, [5, 1, 167], 0)],
  [(30, .aload_n 0, 1, [], 0), (31, .getfield 22, 3, [5, 0, 166], 0), (34, .aload_n 0, 1, [], 0), (35, .getfield 36, 3, [5, 8, 187], 0), (38, .iconst 1, 1, [], 1), (39, .iadd, 1, [], 0), (40, .invokevirtual 61, 3, [11, 1, 0, 368], 0), (43, .iload_n 3, 1, [], 0), (44, .iload_n 2, 1, [], 0), (45, .aload_n 0, 1, [], 0), (46, .getfield 36, 3, [5, 8, 187], 0), (49, .invokevirtual 102, 3, [24, 4, 0, 392], 0), (52, .aload_n 0, 1, [], 0), (53, .dup, 1, [], 0), (54, .getfield 36, 3, [5, 8, 187], 0), (57, .aload_n 0, 1, [], 0)],
  [(58, .getfield 22, 3, [5, 0, 166], 0), (61, .aload_n 0, 1, [], 0), (62, .getfield 36, 3, [5, 8, 187], 0), (65, .invokevirtual 54, 3, [13, 1, 0, 384], 0), (68, .iadd, 1, [], 0), (69, .putfield 36, 3, [5, 8, 187], 0), (72, .iinc 2 1, 3, [], 1), (75, .goto (-70), 3, [3], 0), (78, .aload_n 0, 1, [], 0), (79, .iload_n 1, 1, [], 0), (80, .putfield 42, 3, [5, 9, 190], 0), (83, .return_, 1, [], 0)]]
def rt_47 : List (List rI) := [[(0, .aload_n 0, 1, [], 0), (1, .getfield 22, 3, [5, 0, 166], 0), (4, .aload_n 0, 1, [], 0), (5, .getfield 18, 3, [5, 2, 170], 0), (8, .iload_n 1, 1, [], 0), (9, .iaload, 1, [], 0), (10, .invokevirtual 106, 3, [7, 1, 0, 532], 0), (13, .ireturn, 1, [], 0)]]
def rt_48 : List (List rI) := [[(0, .iconst 0, 1, [], 0), (1, .istore_n 1, 1, [], 0), (2, .iconst 0, 1, [], 0), (3, .istore_n 2, 1, [], 0), (4, .iload_n 2, 1, [], 0), (5, .aload_n 0, 1, [], 0), (6, .getfield 74, 3, [5, 3, 173], 0), (9, .if_icmp .ge 20, 3, [19], 0), (12, .iload_n 1, 1, [], 0), (13, .iconst 1, 1, [], 1), (14, .aload_n 0, 1, [], 0), (15, .getfield 18, 3, [5, 2, 170], 0), (18, .iload_n 2, 1, [], 0), (19, .iaload, 1, [], 0), (20, .ishl, 1, [], 0), (21, .ior, 1, [], 0)],
  [(22, .istore_n 1, 1, [], 0), (23, .iinc 2 1, 3, [], 1), (26, .goto (-22), 3, [4], 0), (29, .iload_n 1, 1, [], 0), (30, .ireturn, 1, [], 0)]]
def rt_49 : List (List rI) := [[(0, .iconst 0, 1, [], 0), (1, .istore_n 2, 1, [], 0), (2, .iload_n 2, 1, [], 0), (3, .aload_n 0, 1, [], 0), (4, .getfield 74, 3, [5, 3, 173], 0), (7, .if_icmp .ge 27, 3, [18], 0), (10, .aload_n 0, 1, [], 0), (11, .getfield 22, 3, [5, 0, 166], 0), (14, .aload_n 0, 1, [], 0), (15, .iload_n 2, 1, [], 0), (16, .invokevirtual 109, 3, [47, 1, 0, 528], 0), (19, .iconst 1, 1, [], 1), (20, .iadd, 1, [], 0), (21, .invokevirtual 86, 3, [9, 1, 0, 358], 0), (24, .iload_n 1, 1, [], 0), (25, .if_icmp .gt 9, 3, [18], 0)],
  [(28, .iinc 2 1, 3, [], 1), (31, .goto (-29), 3, [2], 0), (34, .iload_n 2, 1, [], 0), (35, .ireturn, 1, [], 0)]]
def rt_50 : List (List rI) := [[(0, .aload_n 2, 1, [], 0), (1, .invokevirtual 112, 3, [28, 0, 0, 561], 0), (4, .aload_n 0, 1, [], 0), (5, .getfield 12, 3, [5, 1, 167], 0), (8, .iload_n 1, 1, [], 0), (9, .invokevirtual 115, 3, [23, 1, 0, 565], 0), (12, .ifCond .eq 50, 3, [32], 0), (15, .aload_n 2, 1, [], 0), (16, .aload_n 0, 1, [], 0), (17, .getfield 12, 3, [5, 1, 167], 0), (20, .getfield 118, 3, [2, 0, 144], 0), (23, .iload_n 1, 1, [], 0), (24, .iaload, 1, [], 0), (25, .putfield 121, 3, [3, 0, 233], 0), (28, .aload_n 2, 1, [], 0), (29, .aload_n 0, 1, [], 0)],
  [(30, .getfield 12, 3, [5, 1, 167], 0), (33, .getfield 123, 3, [2, 1, 148], 0), (36, .iload_n 1, 1, [], 0), (37, .iaload, 1, [], 0), (38, .putfield 126, 3, [3, 1, 236], 0), (41, .aload_n 2, 1, [], 0), (42, .aload_n 0, 1, [], 0), (43, .getfield 12, 3, [5, 1, 167], 0), (46, .getfield 128, 3, [2, 2, 152], 0), (49, .iload_n 1, 1, [], 0), (50, .iaload, 1, [], 0), (51, .putfield 131, 3, [3, 2, 240], 0), (54, .aload_n 2, 1, [], 0), (55, .iconst 1, 1, [], 1), (56, .putfield 133, 3, [3, 3, 243], 0), (59, .goto 16, 3, [39], 0)],
  [(62, .iload_n 1, 1, [], 0), (63, .invokestatic 95, 3, [79, 1, 2, 376], 0), (66, .ifCond .eq 9, 3, [39], 0), (69, .aload_n 0, 1, [], 0), (70, .iload_n 1, 1, [], 0), (71, .aload_n 2, 1, [], 0), (72, .invokevirtual 137, 3, [51, 2, 0, 566], 0), (75, .return_, 1, [], 0)]]
def rt_51 : List (List rI) := [[(0, .iload_n 1, 1, [], 0), (1, .invokestatic 141, 3, [53, 1, 1, 570], 0), (4, .istore_n 3, 1, [], 0), (5, .iconst 0, 1, [], 0), (6, .istore 4, 2, [], 0), (8, .iload 4, 2, [], 0), (10, .aload_n 0, 1, [], 0), (11, .getfield 74, 3, [5, 3, 173], 0), (14, .if_icmp .ge 126, 3, [73], 0), (17, .aload_n 2, 1, [], 0), (18, .getfield 121, 3, [3, 0, 233], 0), (21, .ifCond .ne 119, 3, [73], 0), (24, .aload_n 0, 1, [], 0), (25, .iload 4, 2, [], 0), (27, .invokevirtual 109, 3, [47, 1, 0, 528], 0), (30, .istore 5, 2, [], 0)],
  [(32, .aload_n 0, 1, [], 0), (33, .getfield 22, 3, [5, 0, 166], 0), (36, .iload 5, 2, [], 0), (38, .bipush 8, 2, [], 8), (40, .iadd, 1, [], 0), (41, .invokevirtual 80, 3, [10, 1, 0, 346], 0), (44, .iload_n 3, 1, [], 0), (45, .iand, 1, [], 0), (46, .iload_n 3, 1, [], 0), (47, .if_icmp .eq 16, 3, [33], 0), (50, .aload_n 2, 1, [], 0), (51, .dup, 1, [], 0), (52, .getfield 144, 3, [3, 5, 249], 0), (55, .iconst 1, 1, [], 1), (56, .iadd, 1, [], 0), (57, .putfield 144, 3, [3, 5, 249], 0)],
  [(60, .goto 74, 3, [71], 0), (63, .aload_n 2, 1, [], 0), (64, .dup, 1, [], 0), (65, .getfield 147, 3, [3, 4, 246], 0), (68, .iconst 1, 1, [], 1), (69, .iadd, 1, [], 0), (70, .putfield 147, 3, [3, 4, 246], 0), (73, .aload_n 0, 1, [], 0), (74, .iload 5, 2, [], 0), (76, .iload_n 1, 1, [], 0), (77, .invokevirtual 150, 3, [52, 2, 0, 571], 0), (80, .istore 6, 2, [], 0), (82, .iload 6, 2, [], 0), (84, .iconst (-1), 1, [], (-1)), (85, .if_icmp .eq 49, 3, [71], 0), (88, .aload_n 2, 1, [], 0)],
  [(89, .aload_n 0, 1, [], 0), (90, .getfield 22, 3, [5, 0, 166], 0), (93, .iload 6, 2, [], 0), (95, .iconst 1, 1, [], 1), (96, .iadd, 1, [], 0), (97, .invokevirtual 86, 3, [9, 1, 0, 358], 0), (100, .putfield 121, 3, [3, 0, 233], 0), (103, .aload_n 2, 1, [], 0), (104, .aload_n 0, 1, [], 0), (105, .getfield 22, 3, [5, 0, 166], 0), (108, .iload 6, 2, [], 0), (110, .iconst 2, 1, [], 2), (111, .iadd, 1, [], 0), (112, .invokevirtual 80, 3, [10, 1, 0, 346], 0), (115, .putfield 131, 3, [3, 2, 240], 0), (118, .aload_n 2, 1, [], 0)],
  [(119, .aload_n 0, 1, [], 0), (120, .getfield 22, 3, [5, 0, 166], 0), (123, .iload 6, 2, [], 0), (125, .bipush 6, 2, [], 6), (127, .iadd, 1, [], 0), (128, .invokevirtual 80, 3, [10, 1, 0, 346], 0), (131, .putfield 126, 3, [3, 1, 236], 0), (134, .iinc 4 1, 3, [], 1), (137, .goto (-129), 3, [5], 0), (140, .return_, 1, [], 0)]]
def rt_52 : List (List rI) := [[(0, .iconst 0, 1, [], 0), (1, .istore_n 3, 1, [], 0), (2, .aload_n 0, 1, [], 0), (3, .getfield 22, 3, [5, 0, 166], 0), (6, .iload_n 1, 1, [], 0), (7, .iconst 2, 1, [], 2), (8, .iadd, 1, [], 0), (9, .invokevirtual 86, 3, [9, 1, 0, 358], 0), (12, .iconst 1, 1, [], 1), (13, .isub, 1, [], 0), (14, .istore 4, 2, [], 0), (16, .iconst 0, 1, [], 0), (17, .istore 5, 2, [], 0), (19, .iload 5, 2, [], 0), (21, .bipush 120, 2, [], 120), (23, .if_icmp .ge 75, 3, [57], 0)],
  [(26, .iload_n 3, 1, [], 0), (27, .iload 4, 2, [], 0), (29, .if_icmp .gt 69, 3, [57], 0), (32, .iload_n 3, 1, [], 0), (33, .iload 4, 2, [], 0), (35, .iadd, 1, [], 0), (36, .iconst 2, 1, [], 2), (37, .idiv, 1, [], 0), (38, .istore 6, 2, [], 0), (40, .iload_n 1, 1, [], 0), (41, .bipush 16, 2, [], 16), (43, .iadd, 1, [], 0), (44, .bipush 10, 2, [], 10), (46, .iload 6, 2, [], 0), (48, .imul, 1, [], 0), (49, .iadd, 1, [], 0)],
  [(50, .istore 7, 2, [], 0), (52, .aload_n 0, 1, [], 0), (53, .getfield 22, 3, [5, 0, 166], 0), (56, .iload 7, 2, [], 0), (58, .invokevirtual 86, 3, [9, 1, 0, 358], 0), (61, .istore 8, 2, [], 0), (63, .iload 8, 2, [], 0), (65, .iload_n 2, 1, [], 0), (66, .if_icmp .ne 6, 3, [43], 0), (69, .iload 7, 2, [], 0), (71, .ireturn, 1, [], 0), (72, .iload 8, 2, [], 0), (74, .iload_n 2, 1, [], 0), (75, .if_icmp .ge 11, 3, [51], 0), (78, .iload 6, 2, [], 0), (80, .iconst 1, 1, [], 1)],
  [(81, .iadd, 1, [], 0), (82, .istore_n 3, 1, [], 0), (83, .goto 9, 3, [55], 0), (86, .iload 6, 2, [], 0), (88, .iconst 1, 1, [], 1), (89, .isub, 1, [], 0), (90, .istore 4, 2, [], 0), (92, .iinc 5 1, 3, [], 1), (95, .goto (-76), 3, [13], 0), (98, .iconst (-1), 1, [], (-1)), (99, .ireturn, 1, [], 0)]]
def rt_53 : List (List rI) := [[(0, .iconst 1, 1, [], 1), (1, .bipush 7, 2, [], 7), (3, .iload_n 0, 1, [], 0), (4, .imul, 1, [], 0), (5, .bipush 32, 2, [], 32), (7, .irem, 1, [], 0), (8, .ishl, 1, [], 0), (9, .iconst 1, 1, [], 1), (10, .bipush 11, 2, [], 11), (12, .iload_n 0, 1, [], 0), (13, .imul, 1, [], 0), (14, .iconst 5, 1, [], 5), (15, .iadd, 1, [], 0), (16, .bipush 32, 2, [], 32), (18, .irem, 1, [], 0), (19, .ishl, 1, [], 0)],
  [(20, .ior, 1, [], 0), (21, .ireturn, 1, [], 0)]]
def rt_54 : List (List rI) := [[(0, .aload_n 0, 1, [], 0), (1, .aload_n 0, 1, [], 0), (2, .getfield 74, 3, [5, 3, 173], 0), (5, .aload_n 1, 1, [], 0), (6, .invokevirtual 153, 3, [55, 2, 0, 644], 0), (9, .iconst 0, 1, [], 0), (10, .istore_n 2, 1, [], 0), (11, .iload_n 2, 1, [], 0), (12, .bipush 120, 2, [], 120), (14, .if_icmp .ge 53, 3, [36], 0), (17, .aload_n 0, 1, [], 0), (18, .getfield 12, 3, [5, 1, 167], 0), (21, .getfield 118, 3, [2, 0, 144], 0), (24, .iload_n 2, 1, [], 0), (25, .iaload, 1, [], 0), (26, .ifCond .eq 35, 3, [34], 0)],
  [(29, .aload_n 1, 1, [], 0), (30, .iload_n 2, 1, [], 0), (31, .aload_n 0, 1, [], 0), (32, .getfield 12, 3, [5, 1, 167], 0), (35, .getfield 118, 3, [2, 0, 144], 0), (38, .iload_n 2, 1, [], 0), (39, .iaload, 1, [], 0), (40, .aload_n 0, 1, [], 0), (41, .getfield 12, 3, [5, 1, 167], 0), (44, .getfield 123, 3, [2, 1, 148], 0), (47, .iload_n 2, 1, [], 0), (48, .iaload, 1, [], 0), (49, .aload_n 0, 1, [], 0), (50, .getfield 12, 3, [5, 1, 167], 0), (53, .getfield 128, 3, [2, 2, 152], 0), (56, .iload_n 2, 1, [], 0)],
  [(57, .iaload, 1, [], 0), (58, .invokevirtual 102, 3, [24, 4, 0, 392], 0), (61, .iinc 2 1, 3, [], 1), (64, .goto (-53), 3, [7], 0), (67, .return_, 1, [], 0)]]
def rt_55 : List (List rI) := [[(0, .aload_n 2, 1, [], 0), (1, .invokevirtual 29, 3, [22, 0, 0, 360], 0), (4, .iload_n 1, 1, [], 0), (5, .iconst 1, 1, [], 1), (6, .isub, 1, [], 0), (7, .istore_n 3, 1, [], 0), (8, .iload_n 3, 1, [], 0), (9, .ifCond .lt 105, 3, [60], 0), (12, .aload_n 0, 1, [], 0), (13, .iload_n 3, 1, [], 0), (14, .invokevirtual 109, 3, [47, 1, 0, 528], 0), (17, .istore 4, 2, [], 0), (19, .aload_n 0, 1, [], 0), (20, .getfield 22, 3, [5, 0, 166], 0), (23, .iload 4, 2, [], 0), (25, .iconst 2, 1, [], 2)],
  [(26, .iadd, 1, [], 0), (27, .invokevirtual 86, 3, [9, 1, 0, 358], 0), (30, .istore 5, 2, [], 0), (32, .iconst 0, 1, [], 0), (33, .istore 6, 2, [], 0), (35, .iload 6, 2, [], 0), (37, .iload 5, 2, [], 0), (39, .if_icmp .ge 69, 3, [58], 0), (42, .iload 4, 2, [], 0), (44, .bipush 16, 2, [], 16), (46, .iadd, 1, [], 0), (47, .bipush 10, 2, [], 10), (49, .iload 6, 2, [], 0), (51, .imul, 1, [], 0), (52, .iadd, 1, [], 0), (53, .istore 7, 2, [], 0)],
  [(55, .aload_n 2, 1, [], 0), (56, .aload_n 0, 1, [], 0), (57, .getfield 22, 3, [5, 0, 166], 0), (60, .iload 7, 2, [], 0), (62, .invokevirtual 86, 3, [9, 1, 0, 358], 0), (65, .aload_n 0, 1, [], 0), (66, .getfield 22, 3, [5, 0, 166], 0), (69, .iload 7, 2, [], 0), (71, .iconst 1, 1, [], 1), (72, .iadd, 1, [], 0), (73, .invokevirtual 86, 3, [9, 1, 0, 358], 0), (76, .aload_n 0, 1, [], 0), (77, .getfield 22, 3, [5, 0, 166], 0), (80, .iload 7, 2, [], 0), (82, .bipush 6, 2, [], 6), (84, .iadd, 1, [], 0)],
  [(85, .invokevirtual 80, 3, [10, 1, 0, 346], 0), (88, .aload_n 0, 1, [], 0), (89, .getfield 22, 3, [5, 0, 166], 0), (92, .iload 7, 2, [], 0), (94, .iconst 2, 1, [], 2), (95, .iadd, 1, [], 0), (96, .invokevirtual 80, 3, [10, 1, 0, 346], 0), (99, .invokevirtual 102, 3, [24, 4, 0, 392], 0), (102, .iinc 6 1, 3, [], 1), (105, .goto (-70), 3, [21], 0), (108, .iinc 3 (-1), 3, [], (-1)), (111, .goto (-103), 3, [6], 0), (114, .return_, 1, [], 0)]]
def rt_56 : List (List rI) := [[(0, .aload_n 0, 1, [], 0), (1, .getfield 74, 3, [5, 3, 173], 0), (4, .iload_n 1, 1, [], 0), (5, .isub, 1, [], 0), (6, .istore 4, 2, [], 0), (8, .iload_n 2, 1, [], 0), (9, .ifCond .eq 7, 3, [9], 0), (12, .iconst 1, 1, [], 1), (13, .goto 4, 3, [10], 0), (16, .iconst 0, 1, [], 0), (17, .istore 5, 2, [], 0), (19, .iload 4, 2, [], 0), (21, .ifCond .lt 16, 3, [20], 0), (24, .iload 5, 2, [], 0), (26, .iload 4, 2, [], 0), (28, .iadd, 1, [], 0)],
  [(29, .aload_n 0, 1, [], 0), (30, .getfield 18, 3, [5, 2, 170], 0), (33, .arraylength, 1, [], 0), (34, .if_icmp .le 4, 3, [21], 0), (37, .return_, 1, [], 0), (38, .aload_n 0, 1, [], 0), (39, .getfield 18, 3, [5, 2, 170], 0), (42, .iload_n 1, 1, [], 0), (43, .aload_n 0, 1, [], 0), (44, .getfield 18, 3, [5, 2, 170], 0), (47, .iload 5, 2, [], 0), (49, .iload 4, 2, [], 0), (51, .invokestatic 157, 3, [0, 5, 13, 507], 0), (54, .iload_n 2, 1, [], 0), (55, .ifCond .eq 10, 3, [36], 0), (58, .aload_n 0, 1, [], 0)],
  [(59, .getfield 18, 3, [5, 2, 170], 0), (62, .iconst 0, 1, [], 0), (63, .iload_n 3, 1, [], 0), (64, .iastore, 1, [], 0), (65, .aload_n 0, 1, [], 0), (66, .iload 5, 2, [], 0), (68, .iload 4, 2, [], 0), (70, .iadd, 1, [], 0), (71, .putfield 74, 3, [5, 3, 173], 0), (74, .return_, 1, [], 0)]]
def rt_57 : List (List rI) := [[(0, .aload_n 0, 1, [], 0), (1, .invokespecial 1, 3, [0, 0, 12, 73], 0), (4, .aload_n 0, 1, [], 0), (5, .new 7, 3, [1, 76, 77, 59], 0), (8, .dup, 1, [], 0), (9, .sipush 512, 3, [], 512), (12, .sipush 4096, 3, [], 4096), (15, .iload_n 1, 1, [], 0), (16, .invokestatic 11, 3, [0, 2, 11, 78], 0), (19, .invokestatic 17, 3, [0, 2, 10, 81], 0), (22, .invokespecial 20, 3, [4, 1, 3, 84], 0), (25, .putfield 23, 3, [6, 0, 415], 0), (28, .aload_n 0, 1, [], 0), (29, .new 27, 3, [5, 130, 131, 61], 0), (32, .dup, 1, [], 0), (33, .aload_n 0, 1, [], 0)],
  [(34, .getfield 23, 3, [6, 0, 415], 0), (37, .invokespecial 29, 3, [41, 1, 3, 132], 0), (40, .putfield 32, 3, [6, 1, 416], 0), (43, .aload_n 0, 1, [], 0), (44, .new 36, 3, [4, 219, 220, 63], 0), (47, .dup, 1, [], 0), (48, .aload_n 0, 1, [], 0), (49, .getfield 23, 3, [6, 0, 415], 0), (52, .aload_n 0, 1, [], 0), (53, .getfield 32, 3, [6, 1, 416], 0), (56, .invokespecial 38, 3, [29, 2, 3, 221], 0), (59, .putfield 41, 3, [6, 2, 417], 0), (62, .aload_n 0, 1, [], 0), (63, .new 27, 3, [5, 130, 131, 61], 0), (66, .dup, 1, [], 0), (67, .aload_n 0, 1, [], 0)],
  [(68, .getfield 23, 3, [6, 0, 415], 0), (71, .invokespecial 29, 3, [41, 1, 3, 132], 0), (74, .putfield 45, 3, [6, 3, 418], 0), (77, .aload_n 0, 1, [], 0), (78, .new 48, 3, [2, 294, 137, 62], 0), (81, .dup, 1, [], 0), (82, .invokespecial 50, 3, [21, 0, 3, 295], 0), (85, .putfield 51, 3, [6, 4, 419], 0), (88, .aload_n 0, 1, [], 0), (89, .new 48, 3, [2, 294, 137, 62], 0), (92, .dup, 1, [], 0), (93, .invokespecial 50, 3, [21, 0, 3, 295], 0), (96, .putfield 55, 3, [6, 5, 420], 0), (99, .aload_n 0, 1, [], 0), (100, .new 58, 3, [0, 296, 297, 65], 0), (103, .dup, 1, [], 0)],
  [(104, .invokespecial 60, 3, [0, 0, 3, 298], 0), (107, .putfield 61, 3, [6, 6, 421], 0), (110, .aload_n 0, 1, [], 0), (111, .bipush 64, 2, [], 64), (113, .newarray .byte, 2, [1], 0), (115, .putfield 65, 3, [6, 8, 423], 0), (118, .aload_n 0, 1, [], 0), (119, .bipush 64, 2, [], 64), (121, .newarray .byte, 2, [1], 0), (123, .putfield 69, 3, [6, 10, 425], 0), (126, .aload_n 0, 1, [], 0), (127, .new 72, 3, [3, 328, 226, 64], 0), (130, .dup, 1, [], 0), (131, .invokespecial 74, 3, [27, 0, 3, 329], 0), (134, .putfield 75, 3, [6, 12, 427], 0), (137, .aload_n 0, 1, [], 0)],
  [(138, .new 72, 3, [3, 328, 226, 64], 0), (141, .dup, 1, [], 0), (142, .invokespecial 74, 3, [27, 0, 3, 329], 0), (145, .putfield 79, 3, [6, 13, 428], 0), (148, .aload_n 0, 1, [], 0), (149, .getfield 41, 3, [6, 2, 417], 0), (152, .invokevirtual 82, 3, [30, 0, 0, 330], 0), (155, .pop, 1, [], 0), (156, .return_, 1, [], 0)]]
def rt_58 : List (List rI) := [[(0, .aload_n 0, 1, [], 0), (1, .getfield 23, 3, [6, 0, 415], 0), (4, .getfield 86, 3, [1, 10, 102], 0), (7, .ifCond .eq 6, 3, [6], 0), (10, .bipush (-2), 2, [], (-2)), (12, .ireturn, 1, [], 0), (13, .iload_n 3, 1, [], 0), (14, .iconst 1, 1, [], 1), (15, .if_icmp .lt 20, 3, [18], 0), (18, .iload_n 3, 1, [], 0), (19, .bipush 8, 2, [], 8), (21, .if_icmp .gt 14, 3, [18], 0), (24, .aload_n 0, 1, [], 0), (25, .getfield 90, 3, [6, 9, 424], 0), (28, .iload_n 3, 1, [], 0), (29, .iadd, 1, [], 0)],
  [(30, .bipush 64, 2, [], 64), (32, .if_icmp .le 5, 3, [20], 0), (35, .iconst (-1), 1, [], (-1)), (36, .ireturn, 1, [], 0), (37, .iload_n 3, 1, [], 0), (38, .iconst 1, 1, [], 1), (39, .isub, 1, [], 0), (40, .istore 4, 2, [], 0), (42, .iload 4, 2, [], 0), (44, .ifCond .lt 37, 3, [46], 0), (47, .aload_n 0, 1, [], 0), (48, .getfield 65, 3, [6, 8, 423], 0), (51, .aload_n 0, 1, [], 0), (52, .getfield 90, 3, [6, 9, 424], 0), (55, .lload_n 1, 1, [], 0), (56, .bipush 8, 2, [], 8)],
  [(58, .iload 4, 2, [], 0), (60, .imul, 1, [], 0), (61, .lushr, 1, [], 0), (62, .l2i, 1, [], 0), (63, .i2b, 1, [], 0), (64, .bastore, 1, [], 0), (65, .aload_n 0, 1, [], 0), (66, .dup, 1, [], 0), (67, .getfield 90, 3, [6, 9, 424], 0), (70, .iconst 1, 1, [], 1), (71, .iadd, 1, [], 0), (72, .putfield 90, 3, [6, 9, 424], 0), (75, .iinc 4 (-1), 3, [], (-1)), (78, .goto (-36), 3, [24], 0), (81, .aload_n 0, 1, [], 0), (82, .getfield 90, 3, [6, 9, 424], 0)],
  [(85, .ireturn, 1, [], 0)]]
def rt_59 : List (List rI) := [[(0, .aload_n 0, 1, [], 0), (1, .getfield 23, 3, [6, 0, 415], 0), (4, .getfield 86, 3, [1, 10, 102], 0), (7, .ifCond .eq 6, 3, [6], 0), (10, .bipush (-2), 2, [], (-2)), (12, .ireturn, 1, [], 0), (13, .iload_n 1, 1, [], 0), (14, .invokestatic 94, 3, [79, 1, 1, 466], 0), (17, .ifCond .eq 15, 3, [14], 0), (20, .aload_n 0, 1, [], 0), (21, .getfield 61, 3, [6, 6, 421], 0), (24, .getfield 98, 3, [0, 4, 314], 0), (27, .bipush 8, 2, [], 8), (29, .if_icmp .ne 5, 3, [16], 0), (32, .iconst (-1), 1, [], (-1)), (33, .ireturn, 1, [], 0)],
  [(34, .aload_n 0, 1, [], 0), (35, .getfield 61, 3, [6, 6, 421], 0), (38, .iconst 1, 1, [], 1), (39, .iload_n 1, 1, [], 0), (40, .aload_n 0, 1, [], 0), (41, .getfield 65, 3, [6, 8, 423], 0), (44, .aload_n 0, 1, [], 0), (45, .getfield 90, 3, [6, 9, 424], 0), (48, .invokevirtual 101, 3, [1, 4, 0, 467], 0), (51, .aload_n 0, 1, [], 0), (52, .iconst 0, 1, [], 0), (53, .putfield 90, 3, [6, 9, 424], 0), (56, .aload_n 0, 1, [], 0), (57, .getfield 105, 3, [6, 7, 422], 0), (60, .ifCond .eq 13, 3, [35], 0), (63, .aload_n 0, 1, [], 0)],
  [(64, .getfield 61, 3, [6, 6, 421], 0), (67, .getfield 98, 3, [0, 4, 314], 0), (70, .goto 18, 3, [42], 0), (73, .aload_n 0, 1, [], 0), (74, .aload_n 0, 1, [], 0), (75, .getfield 41, 3, [6, 2, 417], 0), (78, .aload_n 0, 1, [], 0), (79, .getfield 61, 3, [6, 6, 421], 0), (82, .invokevirtual 108, 3, [31, 1, 0, 471], 0), (85, .invokevirtual 112, 3, [85, 1, 0, 590], 0), (88, .ireturn, 1, [], 0)]]
def rt_60 : List (List rI) := [[(0, .aload_n 0, 1, [], 0), (1, .getfield 23, 3, [6, 0, 415], 0), (4, .getfield 86, 3, [1, 10, 102], 0), (7, .ifCond .eq 6, 3, [6], 0), (10, .bipush (-2), 2, [], (-2)), (12, .ireturn, 1, [], 0), (13, .iload_n 1, 1, [], 0), (14, .invokestatic 94, 3, [79, 1, 1, 466], 0), (17, .ifCond .eq 15, 3, [14], 0), (20, .aload_n 0, 1, [], 0), (21, .getfield 61, 3, [6, 6, 421], 0), (24, .getfield 98, 3, [0, 4, 314], 0), (27, .bipush 8, 2, [], 8), (29, .if_icmp .ne 5, 3, [16], 0), (32, .iconst (-1), 1, [], (-1)), (33, .ireturn, 1, [], 0)],
  [(34, .aload_n 0, 1, [], 0), (35, .getfield 105, 3, [6, 7, 422], 0), (38, .ifCond .ne 13, 3, [25], 0), (41, .aload_n 0, 1, [], 0), (42, .iload_n 1, 1, [], 0), (43, .invokevirtual 116, 3, [80, 1, 0, 610], 0), (46, .ifCond .ne 5, 3, [25], 0), (49, .iconst 0, 1, [], 0), (50, .ireturn, 1, [], 0), (51, .aload_n 0, 1, [], 0), (52, .getfield 61, 3, [6, 6, 421], 0), (55, .iconst 2, 1, [], 2), (56, .iload_n 1, 1, [], 0), (57, .aload_n 0, 1, [], 0), (58, .getfield 65, 3, [6, 8, 423], 0), (61, .iconst 0, 1, [], 0)],
  [(62, .invokevirtual 101, 3, [1, 4, 0, 467], 0), (65, .aload_n 0, 1, [], 0), (66, .getfield 105, 3, [6, 7, 422], 0), (69, .ifCond .eq 13, 3, [40], 0), (72, .aload_n 0, 1, [], 0), (73, .getfield 61, 3, [6, 6, 421], 0), (76, .getfield 98, 3, [0, 4, 314], 0), (79, .goto 18, 3, [47], 0), (82, .aload_n 0, 1, [], 0), (83, .aload_n 0, 1, [], 0), (84, .getfield 41, 3, [6, 2, 417], 0), (87, .aload_n 0, 1, [], 0), (88, .getfield 61, 3, [6, 6, 421], 0), (91, .invokevirtual 108, 3, [31, 1, 0, 471], 0), (94, .invokevirtual 112, 3, [85, 1, 0, 590], 0), (97, .ireturn, 1, [], 0)]]
def rt_61 : List (List rI) := [[(0, .aload_n 0, 1, [], 0), (1, .getfield 23, 3, [6, 0, 415], 0), (4, .getfield 86, 3, [1, 10, 102], 0), (7, .ifCond .eq 6, 3, [6], 0), (10, .bipush (-2), 2, [], (-2)), (12, .ireturn, 1, [], 0), (13, .aload_n 0, 1, [], 0), (14, .getfield 105, 3, [6, 7, 422], 0), (17, .ifCond .eq 5, 3, [11], 0), (20, .iconst 0, 1, [], 0), (21, .ireturn, 1, [], 0), (22, .aload_n 0, 1, [], 0), (23, .iconst 1, 1, [], 1), (24, .putfield 105, 3, [6, 7, 422], 0), (27, .iconst 1, 1, [], 1), (28, .ireturn, 1, [], 0)]]
def rt_62 : List (List rI) := [[(0, .aload_n 0, 1, [], 0), (1, .getfield 23, 3, [6, 0, 415], 0), (4, .getfield 86, 3, [1, 10, 102], 0), (7, .ifCond .eq 6, 3, [6], 0), (10, .bipush (-2), 2, [], (-2)), (12, .ireturn, 1, [], 0), (13, .aload_n 0, 1, [], 0), (14, .getfield 61, 3, [6, 6, 421], 0), (17, .getfield 98, 3, [0, 4, 314], 0), (20, .ifCond .ne 9, 3, [14], 0), (23, .aload_n 0, 1, [], 0), (24, .iconst (-1), 1, [], (-1)), (25, .invokevirtual 112, 3, [85, 1, 0, 590], 0), (28, .ireturn, 1, [], 0), (29, .aload_n 0, 1, [], 0), (30, .aload_n 0, 1, [], 0)],
  [(31, .getfield 41, 3, [6, 2, 417], 0), (34, .aload_n 0, 1, [], 0), (35, .getfield 61, 3, [6, 6, 421], 0), (38, .invokevirtual 108, 3, [31, 1, 0, 471], 0), (41, .invokevirtual 112, 3, [85, 1, 0, 590], 0), (44, .ireturn, 1, [], 0)]]
def rt_63 : List (List rI) := [[(0, .aload_n 0, 1, [], 0), (1, .getfield 23, 3, [6, 0, 415], 0), (4, .getfield 86, 3, [1, 10, 102], 0), (7, .ifCond .eq 6, 3, [6], 0), (10, .bipush (-2), 2, [], (-2)), (12, .ireturn, 1, [], 0), (13, .aload_n 0, 1, [], 0), (14, .aload_n 0, 1, [], 0), (15, .getfield 105, 3, [6, 7, 422], 0), (18, .ifCond .eq 13, 3, [14], 0), (21, .aload_n 0, 1, [], 0), (22, .getfield 61, 3, [6, 6, 421], 0), (25, .getfield 98, 3, [0, 4, 314], 0), (28, .goto 4, 3, [15], 0), (31, .iconst (-1), 1, [], (-1)), (32, .invokevirtual 112, 3, [85, 1, 0, 590], 0)],
  [(35, .ireturn, 1, [], 0)]]
def rt_64 : List (List rI) := [[(0, .aload_n 0, 1, [], 0), (1, .getfield 23, 3, [6, 0, 415], 0), (4, .getfield 86, 3, [1, 10, 102], 0), (7, .ifCond .eq 6, 3, [6], 0), (10, .bipush (-2), 2, [], (-2)), (12, .ireturn, 1, [], 0), (13, .aload_n 0, 1, [], 0), (14, .iconst 0, 1, [], 0), (15, .putfield 119, 3, [6, 11, 426], 0), (18, .aload_n 0, 1, [], 0), (19, .getfield 32, 3, [6, 1, 416], 0), (22, .iload_n 1, 1, [], 0), (23, .aload_n 0, 1, [], 0), (24, .getfield 75, 3, [6, 12, 427], 0), (27, .invokevirtual 122, 3, [50, 2, 0, 614], 0), (30, .aload_n 0, 1, [], 0)],
  [(31, .getfield 75, 3, [6, 12, 427], 0), (34, .getfield 126, 3, [3, 0, 232], 0), (37, .iconst 1, 1, [], 1), (38, .if_icmp .eq 5, 3, [22], 0), (41, .iconst (-1), 1, [], (-1)), (42, .ireturn, 1, [], 0), (43, .aload_n 0, 1, [], 0), (44, .aload_n 0, 1, [], 0), (45, .getfield 23, 3, [6, 0, 415], 0), (48, .aload_n 0, 1, [], 0), (49, .getfield 75, 3, [6, 12, 427], 0), (52, .getfield 129, 3, [3, 2, 239], 0), (55, .aload_n 0, 1, [], 0), (56, .getfield 69, 3, [6, 10, 425], 0), (59, .invokevirtual 132, 3, [14, 2, 0, 631], 0), (62, .putfield 119, 3, [6, 11, 426], 0)],
  [(65, .aload_n 0, 1, [], 0), (66, .getfield 119, 3, [6, 11, 426], 0), (69, .ireturn, 1, [], 0)]]
def rt_65 : List (List rI) := [[(0, .iload_n 1, 1, [], 0), (1, .ifCond .lt 11, 3, [6], 0), (4, .iload_n 1, 1, [], 0), (5, .aload_n 0, 1, [], 0), (6, .getfield 119, 3, [6, 11, 426], 0), (9, .if_icmp .lt 7, 3, [8], 0), (12, .iconst (-1), 1, [], (-1)), (13, .goto 13, 3, [14], 0), (16, .aload_n 0, 1, [], 0), (17, .getfield 69, 3, [6, 10, 425], 0), (20, .iload_n 1, 1, [], 0), (21, .baload, 1, [], 0), (22, .sipush 255, 3, [], 255), (25, .iand, 1, [], 0), (26, .ireturn, 1, [], 0)]]
def rt_66 : List (List rI) := [[(0, .aload_n 0, 1, [], 0), (1, .getfield 23, 3, [6, 0, 415], 0), (4, .getfield 86, 3, [1, 10, 102], 0), (7, .ifCond .eq 6, 3, [6], 0), (10, .bipush (-2), 2, [], (-2)), (12, .ireturn, 1, [], 0), (13, .aload_n 0, 1, [], 0), (14, .getfield 32, 3, [6, 1, 416], 0), (17, .aload_n 0, 1, [], 0), (18, .getfield 51, 3, [6, 4, 419], 0), (21, .invokevirtual 136, 3, [54, 1, 0, 640], 0), (24, .iload_n 1, 1, [], 0), (25, .iconst 0, 1, [], 0), (26, .invokestatic 17, 3, [0, 2, 10, 81], 0), (29, .istore_n 2, 1, [], 0), (30, .iload_n 2, 1, [], 0)],
  [(31, .bipush 120, 2, [], 120), (33, .if_icmp .ge 24, 3, [29], 0), (36, .aload_n 0, 1, [], 0), (37, .getfield 51, 3, [6, 4, 419], 0), (40, .getfield 140, 3, [2, 0, 145], 0), (43, .iload_n 2, 1, [], 0), (44, .iaload, 1, [], 0), (45, .iconst 1, 1, [], 1), (46, .if_icmp .ne 5, 3, [27], 0), (49, .iload_n 2, 1, [], 0), (50, .ireturn, 1, [], 0), (51, .iinc 2 1, 3, [], 1), (54, .goto (-24), 3, [15], 0), (57, .iconst (-1), 1, [], (-1)), (58, .ireturn, 1, [], 0)]]
def rt_67 : List (List rI) := [[(0, .aload_n 0, 1, [], 0), (1, .getfield 23, 3, [6, 0, 415], 0), (4, .getfield 86, 3, [1, 10, 102], 0), (7, .ifCond .eq 6, 3, [6], 0), (10, .bipush (-2), 2, [], (-2)), (12, .ireturn, 1, [], 0), (13, .aload_n 0, 1, [], 0), (14, .getfield 23, 3, [6, 0, 415], 0), (17, .getfield 143, 3, [1, 6, 96], 0), (20, .istore_n 1, 1, [], 0), (21, .aload_n 0, 1, [], 0), (22, .getfield 23, 3, [6, 0, 415], 0), (25, .invokevirtual 146, 3, [17, 0, 0, 649], 0), (28, .iload_n 1, 1, [], 0), (29, .ireturn, 1, [], 0)]]
def rt_68 : List (List rI) := [[(0, .aload_n 0, 1, [], 0), (1, .getfield 23, 3, [6, 0, 415], 0), (4, .getfield 86, 3, [1, 10, 102], 0), (7, .ifCond .eq 6, 3, [6], 0), (10, .bipush (-2), 2, [], (-2)), (12, .ireturn, 1, [], 0), (13, .aload_n 0, 1, [], 0), (14, .getfield 41, 3, [6, 2, 417], 0), (17, .invokevirtual 149, 3, [35, 0, 0, 654], 0), (20, .aload_n 0, 1, [], 0), (21, .aload_n 0, 1, [], 0), (22, .getfield 32, 3, [6, 1, 416], 0), (25, .getfield 152, 3, [5, 3, 175], 0), (28, .invokevirtual 155, 3, [86, 1, 0, 594], 0), (31, .ireturn, 1, [], 0)]]
def rt_69 : List (List rI) := [[(0, .aload_n 0, 1, [], 0), (1, .getfield 23, 3, [6, 0, 415], 0), (4, .getfield 86, 3, [1, 10, 102], 0), (7, .ifCond .eq 6, 3, [6], 0), (10, .bipush (-2), 2, [], (-2)), (12, .ireturn, 1, [], 0), (13, .iload_n 1, 1, [], 0), (14, .iconst 1, 1, [], 1), (15, .if_icmp .lt 10, 3, [12], 0), (18, .iload_n 1, 1, [], 0), (19, .sipush 1000, 3, [], 1000), (22, .if_icmp .le 5, 3, [14], 0), (25, .iconst (-1), 1, [], (-1)), (26, .ireturn, 1, [], 0), (27, .aload_n 0, 1, [], 0), (28, .aload_n 0, 1, [], 0)],
  [(29, .getfield 41, 3, [6, 2, 417], 0), (32, .iload_n 1, 1, [], 0), (33, .invokevirtual 158, 3, [39, 1, 0, 659], 0), (36, .invokevirtual 155, 3, [86, 1, 0, 594], 0), (39, .ireturn, 1, [], 0)]]
def rt_70 : List (List rI) := [[(0, .aload_n 0, 1, [], 0), (1, .getfield 23, 3, [6, 0, 415], 0), (4, .getfield 86, 3, [1, 10, 102], 0), (7, .ifCond .eq 6, 3, [6], 0), (10, .bipush (-2), 2, [], (-2)), (12, .ireturn, 1, [], 0), (13, .iload_n 1, 1, [], 0), (14, .ifCond .lt 7, 3, [10], 0), (17, .iload_n 2, 1, [], 0), (18, .ifCond .ge 5, 3, [12], 0), (21, .iconst (-1), 1, [], (-1)), (22, .ireturn, 1, [], 0), (23, .aload_n 0, 1, [], 0), (24, .getfield 23, 3, [6, 0, 415], 0), (27, .getfield 143, 3, [1, 6, 96], 0), (30, .istore_n 3, 1, [], 0)],
  [(31, .aload_n 0, 1, [], 0), (32, .iload_n 1, 1, [], 0), (33, .iload_n 2, 1, [], 0), (34, .invokevirtual 161, 3, [87, 2, 0, 598], 0), (37, .iload_n 3, 1, [], 0), (38, .ireturn, 1, [], 0)]]
def rt_71 : List (List rI) := [[(0, .aload_n 0, 1, [], 0), (1, .getfield 23, 3, [6, 0, 415], 0), (4, .getfield 86, 3, [1, 10, 102], 0), (7, .ifCond .eq 6, 3, [6], 0), (10, .bipush (-2), 2, [], (-2)), (12, .ireturn, 1, [], 0), (13, .iload_n 1, 1, [], 0), (14, .iconst 1, 1, [], 1), (15, .if_icmp .lt 18, 3, [16], 0), (18, .iload_n 1, 1, [], 0), (19, .sipush 1000, 3, [], 1000), (22, .if_icmp .gt 11, 3, [16], 0), (25, .iload_n 2, 1, [], 0), (26, .ifCond .lt 7, 3, [16], 0), (29, .iload_n 3, 1, [], 0), (30, .ifCond .ge 5, 3, [18], 0)],
  [(33, .iconst (-1), 1, [], (-1)), (34, .ireturn, 1, [], 0), (35, .aload_n 0, 1, [], 0), (36, .getfield 23, 3, [6, 0, 415], 0), (39, .iload_n 1, 1, [], 0), (40, .putfield 165, 3, [1, 7, 99], 0), (43, .aload_n 0, 1, [], 0), (44, .getfield 23, 3, [6, 0, 415], 0), (47, .iload_n 2, 1, [], 0), (48, .putfield 168, 3, [1, 8, 100], 0), (51, .aload_n 0, 1, [], 0), (52, .getfield 23, 3, [6, 0, 415], 0), (55, .iload_n 3, 1, [], 0), (56, .putfield 171, 3, [1, 9, 101], 0), (59, .iconst 1, 1, [], 1), (60, .ireturn, 1, [], 0)]]
def rt_72 : List (List rI) := [[(0, .aload_n 0, 1, [], 0), (1, .getfield 23, 3, [6, 0, 415], 0), (4, .getfield 86, 3, [1, 10, 102], 0), (7, .ifCond .eq 6, 3, [6], 0), (10, .bipush (-2), 2, [], (-2)), (12, .ireturn, 1, [], 0), (13, .aload_n 0, 1, [], 0), (14, .getfield 23, 3, [6, 0, 415], 0), (17, .getfield 165, 3, [1, 7, 99], 0), (20, .ifCond .le 7, 3, [12], 0), (23, .iconst 1, 1, [], 1), (24, .goto 4, 3, [13], 0), (27, .iconst 0, 1, [], 0), (28, .istore_n 1, 1, [], 0), (29, .aload_n 0, 1, [], 0), (30, .getfield 23, 3, [6, 0, 415], 0)],
  [(33, .iconst 0, 1, [], 0), (34, .putfield 165, 3, [1, 7, 99], 0), (37, .iload_n 1, 1, [], 0), (38, .ireturn, 1, [], 0)]]
def rt_73 : List (List rI) := [[(0, .aload_n 0, 1, [], 0), (1, .getfield 23, 3, [6, 0, 415], 0), (4, .getfield 86, 3, [1, 10, 102], 0), (7, .ifCond .ne 5, 3, [6], 0), (10, .iconst (-1), 1, [], (-1)), (11, .ireturn, 1, [], 0), (12, .aload_n 0, 1, [], 0), (13, .getfield 75, 3, [6, 12, 427], 0), (16, .invokevirtual 174, 3, [28, 0, 0, 676], 0), (19, .aload_n 0, 1, [], 0), (20, .getfield 41, 3, [6, 2, 417], 0), (23, .invokevirtual 82, 3, [30, 0, 0, 330], 0), (26, .ireturn, 1, [], 0)]]
def rt_74 : List (List rI) := [[(0, .iload_n 1, 1, [], 0), (1, .bipush 10, 2, [], 10), (3, .if_icmp .ne 11, 3, [7], 0), (6, .aload_n 0, 1, [], 0), (7, .getfield 75, 3, [6, 12, 427], 0), (10, .getfield 177, 3, [3, 4, 247], 0), (13, .ireturn, 1, [], 0), (14, .iload_n 1, 1, [], 0), (15, .bipush 11, 2, [], 11), (17, .if_icmp .ne 11, 3, [14], 0), (20, .aload_n 0, 1, [], 0), (21, .getfield 75, 3, [6, 12, 427], 0), (24, .getfield 180, 3, [3, 5, 250], 0), (27, .ireturn, 1, [], 0), (28, .aload_n 0, 1, [], 0), (29, .getfield 23, 3, [6, 0, 415], 0)],
  [(32, .getfield 86, 3, [1, 10, 102], 0), (35, .ifCond .eq 6, 3, [20], 0), (38, .bipush (-2), 2, [], (-2)), (40, .ireturn, 1, [], 0), (41, .iload_n 1, 1, [], 0), (42, .tableswitch 183 0 14 #[74, 82, 90, 98, 106, 114, 125, 133, 141, 146, 183, 183, 151, 156, 175], 74, [77, 22, 26, 30, 34, 38, 42, 47, 51, 55, 58, 77, 77, 61, 64, 73], 0), (116, .aload_n 0, 1, [], 0), (117, .getfield 32, 3, [6, 1, 416], 0), (120, .getfield 183, 3, [5, 8, 189], 0), (123, .ireturn, 1, [], 0), (124, .aload_n 0, 1, [], 0), (125, .getfield 32, 3, [6, 1, 416], 0), (128, .getfield 186, 3, [5, 7, 186], 0), (131, .ireturn, 1, [], 0), (132, .aload_n 0, 1, [], 0), (133, .getfield 32, 3, [6, 1, 416], 0)],
  [(136, .getfield 189, 3, [5, 5, 181], 0), (139, .ireturn, 1, [], 0), (140, .aload_n 0, 1, [], 0), (141, .getfield 32, 3, [6, 1, 416], 0), (144, .getfield 192, 3, [5, 9, 192], 0), (147, .ireturn, 1, [], 0), (148, .aload_n 0, 1, [], 0), (149, .getfield 32, 3, [6, 1, 416], 0), (152, .getfield 195, 3, [5, 4, 178], 0), (155, .ireturn, 1, [], 0), (156, .aload_n 0, 1, [], 0), (157, .getfield 32, 3, [6, 1, 416], 0), (160, .getfield 198, 3, [5, 1, 169], 0), (163, .getfield 201, 3, [2, 3, 156], 0), (166, .ireturn, 1, [], 0), (167, .aload_n 0, 1, [], 0)],
  [(168, .getfield 32, 3, [6, 1, 416], 0), (171, .getfield 152, 3, [5, 3, 175], 0), (174, .ireturn, 1, [], 0), (175, .aload_n 0, 1, [], 0), (176, .getfield 23, 3, [6, 0, 415], 0), (179, .getfield 143, 3, [1, 6, 96], 0), (182, .ireturn, 1, [], 0), (183, .aload_n 0, 1, [], 0), (184, .invokevirtual 202, 3, [81, 0, 0, 681], 0), (187, .ireturn, 1, [], 0), (188, .aload_n 0, 1, [], 0), (189, .invokevirtual 205, 3, [82, 0, 0, 685], 0), (192, .ireturn, 1, [], 0), (193, .aload_n 0, 1, [], 0), (194, .getfield 90, 3, [6, 9, 424], 0), (197, .ireturn, 1, [], 0)],
  [(198, .aload_n 0, 1, [], 0), (199, .getfield 105, 3, [6, 7, 422], 0), (202, .ifCond .eq 13, 3, [71], 0), (205, .aload_n 0, 1, [], 0), (206, .getfield 61, 3, [6, 6, 421], 0), (209, .getfield 98, 3, [0, 4, 314], 0), (212, .goto 4, 3, [72], 0), (215, .iconst (-1), 1, [], (-1)), (216, .ireturn, 1, [], 0), (217, .aload_n 0, 1, [], 0), (218, .getfield 32, 3, [6, 1, 416], 0), (221, .getfield 208, 3, [5, 10, 195], 0), (224, .ireturn, 1, [], 0), (225, .iconst (-1), 1, [], (-1)), (226, .ireturn, 1, [], 0)]]
def rt_75 : List (List rI) := [[(0, .aload_n 0, 1, [], 0), (1, .getfield 23, 3, [6, 0, 415], 0), (4, .getfield 86, 3, [1, 10, 102], 0), (7, .ifCond .eq 6, 3, [6], 0), (10, .bipush (-2), 2, [], (-2)), (12, .ireturn, 1, [], 0), (13, .iload_n 1, 1, [], 0), (14, .ifCond .lt 14, 3, [13], 0), (17, .iload_n 1, 1, [], 0), (18, .aload_n 0, 1, [], 0), (19, .getfield 32, 3, [6, 1, 416], 0), (22, .getfield 152, 3, [5, 3, 175], 0), (25, .if_icmp .lt 5, 3, [15], 0), (28, .iconst 0, 1, [], 0), (29, .ireturn, 1, [], 0), (30, .aload_n 0, 1, [], 0)],
  [(31, .getfield 32, 3, [6, 1, 416], 0), (34, .iload_n 1, 1, [], 0), (35, .invokevirtual 211, 3, [47, 1, 0, 694], 0), (38, .istore_n 3, 1, [], 0), (39, .aload_n 0, 1, [], 0), (40, .getfield 23, 3, [6, 0, 415], 0), (43, .iload_n 3, 1, [], 0), (44, .iconst 2, 1, [], 2), (45, .iadd, 1, [], 0), (46, .invokevirtual 214, 3, [9, 1, 0, 695], 0), (49, .istore 4, 2, [], 0), (51, .iload_n 2, 1, [], 0), (52, .tableswitch 123 0 6 #[44, 55, 58, 68, 79, 91, 111], 44, [78, 29, 36, 38, 44, 51, 58, 71], 0), (96, .aload_n 0, 1, [], 0), (97, .getfield 23, 3, [6, 0, 415], 0), (100, .iload_n 3, 1, [], 0)],
  [(101, .iconst 1, 1, [], 1), (102, .iadd, 1, [], 0), (103, .invokevirtual 214, 3, [9, 1, 0, 695], 0), (106, .ireturn, 1, [], 0), (107, .iload 4, 2, [], 0), (109, .ireturn, 1, [], 0), (110, .aload_n 0, 1, [], 0), (111, .getfield 32, 3, [6, 1, 416], 0), (114, .getfield 217, 3, [5, 2, 172], 0), (117, .iload_n 1, 1, [], 0), (118, .iaload, 1, [], 0), (119, .ireturn, 1, [], 0), (120, .aload_n 0, 1, [], 0), (121, .getfield 23, 3, [6, 0, 415], 0), (124, .iload_n 3, 1, [], 0), (125, .iconst 4, 1, [], 4)],
  [(126, .iadd, 1, [], 0), (127, .invokevirtual 220, 3, [10, 1, 0, 696], 0), (130, .ireturn, 1, [], 0), (131, .aload_n 0, 1, [], 0), (132, .getfield 23, 3, [6, 0, 415], 0), (135, .iload_n 3, 1, [], 0), (136, .bipush 16, 2, [], 16), (138, .iadd, 1, [], 0), (139, .invokevirtual 214, 3, [9, 1, 0, 695], 0), (142, .ireturn, 1, [], 0), (143, .aload_n 0, 1, [], 0), (144, .getfield 23, 3, [6, 0, 415], 0), (147, .iload_n 3, 1, [], 0), (148, .bipush 16, 2, [], 16), (150, .iadd, 1, [], 0), (151, .bipush 10, 2, [], 10)],
  [(153, .iload 4, 2, [], 0), (155, .iconst 1, 1, [], 1), (156, .isub, 1, [], 0), (157, .imul, 1, [], 0), (158, .iadd, 1, [], 0), (159, .invokevirtual 214, 3, [9, 1, 0, 695], 0), (162, .ireturn, 1, [], 0), (163, .aload_n 0, 1, [], 0), (164, .getfield 23, 3, [6, 0, 415], 0), (167, .iload_n 3, 1, [], 0), (168, .bipush 8, 2, [], 8), (170, .iadd, 1, [], 0), (171, .invokevirtual 220, 3, [10, 1, 0, 696], 0), (174, .ireturn, 1, [], 0), (175, .iconst 0, 1, [], 0), (176, .ireturn, 1, [], 0)]]
def rt_76 : List (List rI) := [[(0, .aload_n 0, 1, [], 0), (1, .getfield 23, 3, [6, 0, 415], 0), (4, .getfield 86, 3, [1, 10, 102], 0), (7, .ifCond .eq 6, 3, [6], 0), (10, .bipush (-2), 2, [], (-2)), (12, .ireturn, 1, [], 0), (13, .aload_n 0, 1, [], 0), (14, .getfield 32, 3, [6, 1, 416], 0), (17, .iload_n 1, 1, [], 0), (18, .aload_n 0, 1, [], 0), (19, .getfield 79, 3, [6, 13, 428], 0), (22, .invokevirtual 122, 3, [50, 2, 0, 614], 0), (25, .aload_n 0, 1, [], 0), (26, .getfield 79, 3, [6, 13, 428], 0), (29, .getfield 126, 3, [3, 0, 232], 0), (32, .ifCond .ne 5, 3, [18], 0)],
  [(35, .iconst (-1), 1, [], (-1)), (36, .ireturn, 1, [], 0), (37, .iload_n 2, 1, [], 0), (38, .tableswitch 70 0 3 #[30, 38, 46, 54], 30, [40, 20, 24, 28, 32], 0), (68, .aload_n 0, 1, [], 0), (69, .getfield 79, 3, [6, 13, 428], 0), (72, .getfield 126, 3, [3, 0, 232], 0), (75, .ireturn, 1, [], 0), (76, .aload_n 0, 1, [], 0), (77, .getfield 79, 3, [6, 13, 428], 0), (80, .getfield 223, 3, [3, 1, 237], 0), (83, .ireturn, 1, [], 0), (84, .aload_n 0, 1, [], 0), (85, .getfield 79, 3, [6, 13, 428], 0), (88, .getfield 129, 3, [3, 2, 239], 0), (91, .ireturn, 1, [], 0)],
  [(92, .aload_n 0, 1, [], 0), (93, .getfield 79, 3, [6, 13, 428], 0), (96, .getfield 226, 3, [3, 3, 244], 0), (99, .ifCond .eq 7, 3, [38], 0), (102, .iconst 1, 1, [], 1), (103, .goto 4, 3, [39], 0), (106, .iconst 0, 1, [], 0), (107, .ireturn, 1, [], 0), (108, .iconst (-1), 1, [], (-1)), (109, .ireturn, 1, [], 0)]]
def rt_77 : List (List rI) := [[(0, .aload_n 0, 1, [], 0), (1, .getfield 23, 3, [6, 0, 415], 0), (4, .iload_n 1, 1, [], 0), (5, .iload_n 2, 1, [], 0), (6, .invokevirtual 229, 3, [5, 2, 0, 705], 0), (9, .istore_n 3, 1, [], 0), (10, .iload_n 3, 1, [], 0), (11, .iconst (-1), 1, [], (-1)), (12, .if_icmp .ne 7, 3, [11], 0), (15, .iconst (-1), 1, [], (-1)), (16, .goto 11, 3, [15], 0), (19, .aload_n 0, 1, [], 0), (20, .getfield 23, 3, [6, 0, 415], 0), (23, .iload_n 3, 1, [], 0), (24, .invokevirtual 214, 3, [9, 1, 0, 695], 0), (27, .ireturn, 1, [], 0)]]
def rt_78 : List (List rI) := [[(0, .aload_n 0, 1, [], 0), (1, .getfield 23, 3, [6, 0, 415], 0), (4, .getfield 86, 3, [1, 10, 102], 0), (7, .ifCond .eq 6, 3, [6], 0), (10, .bipush (-2), 2, [], (-2)), (12, .ireturn, 1, [], 0), (13, .aload_n 0, 1, [], 0), (14, .getfield 32, 3, [6, 1, 416], 0), (17, .aload_n 0, 1, [], 0), (18, .getfield 51, 3, [6, 4, 419], 0), (21, .invokevirtual 136, 3, [54, 1, 0, 640], 0), (24, .aload_n 0, 1, [], 0), (25, .getfield 45, 3, [6, 3, 418], 0), (28, .invokevirtual 232, 3, [42, 0, 0, 715], 0), (31, .pop, 1, [], 0), (32, .aload_n 0, 1, [], 0)],
  [(33, .getfield 45, 3, [6, 3, 418], 0), (36, .aload_n 0, 1, [], 0), (37, .getfield 55, 3, [6, 5, 420], 0), (40, .invokevirtual 136, 3, [54, 1, 0, 640], 0), (43, .aload_n 0, 1, [], 0), (44, .getfield 32, 3, [6, 1, 416], 0), (47, .getfield 189, 3, [5, 5, 181], 0), (50, .aload_n 0, 1, [], 0), (51, .getfield 32, 3, [6, 1, 416], 0), (54, .getfield 186, 3, [5, 7, 186], 0), (57, .isub, 1, [], 0), (58, .ifCond .lt 25, 3, [38], 0), (61, .aload_n 0, 1, [], 0), (62, .getfield 32, 3, [6, 1, 416], 0), (65, .getfield 183, 3, [5, 8, 189], 0), (68, .aload_n 0, 1, [], 0)],
  [(69, .getfield 32, 3, [6, 1, 416], 0), (72, .getfield 189, 3, [5, 5, 181], 0), (75, .isub, 1, [], 0), (76, .ifCond .lt 7, 3, [38], 0), (79, .iconst 1, 1, [], 1), (80, .goto 4, 3, [39], 0), (83, .iconst 0, 1, [], 0), (84, .istore_n 1, 1, [], 0), (85, .iconst 0, 1, [], 0), (86, .istore_n 2, 1, [], 0), (87, .iload_n 2, 1, [], 0), (88, .bipush 120, 2, [], 120), (90, .if_icmp .ge 35, 3, [61], 0), (93, .iload_n 1, 1, [], 0), (94, .ifCond .eq 23, 3, [57], 0), (97, .aload_n 0, 1, [], 0)],
  [(98, .iload_n 2, 1, [], 0), (99, .invokevirtual 235, 3, [83, 1, 0, 716], 0), (102, .ifCond .eq 15, 3, [57], 0), (105, .aload_n 0, 1, [], 0), (106, .iload_n 2, 1, [], 0), (107, .invokevirtual 238, 3, [84, 1, 0, 722], 0), (110, .ifCond .eq 7, 3, [57], 0), (113, .iconst 1, 1, [], 1), (114, .goto 4, 3, [58], 0), (117, .iconst 0, 1, [], 0), (118, .istore_n 1, 1, [], 0), (119, .iinc 2 1, 3, [], 1), (122, .goto (-35), 3, [42], 0), (125, .iload_n 1, 1, [], 0), (126, .ifCond .eq 7, 3, [65], 0), (129, .iconst 1, 1, [], 1)],
  [(130, .goto 4, 3, [66], 0), (133, .iconst 0, 1, [], 0), (134, .ireturn, 1, [], 0)]]
def rt_79 : List (List rI) := [[(0, .iload_n 0, 1, [], 0), (1, .ifCond .lt 13, 3, [7], 0), (4, .iload_n 0, 1, [], 0), (5, .bipush 120, 2, [], 120), (7, .if_icmp .ge 7, 3, [7], 0), (10, .iconst 1, 1, [], 1), (11, .goto 4, 3, [8], 0), (14, .iconst 0, 1, [], 0), (15, .ireturn, 1, [], 0)]]
def rt_80 : List (List rI) := [[(0, .aload_n 0, 1, [], 0), (1, .getfield 32, 3, [6, 1, 416], 0), (4, .iload_n 1, 1, [], 0), (5, .aload_n 0, 1, [], 0), (6, .getfield 79, 3, [6, 13, 428], 0), (9, .invokevirtual 122, 3, [50, 2, 0, 614], 0), (12, .aload_n 0, 1, [], 0), (13, .getfield 79, 3, [6, 13, 428], 0), (16, .getfield 126, 3, [3, 0, 232], 0), (19, .iconst 1, 1, [], 1), (20, .if_icmp .ne 7, 3, [13], 0), (23, .iconst 1, 1, [], 1), (24, .goto 4, 3, [14], 0), (27, .iconst 0, 1, [], 0), (28, .ireturn, 1, [], 0)]]
def rt_81 : List (List rI) := [[(0, .aload_n 0, 1, [], 0), (1, .getfield 32, 3, [6, 1, 416], 0), (4, .aload_n 0, 1, [], 0), (5, .getfield 51, 3, [6, 4, 419], 0), (8, .invokevirtual 136, 3, [54, 1, 0, 640], 0), (11, .iconst 0, 1, [], 0), (12, .istore_n 1, 1, [], 0), (13, .iconst 0, 1, [], 0), (14, .istore_n 2, 1, [], 0), (15, .iload_n 2, 1, [], 0), (16, .bipush 120, 2, [], 120), (18, .if_icmp .ge 25, 3, [22], 0), (21, .aload_n 0, 1, [], 0), (22, .getfield 51, 3, [6, 4, 419], 0), (25, .getfield 140, 3, [2, 0, 145], 0), (28, .iload_n 2, 1, [], 0)],
  [(29, .iaload, 1, [], 0), (30, .iconst 1, 1, [], 1), (31, .if_icmp .ne 6, 3, [20], 0), (34, .iinc 1 1, 3, [], 1), (37, .iinc 2 1, 3, [], 1), (40, .goto (-25), 3, [9], 0), (43, .iload_n 1, 1, [], 0), (44, .ireturn, 1, [], 0)]]
def rt_82 : List (List rI) := [[(0, .aload_n 0, 1, [], 0), (1, .getfield 32, 3, [6, 1, 416], 0), (4, .aload_n 0, 1, [], 0), (5, .getfield 51, 3, [6, 4, 419], 0), (8, .invokevirtual 136, 3, [54, 1, 0, 640], 0), (11, .iconst 0, 1, [], 0), (12, .istore_n 1, 1, [], 0), (13, .iconst 0, 1, [], 0), (14, .istore_n 2, 1, [], 0), (15, .iload_n 2, 1, [], 0), (16, .bipush 120, 2, [], 120), (18, .if_icmp .ge 41, 3, [32], 0), (21, .aload_n 0, 1, [], 0), (22, .getfield 51, 3, [6, 4, 419], 0), (25, .getfield 140, 3, [2, 0, 145], 0), (28, .iload_n 2, 1, [], 0)],
  [(29, .iaload, 1, [], 0), (30, .iconst 1, 1, [], 1), (31, .if_icmp .ne 22, 3, [30], 0), (34, .iload_n 1, 1, [], 0), (35, .aload_n 0, 1, [], 0), (36, .getfield 23, 3, [6, 0, 415], 0), (39, .aload_n 0, 1, [], 0), (40, .getfield 51, 3, [6, 4, 419], 0), (43, .getfield 241, 3, [2, 2, 153], 0), (46, .iload_n 2, 1, [], 0), (47, .iaload, 1, [], 0), (48, .invokevirtual 243, 3, [13, 1, 0, 689], 0), (51, .iadd, 1, [], 0), (52, .istore_n 1, 1, [], 0), (53, .iinc 2 1, 3, [], 1), (56, .goto (-41), 3, [9], 0)],
  [(59, .iload_n 1, 1, [], 0), (60, .ireturn, 1, [], 0)]]
def rt_83 : List (List rI) := [[(0, .aload_n 0, 1, [], 0), (1, .getfield 51, 3, [6, 4, 419], 0), (4, .getfield 140, 3, [2, 0, 145], 0), (7, .iload_n 1, 1, [], 0), (8, .iaload, 1, [], 0), (9, .iconst 1, 1, [], 1), (10, .if_icmp .eq 5, 3, [9], 0), (13, .iconst 1, 1, [], 1), (14, .ireturn, 1, [], 0), (15, .aload_n 0, 1, [], 0), (16, .getfield 51, 3, [6, 4, 419], 0), (19, .getfield 241, 3, [2, 2, 153], 0), (22, .iload_n 1, 1, [], 0), (23, .iaload, 1, [], 0), (24, .istore_n 2, 1, [], 0), (25, .iload_n 2, 1, [], 0)],
  [(26, .aload_n 0, 1, [], 0), (27, .getfield 32, 3, [6, 1, 416], 0), (30, .getfield 186, 3, [5, 7, 186], 0), (33, .isub, 1, [], 0), (34, .ifCond .lt 78, 3, [60], 0), (37, .iload_n 2, 1, [], 0), (38, .aload_n 0, 1, [], 0), (39, .getfield 23, 3, [6, 0, 415], 0), (42, .iload_n 2, 1, [], 0), (43, .invokevirtual 243, 3, [13, 1, 0, 689], 0), (46, .iadd, 1, [], 0), (47, .aload_n 0, 1, [], 0), (48, .getfield 32, 3, [6, 1, 416], 0), (51, .getfield 183, 3, [5, 8, 189], 0), (54, .isub, 1, [], 0), (55, .ifCond .gt 57, 3, [60], 0)],
  [(58, .aload_n 0, 1, [], 0), (59, .getfield 32, 3, [6, 1, 416], 0), (62, .iload_n 2, 1, [], 0), (63, .aload_n 0, 1, [], 0), (64, .getfield 51, 3, [6, 4, 419], 0), (67, .getfield 246, 3, [2, 1, 149], 0), (70, .iload_n 1, 1, [], 0), (71, .iaload, 1, [], 0), (72, .invokevirtual 248, 3, [45, 2, 0, 720], 0), (75, .ifCond .eq 37, 3, [60], 0), (78, .aload_n 0, 1, [], 0), (79, .getfield 23, 3, [6, 0, 415], 0), (82, .iload_n 2, 1, [], 0), (83, .invokevirtual 252, 3, [11, 1, 0, 721], 0), (86, .sipush (-129), 3, [], (-129)), (89, .iand, 1, [], 0)],
  [(90, .iconst 1, 1, [], 1), (91, .if_icmp .ne 21, 3, [60], 0), (94, .aload_n 0, 1, [], 0), (95, .getfield 23, 3, [6, 0, 415], 0), (98, .iload_n 2, 1, [], 0), (99, .iconst 1, 1, [], 1), (100, .iadd, 1, [], 0), (101, .invokevirtual 252, 3, [11, 1, 0, 721], 0), (104, .iload_n 1, 1, [], 0), (105, .if_icmp .ne 7, 3, [60], 0), (108, .iconst 1, 1, [], 1), (109, .goto 4, 3, [61], 0), (112, .iconst 0, 1, [], 0), (113, .ireturn, 1, [], 0)]]
def rt_84 : List (List rI) := [[(0, .aload_n 0, 1, [], 0), (1, .getfield 51, 3, [6, 4, 419], 0), (4, .getfield 140, 3, [2, 0, 145], 0), (7, .iload_n 1, 1, [], 0), (8, .iaload, 1, [], 0), (9, .iconst 1, 1, [], 1), (10, .if_icmp .ne 7, 3, [9], 0), (13, .iconst 1, 1, [], 1), (14, .goto 4, 3, [10], 0), (17, .iconst 0, 1, [], 0), (18, .istore_n 2, 1, [], 0), (19, .iload_n 2, 1, [], 0), (20, .aload_n 0, 1, [], 0), (21, .getfield 55, 3, [6, 5, 420], 0), (24, .getfield 140, 3, [2, 0, 145], 0), (27, .iload_n 1, 1, [], 0)],
  [(28, .iaload, 1, [], 0), (29, .iconst 1, 1, [], 1), (30, .if_icmp .ne 7, 3, [21], 0), (33, .iconst 1, 1, [], 1), (34, .goto 4, 3, [22], 0), (37, .iconst 0, 1, [], 0), (38, .if_icmp .eq 5, 3, [25], 0), (41, .iconst 0, 1, [], 0), (42, .ireturn, 1, [], 0), (43, .iload_n 2, 1, [], 0), (44, .ifCond .eq 31, 3, [41], 0), (47, .aload_n 0, 1, [], 0), (48, .getfield 23, 3, [6, 0, 415], 0), (51, .aload_n 0, 1, [], 0), (52, .getfield 51, 3, [6, 4, 419], 0), (55, .getfield 241, 3, [2, 2, 153], 0)],
  [(58, .iload_n 1, 1, [], 0), (59, .iaload, 1, [], 0), (60, .aload_n 0, 1, [], 0), (61, .getfield 55, 3, [6, 5, 420], 0), (64, .getfield 241, 3, [2, 2, 153], 0), (67, .iload_n 1, 1, [], 0), (68, .iaload, 1, [], 0), (69, .invokevirtual 255, 3, [15, 2, 0, 726], 0), (72, .ifCond .eq 7, 3, [43], 0), (75, .iconst 1, 1, [], 1), (76, .goto 4, 3, [44], 0), (79, .iconst 0, 1, [], 0), (80, .ireturn, 1, [], 0)]]
def rt_85 : List (List rI) := [[(0, .aload_n 0, 1, [], 0), (1, .getfield 61, 3, [6, 6, 421], 0), (4, .iconst 0, 1, [], 0), (5, .putfield 98, 3, [0, 4, 314], 0), (8, .aload_n 0, 1, [], 0), (9, .iconst 0, 1, [], 0), (10, .putfield 105, 3, [6, 7, 422], 0), (13, .aload_n 0, 1, [], 0), (14, .iload_n 1, 1, [], 0), (15, .invokevirtual 155, 3, [86, 1, 0, 594], 0), (18, .ireturn, 1, [], 0)]]
def rt_86 : List (List rI) := [[(0, .aload_n 0, 1, [], 0), (1, .getfield 23, 3, [6, 0, 415], 0), (4, .getfield 86, 3, [1, 10, 102], 0), (7, .ifCond .ne 5, 3, [6], 0), (10, .iload_n 1, 1, [], 0), (11, .ireturn, 1, [], 0), (12, .aload_n 0, 1, [], 0), (13, .aload_n 0, 1, [], 0), (14, .getfield 23, 3, [6, 0, 415], 0), (17, .getfield 168, 3, [1, 8, 100], 0), (20, .aload_n 0, 1, [], 0), (21, .getfield 23, 3, [6, 0, 415], 0), (24, .getfield 171, 3, [1, 9, 101], 0), (27, .invokevirtual 161, 3, [87, 2, 0, 598], 0), (30, .bipush (-2), 2, [], (-2)), (32, .ireturn, 1, [], 0)]]
def rt_87 : List (List rI) := [[(0, .aload_n 0, 1, [], 0), (1, .getfield 23, 3, [6, 0, 415], 0), (4, .iload_n 1, 1, [], 0), (5, .iload_n 2, 1, [], 0), (6, .invokevirtual 258, 3, [18, 2, 0, 602], 0), (9, .aload_n 0, 1, [], 0), (10, .iconst 0, 1, [], 0), (11, .putfield 90, 3, [6, 9, 424], 0), (14, .aload_n 0, 1, [], 0), (15, .getfield 61, 3, [6, 6, 421], 0), (18, .iconst 0, 1, [], 0), (19, .putfield 98, 3, [0, 4, 314], 0), (22, .aload_n 0, 1, [], 0), (23, .iconst 0, 1, [], 0), (24, .putfield 105, 3, [6, 7, 422], 0), (27, .return_, 1, [], 0)]]
def rt_88 : List (List rI) := [[(0, .aload_n 0, 1, [], 0), (1, .invokespecial 1, 3, [0, 0, 12, 739], 0), (4, .aload_n 0, 1, [], 0), (5, .iconst 3, 1, [], 3), (6, .newarray .int, 2, [0], 0), (8, .putfield 7, 3, [7, 1, 790], 0), (11, .aload_n 0, 1, [], 0), (12, .iconst 3, 1, [], 3), (13, .newarray .int, 2, [0], 0), (15, .putfield 13, 3, [7, 2, 791], 0), (18, .aload_n 0, 1, [], 0), (19, .sipush 20000, 3, [], 20000), (22, .newarray .byte, 2, [1], 0), (24, .putfield 16, 3, [7, 3, 792], 0), (27, .aload_n 0, 1, [], 0), (28, .sipush 20000, 3, [], 20000)],
  [(31, .newarray .byte, 2, [1], 0), (33, .putfield 20, 3, [7, 4, 793], 0), (36, .aload_n 0, 1, [], 0), (37, .sipush 6000, 3, [], 6000), (40, .newarray .int, 2, [0], 0), (42, .putfield 23, 3, [7, 5, 794], 0), (45, .aload_n 0, 1, [], 0), (46, .sipush 6000, 3, [], 6000), (49, .newarray .int, 2, [0], 0), (51, .putfield 26, 3, [7, 6, 795], 0), (54, .aload_n 0, 1, [], 0), (55, .sipush 6000, 3, [], 6000), (58, .newarray .int, 2, [0], 0), (60, .putfield 29, 3, [7, 7, 796], 0), (63, .aload_n 0, 1, [], 0), (64, .sipush 6000, 3, [], 6000)],
  [(67, .newarray .int, 2, [0], 0), (69, .putfield 32, 3, [7, 8, 797], 0), (72, .aload_n 0, 1, [], 0), (73, .ldc 35, 2, [740], 90000), (75, .newarray .byte, 2, [1], 0), (77, .putfield 36, 3, [7, 9, 798], 0), (80, .aload_n 0, 1, [], 0), (81, .bipush 64, 2, [], 64), (83, .newarray .byte, 2, [1], 0), (85, .putfield 39, 3, [7, 16, 805], 0), (88, .aload_n 0, 1, [], 0), (89, .bipush 64, 2, [], 64), (91, .newarray .byte, 2, [1], 0), (93, .putfield 42, 3, [7, 18, 807], 0), (96, .aload_n 0, 1, [], 0), (97, .bipush 8, 2, [], 8)],
  [(99, .newarray .int, 2, [0], 0), (101, .putfield 45, 3, [7, 24, 813], 0), (104, .aload_n 0, 1, [], 0), (105, .bipush 8, 2, [], 8), (107, .newarray .int, 2, [0], 0), (109, .putfield 48, 3, [7, 25, 814], 0), (112, .aload_n 0, 1, [], 0), (113, .bipush 8, 2, [], 8), (115, .newarray .int, 2, [0], 0), (117, .putfield 51, 3, [7, 26, 815], 0), (120, .aload_n 0, 1, [], 0), (121, .sipush 512, 3, [], 512), (124, .newarray .byte, 2, [1], 0), (126, .putfield 54, 3, [7, 27, 816], 0), (129, .aload_n 0, 1, [], 0), (130, .bipush 12, 2, [], 12)],
  [(132, .newarray .int, 2, [0], 0), (134, .putfield 57, 3, [7, 35, 824], 0), (137, .aload_n 0, 1, [], 0), (138, .bipush 12, 2, [], 12), (140, .newarray .boolean, 2, [2], 0), (142, .putfield 60, 3, [7, 37, 826], 0), (145, .aload_n 0, 1, [], 0), (146, .bipush 120, 2, [], 120), (148, .newarray .int, 2, [0], 0), (150, .putfield 64, 3, [7, 38, 827], 0), (153, .aload_n 0, 1, [], 0), (154, .bipush 120, 2, [], 120), (156, .newarray .int, 2, [0], 0), (158, .putfield 67, 3, [7, 39, 828], 0), (161, .aload_n 0, 1, [], 0), (162, .bipush 120, 2, [], 120)],
  [(164, .newarray .int, 2, [0], 0), (166, .putfield 70, 3, [7, 40, 829], 0), (169, .aload_n 0, 1, [], 0), (170, .bipush 120, 2, [], 120), (172, .newarray .int, 2, [0], 0), (174, .putfield 73, 3, [7, 42, 831], 0), (177, .aload_n 0, 1, [], 0), (178, .bipush 120, 2, [], 120), (180, .newarray .int, 2, [0], 0), (182, .putfield 76, 3, [7, 43, 832], 0), (185, .aload_n 0, 1, [], 0), (186, .bipush 120, 2, [], 120), (188, .newarray .int, 2, [0], 0), (190, .putfield 79, 3, [7, 44, 833], 0), (193, .aload_n 0, 1, [], 0), (194, .sipush 1300, 3, [], 1300)],
  [(197, .newarray .byte, 2, [1], 0), (199, .putfield 82, 3, [7, 45, 834], 0), (202, .aload_n 0, 1, [], 0), (203, .bipush 64, 2, [], 64), (205, .newarray .byte, 2, [1], 0), (207, .putfield 85, 3, [7, 50, 839], 0), (210, .aload_n 0, 1, [], 0), (211, .iload_n 1, 1, [], 0), (212, .sipush 512, 3, [], 512), (215, .if_icmp .ge 9, 3, [108], 0), (218, .sipush 512, 3, [], 512), (221, .goto 17, 3, [114], 0), (224, .iload_n 1, 1, [], 0), (225, .sipush 4096, 3, [], 4096), (228, .if_icmp .le 9, 3, [113], 0), (231, .sipush 4096, 3, [], 4096)],
  [(234, .goto 4, 3, [114], 0), (237, .iload_n 1, 1, [], 0), (238, .putfield 88, 3, [7, 0, 789], 0), (241, .aload_n 0, 1, [], 0), (242, .getfield 7, 3, [7, 1, 790], 0), (245, .iconst 0, 1, [], 0), (246, .iconst 0, 1, [], 0), (247, .iastore, 1, [], 0), (248, .aload_n 0, 1, [], 0), (249, .getfield 13, 3, [7, 2, 791], 0), (252, .iconst 0, 1, [], 0), (253, .aload_n 0, 1, [], 0), (254, .getfield 88, 3, [7, 0, 789], 0), (257, .iastore, 1, [], 0), (258, .aload_n 0, 1, [], 0), (259, .getfield 7, 3, [7, 1, 790], 0)],
  [(262, .iconst 1, 1, [], 1), (263, .aload_n 0, 1, [], 0), (264, .getfield 88, 3, [7, 0, 789], 0), (267, .iastore, 1, [], 0), (268, .aload_n 0, 1, [], 0), (269, .getfield 13, 3, [7, 2, 791], 0), (272, .iconst 1, 1, [], 1), (273, .sipush 15600, 3, [], 15600), (276, .iastore, 1, [], 0), (277, .aload_n 0, 1, [], 0), (278, .getfield 7, 3, [7, 1, 790], 0), (281, .iconst 2, 1, [], 2), (282, .aload_n 0, 1, [], 0), (283, .getfield 88, 3, [7, 0, 789], 0), (286, .sipush 15600, 3, [], 15600), (289, .iadd, 1, [], 0)],
  [(290, .iastore, 1, [], 0), (291, .aload_n 0, 1, [], 0), (292, .getfield 13, 3, [7, 2, 791], 0), (295, .iconst 2, 1, [], 2), (296, .sipush 128, 3, [], 128), (299, .iastore, 1, [], 0), (300, .aload_n 0, 1, [], 0), (301, .invokevirtual 92, 3, [125, 0, 0, 741], 0), (304, .istore_n 2, 1, [], 0), (305, .return_, 1, [], 0)]]
def rt_89 : List (List rI) := [[(0, .aload_n 0, 1, [], 0), (1, .getfield 7, 3, [7, 1, 790], 0), (4, .iload_n 1, 1, [], 0), (5, .iaload, 1, [], 0), (6, .iload_n 2, 1, [], 0), (7, .aload_n 0, 1, [], 0), (8, .getfield 13, 3, [7, 2, 791], 0), (11, .iload_n 1, 1, [], 0), (12, .iaload, 1, [], 0), (13, .irem, 1, [], 0), (14, .iadd, 1, [], 0), (15, .ireturn, 1, [], 0)]]
def rt_90 : List (List rI) := [[(0, .aload_n 0, 1, [], 0), (1, .getfield 16, 3, [7, 3, 792], 0), (4, .aload_n 0, 1, [], 0), (5, .iload_n 1, 1, [], 0), (6, .iload_n 2, 1, [], 0), (7, .invokevirtual 96, 3, [89, 2, 0, 753], 0), (10, .baload, 1, [], 0), (11, .sipush 255, 3, [], 255), (14, .iand, 1, [], 0), (15, .ireturn, 1, [], 0)]]
def rt_91 : List (List rI) := [[(0, .aload_n 0, 1, [], 0), (1, .iload_n 1, 1, [], 0), (2, .iload_n 2, 1, [], 0), (3, .invokevirtual 100, 3, [90, 2, 0, 749], 0), (6, .bipush 24, 2, [], 24), (8, .ishl, 1, [], 0), (9, .aload_n 0, 1, [], 0), (10, .iload_n 1, 1, [], 0), (11, .iload_n 2, 1, [], 0), (12, .iconst 1, 1, [], 1), (13, .iadd, 1, [], 0), (14, .invokevirtual 100, 3, [90, 2, 0, 749], 0), (17, .bipush 16, 2, [], 16), (19, .ishl, 1, [], 0), (20, .ior, 1, [], 0), (21, .aload_n 0, 1, [], 0)],
  [(22, .iload_n 1, 1, [], 0), (23, .iload_n 2, 1, [], 0), (24, .iconst 2, 1, [], 2), (25, .iadd, 1, [], 0), (26, .invokevirtual 100, 3, [90, 2, 0, 749], 0), (29, .bipush 8, 2, [], 8), (31, .ishl, 1, [], 0), (32, .ior, 1, [], 0), (33, .aload_n 0, 1, [], 0), (34, .iload_n 1, 1, [], 0), (35, .iload_n 2, 1, [], 0), (36, .iconst 3, 1, [], 3), (37, .iadd, 1, [], 0), (38, .invokevirtual 100, 3, [90, 2, 0, 749], 0), (41, .ior, 1, [], 0), (42, .ireturn, 1, [], 0)]]
def rt_92 : List (List rI) := [[(0, .iconst 0, 1, [], 0), (1, .istore_n 3, 1, [], 0), (2, .iload_n 3, 1, [], 0), (3, .iconst 4, 1, [], 4), (4, .if_icmp .ge 27, 3, [21], 0), (7, .aload_n 0, 1, [], 0), (8, .getfield 82, 3, [7, 45, 834], 0), (11, .iload_n 1, 1, [], 0), (12, .iload_n 3, 1, [], 0), (13, .iadd, 1, [], 0), (14, .iload_n 2, 1, [], 0), (15, .bipush 24, 2, [], 24), (17, .bipush 8, 2, [], 8), (19, .iload_n 3, 1, [], 0), (20, .imul, 1, [], 0), (21, .isub, 1, [], 0)],
  [(22, .ishr, 1, [], 0), (23, .i2b, 1, [], 0), (24, .bastore, 1, [], 0), (25, .iinc 3 1, 3, [], 1), (28, .goto (-26), 3, [2], 0), (31, .return_, 1, [], 0)]]
def rt_93 : List (List rI) := [[(0, .iconst 0, 1, [], 0), (1, .istore_n 2, 1, [], 0), (2, .iload_n 2, 1, [], 0), (3, .iload_n 1, 1, [], 0), (4, .if_icmp .ge 16, 3, [12], 0), (7, .aload_n 0, 1, [], 0), (8, .getfield 82, 3, [7, 45, 834], 0), (11, .iload_n 2, 1, [], 0), (12, .iconst 0, 1, [], 0), (13, .bastore, 1, [], 0), (14, .iinc 2 1, 3, [], 1), (17, .goto (-15), 3, [2], 0), (20, .return_, 1, [], 0)]]
def rt_94 : List (List rI) := [[(0, .aload_n 0, 1, [], 0), (1, .getfield 23, 3, [7, 5, 794], 0), (4, .aload_n 0, 1, [], 0), (5, .getfield 103, 3, [7, 10, 799], 0), (8, .iload_n 1, 1, [], 0), (9, .iastore, 1, [], 0), (10, .aload_n 0, 1, [], 0), (11, .getfield 26, 3, [7, 6, 795], 0), (14, .aload_n 0, 1, [], 0), (15, .getfield 103, 3, [7, 10, 799], 0), (18, .iload_n 2, 1, [], 0), (19, .iastore, 1, [], 0), (20, .aload_n 0, 1, [], 0), (21, .getfield 29, 3, [7, 7, 796], 0), (24, .aload_n 0, 1, [], 0), (25, .getfield 103, 3, [7, 10, 799], 0)],
  [(28, .iload_n 3, 1, [], 0), (29, .iastore, 1, [], 0), (30, .aload_n 0, 1, [], 0), (31, .getfield 32, 3, [7, 8, 797], 0), (34, .aload_n 0, 1, [], 0), (35, .getfield 103, 3, [7, 10, 799], 0), (38, .aload_n 0, 1, [], 0), (39, .getfield 106, 3, [7, 11, 800], 0), (42, .iastore, 1, [], 0), (43, .aload_n 0, 1, [], 0), (44, .dup, 1, [], 0), (45, .getfield 103, 3, [7, 10, 799], 0), (48, .iconst 1, 1, [], 1), (49, .iadd, 1, [], 0), (50, .putfield 103, 3, [7, 10, 799], 0), (53, .iconst 0, 1, [], 0)],
  [(54, .istore 4, 2, [], 0), (56, .iload 4, 2, [], 0), (58, .iload_n 3, 1, [], 0), (59, .if_icmp .ge 56, 3, [66], 0), (62, .aload_n 0, 1, [], 0), (63, .getfield 36, 3, [7, 9, 798], 0), (66, .aload_n 0, 1, [], 0), (67, .getfield 106, 3, [7, 11, 800], 0), (70, .aload_n 0, 1, [], 0), (71, .getfield 82, 3, [7, 45, 834], 0), (74, .iload 4, 2, [], 0), (76, .baload, 1, [], 0), (77, .bastore, 1, [], 0), (78, .aload_n 0, 1, [], 0), (79, .dup, 1, [], 0), (80, .getfield 106, 3, [7, 11, 800], 0)],
  [(83, .iconst 1, 1, [], 1), (84, .iadd, 1, [], 0), (85, .putfield 106, 3, [7, 11, 800], 0), (88, .aload_n 0, 1, [], 0), (89, .getfield 16, 3, [7, 3, 792], 0), (92, .aload_n 0, 1, [], 0), (93, .iload_n 1, 1, [], 0), (94, .iload_n 2, 1, [], 0), (95, .iload 4, 2, [], 0), (97, .iadd, 1, [], 0), (98, .invokevirtual 96, 3, [89, 2, 0, 753], 0), (101, .aload_n 0, 1, [], 0), (102, .getfield 82, 3, [7, 45, 834], 0), (105, .iload 4, 2, [], 0), (107, .baload, 1, [], 0), (108, .bastore, 1, [], 0)],
  [(109, .iinc 4 1, 3, [], 1), (112, .goto (-56), 3, [33], 0), (115, .aload_n 0, 1, [], 0), (116, .getfield 109, 3, [7, 12, 801], 0), (119, .ifCond .le 32, 3, [84], 0), (122, .aload_n 0, 1, [], 0), (123, .dup, 1, [], 0), (124, .getfield 109, 3, [7, 12, 801], 0), (127, .iconst 1, 1, [], 1), (128, .isub, 1, [], 0), (129, .putfield 109, 3, [7, 12, 801], 0), (132, .aload_n 0, 1, [], 0), (133, .getfield 109, 3, [7, 12, 801], 0), (136, .ifCond .ne 15, 3, [84], 0), (139, .aload_n 0, 1, [], 0), (140, .aload_n 0, 1, [], 0)],
  [(141, .getfield 112, 3, [7, 13, 802], 0), (144, .aload_n 0, 1, [], 0), (145, .getfield 115, 3, [7, 14, 803], 0), (148, .invokevirtual 118, 3, [97, 2, 0, 777], 0), (151, .return_, 1, [], 0)]]
def rt_95 : List (List rI) := [[(0, .iconst 0, 1, [], 0), (1, .istore_n 3, 1, [], 0), (2, .iload_n 3, 1, [], 0), (3, .iload_n 2, 1, [], 0), (4, .if_icmp .ge 45, 3, [31], 0), (7, .aload_n 0, 1, [], 0), (8, .getfield 20, 3, [7, 4, 793], 0), (11, .aload_n 0, 1, [], 0), (12, .aload_n 0, 1, [], 0), (13, .getfield 23, 3, [7, 5, 794], 0), (16, .iload_n 1, 1, [], 0), (17, .iaload, 1, [], 0), (18, .aload_n 0, 1, [], 0), (19, .getfield 26, 3, [7, 6, 795], 0), (22, .iload_n 1, 1, [], 0), (23, .iaload, 1, [], 0)],
  [(24, .iload_n 3, 1, [], 0), (25, .iadd, 1, [], 0), (26, .invokevirtual 96, 3, [89, 2, 0, 753], 0), (29, .aload_n 0, 1, [], 0), (30, .getfield 36, 3, [7, 9, 798], 0), (33, .aload_n 0, 1, [], 0), (34, .getfield 32, 3, [7, 8, 797], 0), (37, .iload_n 1, 1, [], 0), (38, .iaload, 1, [], 0), (39, .iload_n 3, 1, [], 0), (40, .iadd, 1, [], 0), (41, .baload, 1, [], 0), (42, .bastore, 1, [], 0), (43, .iinc 3 1, 3, [], 1), (46, .goto (-44), 3, [2], 0), (49, .return_, 1, [], 0)]]
def rt_96 : List (List rI) := [[(0, .aload_n 0, 1, [], 0), (1, .getfield 103, 3, [7, 10, 799], 0), (4, .istore_n 1, 1, [], 0), (5, .iconst 0, 1, [], 0), (6, .istore_n 2, 1, [], 0), (7, .iload_n 2, 1, [], 0), (8, .iload_n 1, 1, [], 0), (9, .if_icmp .ge 20, 3, [17], 0), (12, .aload_n 0, 1, [], 0), (13, .iload_n 2, 1, [], 0), (14, .aload_n 0, 1, [], 0), (15, .getfield 29, 3, [7, 7, 796], 0), (18, .iload_n 2, 1, [], 0), (19, .iaload, 1, [], 0), (20, .invokevirtual 122, 3, [95, 2, 0, 781], 0), (23, .iinc 2 1, 3, [], 1)],
  [(26, .goto (-19), 3, [5], 0), (29, .aload_n 0, 1, [], 0), (30, .iconst 0, 1, [], 0), (31, .putfield 103, 3, [7, 10, 799], 0), (34, .aload_n 0, 1, [], 0), (35, .iconst 0, 1, [], 0), (36, .putfield 106, 3, [7, 11, 800], 0), (39, .iload_n 1, 1, [], 0), (40, .ireturn, 1, [], 0)]]
def rt_97 : List (List rI) := [[(0, .iconst 0, 1, [], 0), (1, .istore_n 3, 1, [], 0), (2, .iload_n 3, 1, [], 0), (3, .aload_n 0, 1, [], 0), (4, .getfield 103, 3, [7, 10, 799], 0), (7, .if_icmp .ge 44, 3, [29], 0), (10, .iload_n 3, 1, [], 0), (11, .iload_n 1, 1, [], 0), (12, .if_icmp .gt 39, 3, [29], 0), (15, .aload_n 0, 1, [], 0), (16, .iload_n 3, 1, [], 0), (17, .iload_n 3, 1, [], 0), (18, .iload_n 1, 1, [], 0), (19, .if_icmp .lt 13, 3, [20], 0), (22, .iload_n 2, 1, [], 0), (23, .aload_n 0, 1, [], 0)],
  [(24, .getfield 29, 3, [7, 7, 796], 0), (27, .iload_n 3, 1, [], 0), (28, .iaload, 1, [], 0), (29, .if_icmp .le 12, 3, [25], 0), (32, .aload_n 0, 1, [], 0), (33, .getfield 29, 3, [7, 7, 796], 0), (36, .iload_n 3, 1, [], 0), (37, .iaload, 1, [], 0), (38, .goto 4, 3, [26], 0), (41, .iload_n 2, 1, [], 0), (42, .invokevirtual 122, 3, [95, 2, 0, 781], 0), (45, .iinc 3 1, 3, [], 1), (48, .goto (-46), 3, [2], 0), (51, .iconst 0, 1, [], 0), (52, .istore_n 3, 1, [], 0), (53, .iload_n 3, 1, [], 0)],
  [(54, .aload_n 0, 1, [], 0), (55, .getfield 7, 3, [7, 1, 790], 0), (58, .iconst 2, 1, [], 2), (59, .iaload, 1, [], 0), (60, .sipush 128, 3, [], 128), (63, .iadd, 1, [], 0), (64, .if_icmp .ge 21, 3, [49], 0), (67, .aload_n 0, 1, [], 0), (68, .getfield 16, 3, [7, 3, 792], 0), (71, .iload_n 3, 1, [], 0), (72, .aload_n 0, 1, [], 0), (73, .getfield 20, 3, [7, 4, 793], 0), (76, .iload_n 3, 1, [], 0), (77, .baload, 1, [], 0), (78, .bastore, 1, [], 0), (79, .iinc 3 1, 3, [], 1)],
  [(82, .goto (-29), 3, [31], 0), (85, .aload_n 0, 1, [], 0), (86, .iconst 0, 1, [], 0), (87, .putfield 103, 3, [7, 10, 799], 0), (90, .aload_n 0, 1, [], 0), (91, .iconst 0, 1, [], 0), (92, .putfield 106, 3, [7, 11, 800], 0), (95, .aload_n 0, 1, [], 0), (96, .iconst 0, 1, [], 0), (97, .putfield 109, 3, [7, 12, 801], 0), (100, .aload_n 0, 1, [], 0), (101, .iconst 1, 1, [], 1), (102, .putfield 125, 3, [7, 15, 804], 0), (105, .aload_n 0, 1, [], 0), (106, .iconst 0, 1, [], 0), (107, .putfield 129, 3, [7, 17, 806], 0)],
  [(110, .aload_n 0, 1, [], 0), (111, .iconst 0, 1, [], 0), (112, .putfield 132, 3, [7, 22, 811], 0), (115, .aload_n 0, 1, [], 0), (116, .iconst 0, 1, [], 0), (117, .putfield 135, 3, [7, 23, 812], 0), (120, .aload_n 0, 1, [], 0), (121, .iconst 0, 1, [], 0), (122, .putfield 138, 3, [7, 41, 830], 0), (125, .iconst 0, 1, [], 0), (126, .istore_n 3, 1, [], 0), (127, .iload_n 3, 1, [], 0), (128, .bipush 120, 2, [], 120), (130, .if_icmp .ge 16, 3, [85], 0), (133, .aload_n 0, 1, [], 0), (134, .getfield 64, 3, [7, 38, 827], 0)],
  [(137, .iload_n 3, 1, [], 0), (138, .iconst 0, 1, [], 0), (139, .iastore, 1, [], 0), (140, .iinc 3 1, 3, [], 1), (143, .goto (-16), 3, [75], 0), (146, .return_, 1, [], 0)]]
def rt_98 : List (List rI) := [[(0, .aload_n 0, 1, [], 0), (1, .iconst 0, 1, [], 0), (2, .iload_n 1, 1, [], 0), (3, .invokevirtual 100, 3, [90, 2, 0, 749], 0), (6, .istore_n 3, 1, [], 0), (7, .aload_n 0, 1, [], 0), (8, .iconst 0, 1, [], 0), (9, .iload_n 1, 1, [], 0), (10, .iconst 2, 1, [], 2), (11, .iadd, 1, [], 0), (12, .invokevirtual 100, 3, [90, 2, 0, 749], 0), (15, .istore 4, 2, [], 0), (17, .iload_n 3, 1, [], 0), (18, .iconst 1, 1, [], 1), (19, .if_icmp .eq 27, 3, [26], 0), (22, .iload_n 3, 1, [], 0)],
  [(23, .sipush 129, 3, [], 129), (26, .if_icmp .eq 20, 3, [26], 0), (29, .iload_n 3, 1, [], 0), (30, .iconst 2, 1, [], 2), (31, .if_icmp .eq 10, 3, [24], 0), (34, .iload_n 3, 1, [], 0), (35, .sipush 130, 3, [], 130), (38, .if_icmp .ne 12, 3, [28], 0), (41, .iload 4, 2, [], 0), (43, .ifCond .ne 7, 3, [28], 0), (46, .iconst 1, 1, [], 1), (47, .goto 4, 3, [29], 0), (50, .iconst 0, 1, [], 0), (51, .istore 5, 2, [], 0), (53, .iload 5, 2, [], 0), (55, .ifCond .eq 85, 3, [81], 0)],
  [(58, .aload_n 0, 1, [], 0), (59, .iconst 0, 1, [], 0), (60, .iload_n 1, 1, [], 0), (61, .iconst 1, 1, [], 1), (62, .iadd, 1, [], 0), (63, .invokevirtual 100, 3, [90, 2, 0, 749], 0), (66, .bipush 120, 2, [], 120), (68, .if_icmp .ge 72, 3, [81], 0), (71, .iload 4, 2, [], 0), (73, .bipush 64, 2, [], 64), (75, .if_icmp .gt 65, 3, [81], 0), (78, .aload_n 0, 1, [], 0), (79, .iconst 0, 1, [], 0), (80, .iload_n 1, 1, [], 0), (81, .iconst 3, 1, [], 3), (82, .iadd, 1, [], 0)],
  [(83, .invokevirtual 100, 3, [90, 2, 0, 749], 0), (86, .ifCond .ne 54, 3, [81], 0), (89, .aload_n 0, 1, [], 0), (90, .iconst 0, 1, [], 0), (91, .iload_n 1, 1, [], 0), (92, .iconst 4, 1, [], 4), (93, .iadd, 1, [], 0), (94, .invokevirtual 141, 3, [91, 2, 0, 745], 0), (97, .iload_n 2, 1, [], 0), (98, .if_icmp .ne 42, 3, [81], 0), (101, .aload_n 0, 1, [], 0), (102, .iconst 0, 1, [], 0), (103, .iload_n 1, 1, [], 0), (104, .bipush 8, 2, [], 8), (106, .iadd, 1, [], 0), (107, .invokevirtual 141, 3, [91, 2, 0, 745], 0)],
  [(110, .iload_n 2, 1, [], 0), (111, .if_icmp .ne 29, 3, [81], 0), (114, .iload_n 1, 1, [], 0), (115, .bipush 12, 2, [], 12), (117, .iadd, 1, [], 0), (118, .iload 4, 2, [], 0), (120, .iadd, 1, [], 0), (121, .aload_n 0, 1, [], 0), (122, .getfield 144, 3, [7, 29, 818], 0), (125, .aload_n 0, 1, [], 0), (126, .getfield 88, 3, [7, 0, 789], 0), (129, .iadd, 1, [], 0), (130, .bipush 12, 2, [], 12), (132, .isub, 1, [], 0), (133, .if_icmp .gt 7, 3, [81], 0), (136, .iconst 1, 1, [], 1)],
  [(137, .goto 4, 3, [82], 0), (140, .iconst 0, 1, [], 0), (141, .ireturn, 1, [], 0)]]
def rt_99 : List (List rI) := [[(0, .bipush 12, 2, [], 12), (2, .aload_n 0, 1, [], 0), (3, .iconst 0, 1, [], 0), (4, .iload_n 1, 1, [], 0), (5, .iconst 2, 1, [], 2), (6, .iadd, 1, [], 0), (7, .invokevirtual 100, 3, [90, 2, 0, 749], 0), (10, .iadd, 1, [], 0), (11, .ireturn, 1, [], 0)]]
def rt_100 : List (List rI) := [[(0, .aload_n 0, 1, [], 0), (1, .bipush 12, 2, [], 12), (3, .invokevirtual 147, 3, [93, 1, 0, 769], 0), (6, .aload_n 0, 1, [], 0), (7, .iconst 0, 1, [], 0), (8, .aload_n 0, 1, [], 0), (9, .getfield 151, 3, [7, 28, 817], 0), (12, .bipush 12, 2, [], 12), (14, .iadd, 1, [], 0), (15, .iload_n 3, 1, [], 0), (16, .iadd, 1, [], 0), (17, .bipush 12, 2, [], 12), (19, .invokevirtual 154, 3, [94, 3, 0, 773], 0), (22, .aload_n 0, 1, [], 0), (23, .getfield 125, 3, [7, 15, 804], 0), (26, .ifCond .ne 49, 3, [41], 0)],
  [(29, .iload_n 3, 1, [], 0), (30, .ifCond .le 45, 3, [41], 0), (33, .iconst 0, 1, [], 0), (34, .istore 4, 2, [], 0), (36, .iload 4, 2, [], 0), (38, .iload_n 3, 1, [], 0), (39, .if_icmp .ge 23, 3, [33], 0), (42, .aload_n 0, 1, [], 0), (43, .getfield 82, 3, [7, 45, 834], 0), (46, .iload 4, 2, [], 0), (48, .aload_n 0, 1, [], 0), (49, .getfield 85, 3, [7, 50, 839], 0), (52, .iload 4, 2, [], 0), (54, .baload, 1, [], 0), (55, .bastore, 1, [], 0), (56, .iinc 4 1, 3, [], 1)],
  [(59, .goto (-23), 3, [20], 0), (62, .aload_n 0, 1, [], 0), (63, .iconst 0, 1, [], 0), (64, .aload_n 0, 1, [], 0), (65, .getfield 151, 3, [7, 28, 817], 0), (68, .bipush 12, 2, [], 12), (70, .iadd, 1, [], 0), (71, .iload_n 3, 1, [], 0), (72, .invokevirtual 154, 3, [94, 3, 0, 773], 0), (75, .aload_n 0, 1, [], 0), (76, .getfield 125, 3, [7, 15, 804], 0), (79, .ifCond .eq 5, 3, [46], 0), (82, .iconst 0, 1, [], 0), (83, .ireturn, 1, [], 0), (84, .aload_n 0, 1, [], 0), (85, .getfield 82, 3, [7, 45, 834], 0)],
  [(88, .iconst 0, 1, [], 0), (89, .iload_n 1, 1, [], 0), (90, .i2b, 1, [], 0), (91, .bastore, 1, [], 0), (92, .aload_n 0, 1, [], 0), (93, .getfield 82, 3, [7, 45, 834], 0), (96, .iconst 1, 1, [], 1), (97, .iload_n 2, 1, [], 0), (98, .i2b, 1, [], 0), (99, .bastore, 1, [], 0), (100, .aload_n 0, 1, [], 0), (101, .getfield 82, 3, [7, 45, 834], 0), (104, .iconst 2, 1, [], 2), (105, .iload_n 3, 1, [], 0), (106, .i2b, 1, [], 0), (107, .bastore, 1, [], 0)],
  [(108, .aload_n 0, 1, [], 0), (109, .getfield 82, 3, [7, 45, 834], 0), (112, .iconst 3, 1, [], 3), (113, .iconst 0, 1, [], 0), (114, .bastore, 1, [], 0), (115, .aload_n 0, 1, [], 0), (116, .iconst 4, 1, [], 4), (117, .aload_n 0, 1, [], 0), (118, .getfield 158, 3, [7, 32, 821], 0), (121, .invokevirtual 161, 3, [92, 2, 0, 983], 0), (124, .aload_n 0, 1, [], 0), (125, .bipush 8, 2, [], 8), (127, .aload_n 0, 1, [], 0), (128, .getfield 158, 3, [7, 32, 821], 0), (131, .invokevirtual 161, 3, [92, 2, 0, 983], 0), (134, .aload_n 0, 1, [], 0)],
  [(135, .iconst 0, 1, [], 0), (136, .aload_n 0, 1, [], 0), (137, .getfield 151, 3, [7, 28, 817], 0), (140, .bipush 12, 2, [], 12), (142, .invokevirtual 154, 3, [94, 3, 0, 773], 0), (145, .aload_n 0, 1, [], 0), (146, .getfield 125, 3, [7, 15, 804], 0), (149, .ifCond .eq 5, 3, [90], 0), (152, .iconst 0, 1, [], 0), (153, .ireturn, 1, [], 0), (154, .aload_n 0, 1, [], 0), (155, .aload_n 0, 1, [], 0), (156, .getfield 151, 3, [7, 28, 817], 0), (159, .bipush 12, 2, [], 12), (161, .iadd, 1, [], 0), (162, .iload_n 3, 1, [], 0)],
  [(163, .iadd, 1, [], 0), (164, .putfield 151, 3, [7, 28, 817], 0), (167, .aload_n 0, 1, [], 0), (168, .dup, 1, [], 0), (169, .getfield 158, 3, [7, 32, 821], 0), (172, .iconst 1, 1, [], 1), (173, .iadd, 1, [], 0), (174, .putfield 158, 3, [7, 32, 821], 0), (177, .iconst 1, 1, [], 1), (178, .ireturn, 1, [], 0)]]
def rt_101 : List (List rI) := [[(0, .aload_n 0, 1, [], 0), (1, .dup, 1, [], 0), (2, .getfield 138, 3, [7, 41, 830], 0), (5, .aload_n 0, 1, [], 0), (6, .getfield 64, 3, [7, 38, 827], 0), (9, .iload_n 1, 1, [], 0), (10, .iaload, 1, [], 0), (11, .ifCond .ne 7, 3, [10], 0), (14, .iconst 1, 1, [], 1), (15, .goto 4, 3, [11], 0), (18, .iconst 0, 1, [], 0), (19, .iadd, 1, [], 0), (20, .putfield 138, 3, [7, 41, 830], 0), (23, .aload_n 0, 1, [], 0), (24, .getfield 64, 3, [7, 38, 827], 0), (27, .iload_n 1, 1, [], 0)],
  [(28, .iload_n 2, 1, [], 0), (29, .iastore, 1, [], 0), (30, .aload_n 0, 1, [], 0), (31, .getfield 67, 3, [7, 39, 828], 0), (34, .iload_n 1, 1, [], 0), (35, .iload_n 3, 1, [], 0), (36, .iastore, 1, [], 0), (37, .aload_n 0, 1, [], 0), (38, .getfield 70, 3, [7, 40, 829], 0), (41, .iload_n 1, 1, [], 0), (42, .iload 4, 2, [], 0), (44, .iastore, 1, [], 0), (45, .return_, 1, [], 0)]]
def rt_102 : List (List rI) := [[(0, .aload_n 0, 1, [], 0), (1, .iconst 1, 1, [], 1), (2, .aload_n 0, 1, [], 0), (3, .getfield 57, 3, [7, 35, 824], 0), (6, .iload_n 1, 1, [], 0), (7, .iaload, 1, [], 0), (8, .sipush 1300, 3, [], 1300), (11, .imul, 1, [], 0), (12, .iload_n 2, 1, [], 0), (13, .iadd, 1, [], 0), (14, .invokevirtual 100, 3, [90, 2, 0, 749], 0), (17, .ireturn, 1, [], 0)]]
def rt_103 : List (List rI) := [[(0, .aload_n 0, 1, [], 0), (1, .iconst 1, 1, [], 1), (2, .aload_n 0, 1, [], 0), (3, .getfield 57, 3, [7, 35, 824], 0), (6, .iload_n 1, 1, [], 0), (7, .iaload, 1, [], 0), (8, .sipush 1300, 3, [], 1300), (11, .imul, 1, [], 0), (12, .iload_n 2, 1, [], 0), (13, .iadd, 1, [], 0), (14, .invokevirtual 141, 3, [91, 2, 0, 745], 0), (17, .ireturn, 1, [], 0)]]
def rt_104 : List (List rI) := [[(0, .aload_n 0, 1, [], 0), (1, .iload_n 1, 1, [], 0), (2, .iconst 1, 1, [], 1), (3, .invokevirtual 164, 3, [102, 2, 0, 1002], 0), (6, .ireturn, 1, [], 0)]]
def rt_105 : List (List rI) := [[(0, .iconst 1, 1, [], 1), (1, .bipush 7, 2, [], 7), (3, .iload_n 0, 1, [], 0), (4, .imul, 1, [], 0), (5, .bipush 32, 2, [], 32), (7, .irem, 1, [], 0), (8, .ishl, 1, [], 0), (9, .iconst 1, 1, [], 1), (10, .bipush 11, 2, [], 11), (12, .iload_n 0, 1, [], 0), (13, .imul, 1, [], 0), (14, .iconst 5, 1, [], 5), (15, .iadd, 1, [], 0), (16, .bipush 32, 2, [], 32), (18, .irem, 1, [], 0), (19, .ishl, 1, [], 0)],
  [(20, .ior, 1, [], 0), (21, .ireturn, 1, [], 0)]]
def rt_106 : List (List rI) := [[(0, .iconst 0, 1, [], 0), (1, .istore_n 3, 1, [], 0), (2, .iload_n 3, 1, [], 0), (3, .aload_n 0, 1, [], 0), (4, .iload_n 1, 1, [], 0), (5, .iconst 2, 1, [], 2), (6, .invokevirtual 164, 3, [102, 2, 0, 1002], 0), (9, .if_icmp .ge 33, 3, [26], 0), (12, .aload_n 0, 1, [], 0), (13, .iload_n 1, 1, [], 0), (14, .bipush 16, 2, [], 16), (16, .bipush 10, 2, [], 10), (18, .iload_n 3, 1, [], 0), (19, .imul, 1, [], 0), (20, .iadd, 1, [], 0), (21, .invokevirtual 164, 3, [102, 2, 0, 1002], 0)],
  [(24, .iload_n 2, 1, [], 0), (25, .if_icmp .ne 11, 3, [24], 0), (28, .bipush 16, 2, [], 16), (30, .bipush 10, 2, [], 10), (32, .iload_n 3, 1, [], 0), (33, .imul, 1, [], 0), (34, .iadd, 1, [], 0), (35, .ireturn, 1, [], 0), (36, .iinc 3 1, 3, [], 1), (39, .goto (-37), 3, [2], 0), (42, .iconst 0, 1, [], 0), (43, .ireturn, 1, [], 0)]]
def rt_107 : List (List rI) := [[(0, .aload_n 0, 1, [], 0), (1, .iconst 0, 1, [], 0), (2, .putfield 167, 3, [7, 46, 835], 0), (5, .aload_n 0, 1, [], 0), (6, .aload_n 0, 1, [], 0), (7, .getfield 64, 3, [7, 38, 827], 0), (10, .iload_n 1, 1, [], 0), (11, .iaload, 1, [], 0), (12, .ifCond .le 7, 3, [11], 0), (15, .iconst 1, 1, [], 1), (16, .goto 4, 3, [12], 0), (19, .iconst 0, 1, [], 0), (20, .putfield 170, 3, [7, 49, 838], 0), (23, .aload_n 0, 1, [], 0), (24, .getfield 170, 3, [7, 49, 838], 0), (27, .ifCond .eq 35, 3, [36], 0)],
  [(30, .aload_n 0, 1, [], 0), (31, .aload_n 0, 1, [], 0), (32, .getfield 64, 3, [7, 38, 827], 0), (35, .iload_n 1, 1, [], 0), (36, .iaload, 1, [], 0), (37, .putfield 167, 3, [7, 46, 835], 0), (40, .aload_n 0, 1, [], 0), (41, .aload_n 0, 1, [], 0), (42, .getfield 67, 3, [7, 39, 828], 0), (45, .iload_n 1, 1, [], 0), (46, .iaload, 1, [], 0), (47, .putfield 173, 3, [7, 47, 836], 0), (50, .aload_n 0, 1, [], 0), (51, .aload_n 0, 1, [], 0), (52, .getfield 70, 3, [7, 40, 829], 0), (55, .iload_n 1, 1, [], 0)],
  [(56, .iaload, 1, [], 0), (57, .putfield 176, 3, [7, 48, 837], 0), (60, .iconst 1, 1, [], 1), (61, .ireturn, 1, [], 0), (62, .iconst 0, 1, [], 0), (63, .istore_n 2, 1, [], 0), (64, .iload_n 2, 1, [], 0), (65, .aload_n 0, 1, [], 0), (66, .getfield 179, 3, [7, 36, 825], 0), (69, .if_icmp .ge 59, 3, [77], 0), (72, .aload_n 0, 1, [], 0), (73, .iload_n 2, 1, [], 0), (74, .iload_n 1, 1, [], 0), (75, .invokevirtual 182, 3, [106, 2, 0, 1047], 0), (78, .istore_n 3, 1, [], 0), (79, .iload_n 3, 1, [], 0)],
  [(80, .ifCond .le 42, 3, [75], 0), (83, .aload_n 0, 1, [], 0), (84, .aload_n 0, 1, [], 0), (85, .iload_n 2, 1, [], 0), (86, .iload_n 3, 1, [], 0), (87, .iconst 1, 1, [], 1), (88, .iadd, 1, [], 0), (89, .invokevirtual 164, 3, [102, 2, 0, 1002], 0), (92, .putfield 167, 3, [7, 46, 835], 0), (95, .aload_n 0, 1, [], 0), (96, .aload_n 0, 1, [], 0), (97, .iload_n 2, 1, [], 0), (98, .iload_n 3, 1, [], 0), (99, .iconst 2, 1, [], 2), (100, .iadd, 1, [], 0), (101, .invokevirtual 185, 3, [103, 2, 0, 1014], 0)],
  [(104, .putfield 176, 3, [7, 48, 837], 0), (107, .aload_n 0, 1, [], 0), (108, .aload_n 0, 1, [], 0), (109, .iload_n 2, 1, [], 0), (110, .iload_n 3, 1, [], 0), (111, .bipush 6, 2, [], 6), (113, .iadd, 1, [], 0), (114, .invokevirtual 185, 3, [103, 2, 0, 1014], 0), (117, .putfield 173, 3, [7, 47, 836], 0), (120, .iconst 1, 1, [], 1), (121, .ireturn, 1, [], 0), (122, .iinc 2 1, 3, [], 1), (125, .goto (-61), 3, [38], 0), (128, .iconst 0, 1, [], 0), (129, .ireturn, 1, [], 0)]]
def rt_108 : List (List rI) := [[(0, .aload_n 0, 1, [], 0), (1, .iload_n 1, 1, [], 0), (2, .invokevirtual 188, 3, [107, 1, 0, 1043], 0), (5, .ifCond .eq 15, 3, [10], 0), (8, .aload_n 0, 1, [], 0), (9, .getfield 167, 3, [7, 46, 835], 0), (12, .iconst 1, 1, [], 1), (13, .if_icmp .ne 7, 3, [10], 0), (16, .iconst 1, 1, [], 1), (17, .goto 4, 3, [11], 0), (20, .iconst 0, 1, [], 0), (21, .ireturn, 1, [], 0)]]
def rt_109 : List (List rI) := [[(0, .iconst 0, 1, [], 0), (1, .istore_n 1, 1, [], 0), (2, .iload_n 1, 1, [], 0), (3, .bipush 120, 2, [], 120), (5, .if_icmp .ge 16, 3, [12], 0), (8, .aload_n 0, 1, [], 0), (9, .getfield 73, 3, [7, 42, 831], 0), (12, .iload_n 1, 1, [], 0), (13, .iconst 0, 1, [], 0), (14, .iastore, 1, [], 0), (15, .iinc 1 1, 3, [], 1), (18, .goto (-16), 3, [2], 0), (21, .return_, 1, [], 0)]]
def rt_110 : List (List rI) := [[(0, .iconst 0, 1, [], 0), (1, .istore_n 2, 1, [], 0), (2, .iload_n 2, 1, [], 0), (3, .aload_n 0, 1, [], 0), (4, .iload_n 1, 1, [], 0), (5, .iconst 2, 1, [], 2), (6, .invokevirtual 164, 3, [102, 2, 0, 1002], 0), (9, .if_icmp .ge 81, 3, [56], 0), (12, .bipush 16, 2, [], 16), (14, .bipush 10, 2, [], 10), (16, .iload_n 2, 1, [], 0), (17, .imul, 1, [], 0), (18, .iadd, 1, [], 0), (19, .istore_n 3, 1, [], 0), (20, .aload_n 0, 1, [], 0), (21, .iload_n 1, 1, [], 0)],
  [(22, .iload_n 3, 1, [], 0), (23, .invokevirtual 164, 3, [102, 2, 0, 1002], 0), (26, .istore 4, 2, [], 0), (28, .aload_n 0, 1, [], 0), (29, .getfield 73, 3, [7, 42, 831], 0), (32, .iload 4, 2, [], 0), (34, .iaload, 1, [], 0), (35, .ifCond .ne 49, 3, [54], 0), (38, .aload_n 0, 1, [], 0), (39, .getfield 73, 3, [7, 42, 831], 0), (42, .iload 4, 2, [], 0), (44, .aload_n 0, 1, [], 0), (45, .iload_n 1, 1, [], 0), (46, .iload_n 3, 1, [], 0), (47, .iconst 1, 1, [], 1), (48, .iadd, 1, [], 0)],
  [(49, .invokevirtual 164, 3, [102, 2, 0, 1002], 0), (52, .iastore, 1, [], 0), (53, .aload_n 0, 1, [], 0), (54, .getfield 79, 3, [7, 44, 833], 0), (57, .iload 4, 2, [], 0), (59, .aload_n 0, 1, [], 0), (60, .iload_n 1, 1, [], 0), (61, .iload_n 3, 1, [], 0), (62, .iconst 2, 1, [], 2), (63, .iadd, 1, [], 0), (64, .invokevirtual 185, 3, [103, 2, 0, 1014], 0), (67, .iastore, 1, [], 0), (68, .aload_n 0, 1, [], 0), (69, .getfield 76, 3, [7, 43, 832], 0), (72, .iload 4, 2, [], 0), (74, .aload_n 0, 1, [], 0)],
  [(75, .iload_n 1, 1, [], 0), (76, .iload_n 3, 1, [], 0), (77, .bipush 6, 2, [], 6), (79, .iadd, 1, [], 0), (80, .invokevirtual 185, 3, [103, 2, 0, 1014], 0), (83, .iastore, 1, [], 0), (84, .iinc 2 1, 3, [], 1), (87, .goto (-85), 3, [2], 0), (90, .return_, 1, [], 0)]]
def rt_111 : List (List rI) := [[(0, .iconst 0, 1, [], 0), (1, .istore_n 1, 1, [], 0), (2, .iconst 0, 1, [], 0), (3, .istore_n 2, 1, [], 0), (4, .iload_n 2, 1, [], 0), (5, .bipush 120, 2, [], 120), (7, .if_icmp .ge 26, 3, [20], 0), (10, .iload_n 1, 1, [], 0), (11, .aload_n 0, 1, [], 0), (12, .getfield 73, 3, [7, 42, 831], 0), (15, .iload_n 2, 1, [], 0), (16, .iaload, 1, [], 0), (17, .ifCond .le 7, 3, [15], 0), (20, .iconst 1, 1, [], 1), (21, .goto 4, 3, [16], 0), (24, .iconst 0, 1, [], 0)],
  [(25, .iadd, 1, [], 0), (26, .istore_n 1, 1, [], 0), (27, .iinc 2 1, 3, [], 1), (30, .goto (-26), 3, [4], 0), (33, .iload_n 1, 1, [], 0), (34, .ireturn, 1, [], 0)]]
def rt_112 : List (List rI) := [[(0, .iconst 0, 1, [], 0), (1, .istore_n 2, 1, [], 0), (2, .iconst 1, 1, [], 1), (3, .istore_n 3, 1, [], 0), (4, .iload_n 3, 1, [], 0), (5, .ifCond .eq 64, 3, [40], 0), (8, .aload_n 0, 1, [], 0), (9, .getfield 60, 3, [7, 37, 826], 0), (12, .iload_n 2, 1, [], 0), (13, .baload, 1, [], 0), (14, .istore_n 3, 1, [], 0), (15, .iconst 0, 1, [], 0), (16, .istore 4, 2, [], 0), (18, .iload 4, 2, [], 0), (20, .aload_n 0, 1, [], 0), (21, .getfield 179, 3, [7, 36, 825], 0)],
  [(24, .if_icmp .ge 30, 3, [31], 0), (27, .iload_n 3, 1, [], 0), (28, .ifCond .ne 14, 3, [25], 0), (31, .aload_n 0, 1, [], 0), (32, .getfield 57, 3, [7, 35, 824], 0), (35, .iload 4, 2, [], 0), (37, .iaload, 1, [], 0), (38, .iload_n 2, 1, [], 0), (39, .if_icmp .ne 7, 3, [27], 0), (42, .iconst 1, 1, [], 1), (43, .goto 4, 3, [28], 0), (46, .iconst 0, 1, [], 0), (47, .istore_n 3, 1, [], 0), (48, .iinc 4 1, 3, [], 1), (51, .goto (-33), 3, [13], 0), (54, .iload_n 2, 1, [], 0)],
  [(55, .iload_n 3, 1, [], 0), (56, .ifCond .eq 7, 3, [36], 0), (59, .iconst 1, 1, [], 1), (60, .goto 4, 3, [37], 0), (63, .iconst 0, 1, [], 0), (64, .iadd, 1, [], 0), (65, .istore_n 2, 1, [], 0), (66, .goto (-62), 3, [4], 0), (69, .iconst 0, 1, [], 0), (70, .istore 4, 2, [], 0), (72, .iconst 0, 1, [], 0), (73, .istore 5, 2, [], 0), (75, .iconst 0, 1, [], 0), (76, .istore 6, 2, [], 0), (78, .iload 6, 2, [], 0), (80, .bipush 120, 2, [], 120)],
  [(82, .if_icmp .ge 100, 3, [103], 0), (85, .aload_n 0, 1, [], 0), (86, .getfield 73, 3, [7, 42, 831], 0), (89, .iload 6, 2, [], 0), (91, .iaload, 1, [], 0), (92, .ifCond .le 84, 3, [101], 0), (95, .bipush 16, 2, [], 16), (97, .bipush 10, 2, [], 10), (99, .iload 4, 2, [], 0), (101, .imul, 1, [], 0), (102, .iadd, 1, [], 0), (103, .istore 7, 2, [], 0), (105, .aload_n 0, 1, [], 0), (106, .getfield 82, 3, [7, 45, 834], 0), (109, .iload 7, 2, [], 0), (111, .iload 6, 2, [], 0)],
  [(113, .i2b, 1, [], 0), (114, .bastore, 1, [], 0), (115, .aload_n 0, 1, [], 0), (116, .getfield 82, 3, [7, 45, 834], 0), (119, .iload 7, 2, [], 0), (121, .iconst 1, 1, [], 1), (122, .iadd, 1, [], 0), (123, .aload_n 0, 1, [], 0), (124, .getfield 73, 3, [7, 42, 831], 0), (127, .iload 6, 2, [], 0), (129, .iaload, 1, [], 0), (130, .i2b, 1, [], 0), (131, .bastore, 1, [], 0), (132, .aload_n 0, 1, [], 0), (133, .iload 7, 2, [], 0), (135, .iconst 2, 1, [], 2)],
  [(136, .iadd, 1, [], 0), (137, .aload_n 0, 1, [], 0), (138, .getfield 79, 3, [7, 44, 833], 0), (141, .iload 6, 2, [], 0), (143, .iaload, 1, [], 0), (144, .invokevirtual 161, 3, [92, 2, 0, 983], 0), (147, .aload_n 0, 1, [], 0), (148, .iload 7, 2, [], 0), (150, .bipush 6, 2, [], 6), (152, .iadd, 1, [], 0), (153, .aload_n 0, 1, [], 0), (154, .getfield 76, 3, [7, 43, 832], 0), (157, .iload 6, 2, [], 0), (159, .iaload, 1, [], 0), (160, .invokevirtual 161, 3, [92, 2, 0, 983], 0), (163, .iload 5, 2, [], 0)],
  [(165, .iload 6, 2, [], 0), (167, .invokestatic 192, 3, [105, 1, 1, 987], 0), (170, .ior, 1, [], 0), (171, .istore 5, 2, [], 0), (173, .iinc 4 1, 3, [], 1), (176, .iinc 6 1, 3, [], 1), (179, .goto (-101), 3, [46], 0), (182, .aload_n 0, 1, [], 0), (183, .getfield 82, 3, [7, 45, 834], 0), (186, .iconst 0, 1, [], 0), (187, .bipush 84, 2, [], 84), (189, .bastore, 1, [], 0), (190, .aload_n 0, 1, [], 0), (191, .getfield 82, 3, [7, 45, 834], 0), (194, .iconst 1, 1, [], 1), (195, .iload_n 1, 1, [], 0)],
  [(196, .i2b, 1, [], 0), (197, .bastore, 1, [], 0), (198, .aload_n 0, 1, [], 0), (199, .getfield 82, 3, [7, 45, 834], 0), (202, .iconst 2, 1, [], 2), (203, .iload 4, 2, [], 0), (205, .i2b, 1, [], 0), (206, .bastore, 1, [], 0), (207, .aload_n 0, 1, [], 0), (208, .getfield 82, 3, [7, 45, 834], 0), (211, .iconst 3, 1, [], 3), (212, .iconst 0, 1, [], 0), (213, .bastore, 1, [], 0), (214, .aload_n 0, 1, [], 0), (215, .iconst 4, 1, [], 4), (216, .aload_n 0, 1, [], 0)],
  [(217, .getfield 196, 3, [7, 33, 822], 0), (220, .invokevirtual 161, 3, [92, 2, 0, 983], 0), (223, .aload_n 0, 1, [], 0), (224, .bipush 8, 2, [], 8), (226, .iload 5, 2, [], 0), (228, .invokevirtual 161, 3, [92, 2, 0, 983], 0), (231, .aload_n 0, 1, [], 0), (232, .bipush 12, 2, [], 12), (234, .aload_n 0, 1, [], 0), (235, .getfield 196, 3, [7, 33, 822], 0), (238, .invokevirtual 161, 3, [92, 2, 0, 983], 0), (241, .aload_n 0, 1, [], 0), (242, .dup, 1, [], 0), (243, .getfield 196, 3, [7, 33, 822], 0), (246, .iconst 1, 1, [], 1), (247, .iadd, 1, [], 0)],
  [(248, .putfield 196, 3, [7, 33, 822], 0), (251, .aload_n 0, 1, [], 0), (252, .iconst 1, 1, [], 1), (253, .iload_n 2, 1, [], 0), (254, .sipush 1300, 3, [], 1300), (257, .imul, 1, [], 0), (258, .bipush 16, 2, [], 16), (260, .bipush 10, 2, [], 10), (262, .iload 4, 2, [], 0), (264, .imul, 1, [], 0), (265, .iadd, 1, [], 0), (266, .invokevirtual 154, 3, [94, 3, 0, 773], 0), (269, .iload_n 2, 1, [], 0), (270, .ireturn, 1, [], 0)]]
def rt_113 : List (List rI) := [[(0, .iload_n 1, 1, [], 0), (1, .istore_n 3, 1, [], 0), (2, .iload_n 3, 1, [], 0), (3, .iload_n 1, 1, [], 0), (4, .iload_n 2, 1, [], 0), (5, .iadd, 1, [], 0), (6, .if_icmp .ge 21, 3, [17], 0), (9, .aload_n 0, 1, [], 0), (10, .getfield 60, 3, [7, 37, 826], 0), (13, .aload_n 0, 1, [], 0), (14, .getfield 57, 3, [7, 35, 824], 0), (17, .iload_n 3, 1, [], 0), (18, .iaload, 1, [], 0), (19, .iconst 1, 1, [], 1), (20, .bastore, 1, [], 0), (21, .iinc 3 1, 3, [], 1)],
  [(24, .goto (-22), 3, [2], 0), (27, .iload_n 1, 1, [], 0), (28, .istore_n 3, 1, [], 0), (29, .iload_n 3, 1, [], 0), (30, .iload_n 2, 1, [], 0), (31, .iadd, 1, [], 0), (32, .aload_n 0, 1, [], 0), (33, .getfield 179, 3, [7, 36, 825], 0), (36, .if_icmp .ge 23, 3, [37], 0), (39, .aload_n 0, 1, [], 0), (40, .getfield 57, 3, [7, 35, 824], 0), (43, .iload_n 3, 1, [], 0), (44, .aload_n 0, 1, [], 0), (45, .getfield 57, 3, [7, 35, 824], 0), (48, .iload_n 3, 1, [], 0), (49, .iload_n 2, 1, [], 0)],
  [(50, .iadd, 1, [], 0), (51, .iaload, 1, [], 0), (52, .iastore, 1, [], 0), (53, .iinc 3 1, 3, [], 1), (56, .goto (-27), 3, [19], 0), (59, .aload_n 0, 1, [], 0), (60, .dup, 1, [], 0), (61, .getfield 179, 3, [7, 36, 825], 0), (64, .iload_n 2, 1, [], 0), (65, .isub, 1, [], 0), (66, .putfield 179, 3, [7, 36, 825], 0), (69, .return_, 1, [], 0)]]
def rt_114 : List (List rI) := [[(0, .aload_n 0, 1, [], 0), (1, .getfield 179, 3, [7, 36, 825], 0), (4, .istore_n 3, 1, [], 0), (5, .iload_n 3, 1, [], 0), (6, .iload_n 1, 1, [], 0), (7, .if_icmp .le 23, 3, [18], 0), (10, .aload_n 0, 1, [], 0), (11, .getfield 57, 3, [7, 35, 824], 0), (14, .iload_n 3, 1, [], 0), (15, .aload_n 0, 1, [], 0), (16, .getfield 57, 3, [7, 35, 824], 0), (19, .iload_n 3, 1, [], 0), (20, .iconst 1, 1, [], 1), (21, .isub, 1, [], 0), (22, .iaload, 1, [], 0), (23, .iastore, 1, [], 0)],
  [(24, .iinc 3 (-1), 3, [], (-1)), (27, .goto (-22), 3, [3], 0), (30, .aload_n 0, 1, [], 0), (31, .getfield 57, 3, [7, 35, 824], 0), (34, .iload_n 1, 1, [], 0), (35, .iload_n 2, 1, [], 0), (36, .iastore, 1, [], 0), (37, .aload_n 0, 1, [], 0), (38, .dup, 1, [], 0), (39, .getfield 179, 3, [7, 36, 825], 0), (42, .iconst 1, 1, [], 1), (43, .iadd, 1, [], 0), (44, .putfield 179, 3, [7, 36, 825], 0), (47, .return_, 1, [], 0)]]
def rt_115 : List (List rI) := [[(0, .iconst 0, 1, [], 0), (1, .istore_n 2, 1, [], 0), (2, .iconst 0, 1, [], 0), (3, .istore_n 3, 1, [], 0), (4, .iload_n 3, 1, [], 0), (5, .aload_n 0, 1, [], 0), (6, .getfield 179, 3, [7, 36, 825], 0), (9, .if_icmp .ge 26, 3, [21], 0), (12, .iload_n 2, 1, [], 0), (13, .aload_n 0, 1, [], 0), (14, .iload_n 3, 1, [], 0), (15, .invokevirtual 199, 3, [104, 1, 0, 998], 0), (18, .iload_n 1, 1, [], 0), (19, .if_icmp .ne 7, 3, [16], 0), (22, .iconst 1, 1, [], 1), (23, .goto 4, 3, [17], 0)],
  [(26, .iconst 0, 1, [], 0), (27, .iadd, 1, [], 0), (28, .istore_n 2, 1, [], 0), (29, .iinc 3 1, 3, [], 1), (32, .goto (-28), 3, [4], 0), (35, .iload_n 2, 1, [], 0), (36, .ireturn, 1, [], 0)]]
def rt_116 : List (List rI) := [[(0, .aload_n 0, 1, [], 0), (1, .dup, 1, [], 0), (2, .getfield 202, 3, [7, 34, 823], 0), (5, .iconst 1, 1, [], 1), (6, .iadd, 1, [], 0), (7, .putfield 202, 3, [7, 34, 823], 0), (10, .bipush 64, 2, [], 64), (12, .aload_n 0, 1, [], 0), (13, .getfield 202, 3, [7, 34, 823], 0), (16, .iconst 2, 1, [], 2), (17, .irem, 1, [], 0), (18, .imul, 1, [], 0), (19, .istore_n 1, 1, [], 0), (20, .aload_n 0, 1, [], 0), (21, .bipush 64, 2, [], 64), (23, .invokevirtual 147, 3, [93, 1, 0, 769], 0)],
  [(26, .aload_n 0, 1, [], 0), (27, .iconst 2, 1, [], 2), (28, .iload_n 1, 1, [], 0), (29, .bipush 60, 2, [], 60), (31, .iadd, 1, [], 0), (32, .iconst 4, 1, [], 4), (33, .invokevirtual 154, 3, [94, 3, 0, 773], 0), (36, .aload_n 0, 1, [], 0), (37, .getfield 125, 3, [7, 15, 804], 0), (40, .ifCond .eq 4, 3, [27], 0), (43, .return_, 1, [], 0), (44, .aload_n 0, 1, [], 0), (45, .iconst 0, 1, [], 0), (46, .aload_n 0, 1, [], 0), (47, .getfield 202, 3, [7, 34, 823], 0), (50, .invokevirtual 161, 3, [92, 2, 0, 983], 0)],
  [(53, .aload_n 0, 1, [], 0), (54, .iconst 4, 1, [], 4), (55, .aload_n 0, 1, [], 0), (56, .getfield 205, 3, [7, 30, 819], 0), (59, .invokevirtual 161, 3, [92, 2, 0, 983], 0), (62, .aload_n 0, 1, [], 0), (63, .bipush 8, 2, [], 8), (65, .aload_n 0, 1, [], 0), (66, .getfield 144, 3, [7, 29, 818], 0), (69, .invokevirtual 161, 3, [92, 2, 0, 983], 0), (72, .aload_n 0, 1, [], 0), (73, .bipush 12, 2, [], 12), (75, .aload_n 0, 1, [], 0), (76, .getfield 208, 3, [7, 31, 820], 0), (79, .invokevirtual 161, 3, [92, 2, 0, 983], 0), (82, .aload_n 0, 1, [], 0)],
  [(83, .bipush 16, 2, [], 16), (85, .aload_n 0, 1, [], 0), (86, .getfield 196, 3, [7, 33, 822], 0), (89, .invokevirtual 161, 3, [92, 2, 0, 983], 0), (92, .aload_n 0, 1, [], 0), (93, .getfield 82, 3, [7, 45, 834], 0), (96, .bipush 20, 2, [], 20), (98, .aload_n 0, 1, [], 0), (99, .getfield 179, 3, [7, 36, 825], 0), (102, .i2b, 1, [], 0), (103, .bastore, 1, [], 0), (104, .iconst 0, 1, [], 0), (105, .istore_n 2, 1, [], 0), (106, .iload_n 2, 1, [], 0), (107, .aload_n 0, 1, [], 0), (108, .getfield 179, 3, [7, 36, 825], 0)],
  [(111, .if_icmp .ge 25, 3, [78], 0), (114, .aload_n 0, 1, [], 0), (115, .getfield 82, 3, [7, 45, 834], 0), (118, .bipush 21, 2, [], 21), (120, .iload_n 2, 1, [], 0), (121, .iadd, 1, [], 0), (122, .aload_n 0, 1, [], 0), (123, .getfield 57, 3, [7, 35, 824], 0), (126, .iload_n 2, 1, [], 0), (127, .iaload, 1, [], 0), (128, .i2b, 1, [], 0), (129, .bastore, 1, [], 0), (130, .iinc 2 1, 3, [], 1), (133, .goto (-27), 3, [61], 0), (136, .aload_n 0, 1, [], 0), (137, .iconst 2, 1, [], 2)],
  [(138, .iload_n 1, 1, [], 0), (139, .bipush 60, 2, [], 60), (141, .invokevirtual 154, 3, [94, 3, 0, 773], 0), (144, .aload_n 0, 1, [], 0), (145, .getfield 125, 3, [7, 15, 804], 0), (148, .ifCond .eq 4, 3, [87], 0), (151, .return_, 1, [], 0), (152, .aload_n 0, 1, [], 0), (153, .iconst 0, 1, [], 0), (154, .aload_n 0, 1, [], 0), (155, .getfield 202, 3, [7, 34, 823], 0), (158, .invokevirtual 161, 3, [92, 2, 0, 983], 0), (161, .aload_n 0, 1, [], 0), (162, .iconst 2, 1, [], 2), (163, .iload_n 1, 1, [], 0), (164, .bipush 60, 2, [], 60)],
  [(166, .iadd, 1, [], 0), (167, .iconst 4, 1, [], 4), (168, .invokevirtual 154, 3, [94, 3, 0, 773], 0), (171, .return_, 1, [], 0)]]
def rt_117 : List (List rI) := [[(0, .iconst 0, 1, [], 0), (1, .istore_n 1, 1, [], 0), (2, .iload_n 1, 1, [], 0), (3, .bipush 12, 2, [], 12), (5, .if_icmp .ge 16, 3, [12], 0), (8, .aload_n 0, 1, [], 0), (9, .getfield 60, 3, [7, 37, 826], 0), (12, .iload_n 1, 1, [], 0), (13, .iconst 0, 1, [], 0), (14, .bastore, 1, [], 0), (15, .iinc 1 1, 3, [], 1), (18, .goto (-16), 3, [2], 0), (21, .iconst 0, 1, [], 0), (22, .istore_n 1, 1, [], 0), (23, .iload_n 1, 1, [], 0), (24, .bipush 120, 2, [], 120)],
  [(26, .if_icmp .ge 45, 3, [43], 0), (29, .aload_n 0, 1, [], 0), (30, .getfield 73, 3, [7, 42, 831], 0), (33, .iload_n 1, 1, [], 0), (34, .aload_n 0, 1, [], 0), (35, .getfield 64, 3, [7, 38, 827], 0), (38, .iload_n 1, 1, [], 0), (39, .iaload, 1, [], 0), (40, .iastore, 1, [], 0), (41, .aload_n 0, 1, [], 0), (42, .getfield 76, 3, [7, 43, 832], 0), (45, .iload_n 1, 1, [], 0), (46, .aload_n 0, 1, [], 0), (47, .getfield 67, 3, [7, 39, 828], 0), (50, .iload_n 1, 1, [], 0), (51, .iaload, 1, [], 0)],
  [(52, .iastore, 1, [], 0), (53, .aload_n 0, 1, [], 0), (54, .getfield 79, 3, [7, 44, 833], 0), (57, .iload_n 1, 1, [], 0), (58, .aload_n 0, 1, [], 0), (59, .getfield 70, 3, [7, 40, 829], 0), (62, .iload_n 1, 1, [], 0), (63, .iaload, 1, [], 0), (64, .iastore, 1, [], 0), (65, .iinc 1 1, 3, [], 1), (68, .goto (-45), 3, [14], 0), (71, .aload_n 0, 1, [], 0), (72, .iconst 0, 1, [], 0), (73, .invokevirtual 211, 3, [112, 1, 0, 979], 0), (76, .istore_n 1, 1, [], 0), (77, .aload_n 0, 1, [], 0)],
  [(78, .getfield 125, 3, [7, 15, 804], 0), (81, .ifCond .eq 4, 3, [51], 0), (84, .return_, 1, [], 0), (85, .aload_n 0, 1, [], 0), (86, .iconst 0, 1, [], 0), (87, .iload_n 1, 1, [], 0), (88, .invokevirtual 214, 3, [114, 2, 0, 990], 0), (91, .aload_n 0, 1, [], 0), (92, .iconst 0, 1, [], 0), (93, .invokevirtual 217, 3, [115, 1, 0, 994], 0), (96, .iconst 4, 1, [], 4), (97, .if_icmp .ge 4, 3, [61], 0), (100, .return_, 1, [], 0), (101, .iconst 4, 1, [], 4), (102, .aload_n 0, 1, [], 0), (103, .iconst 1, 1, [], 1)],
  [(104, .invokevirtual 217, 3, [115, 1, 0, 994], 0), (107, .iadd, 1, [], 0), (108, .istore_n 2, 1, [], 0), (109, .aload_n 0, 1, [], 0), (110, .invokevirtual 220, 3, [109, 0, 0, 1006], 0), (113, .iconst 0, 1, [], 0), (114, .istore_n 3, 1, [], 0), (115, .iload_n 3, 1, [], 0), (116, .iload_n 2, 1, [], 0), (117, .if_icmp .ge 14, 3, [79], 0), (120, .aload_n 0, 1, [], 0), (121, .iload_n 3, 1, [], 0), (122, .invokevirtual 223, 3, [110, 1, 0, 1010], 0), (125, .iinc 3 1, 3, [], 1), (128, .goto (-13), 3, [71], 0), (131, .aload_n 0, 1, [], 0)],
  [(132, .iconst 1, 1, [], 1), (133, .invokevirtual 211, 3, [112, 1, 0, 979], 0), (136, .istore_n 1, 1, [], 0), (137, .aload_n 0, 1, [], 0), (138, .getfield 125, 3, [7, 15, 804], 0), (141, .ifCond .eq 4, 3, [87], 0), (144, .return_, 1, [], 0), (145, .aload_n 0, 1, [], 0), (146, .invokevirtual 226, 3, [111, 0, 0, 1018], 0), (149, .bipush 40, 2, [], 40), (151, .if_icmp .le 7, 3, [93], 0), (154, .iconst 1, 1, [], 1), (155, .goto 4, 3, [94], 0), (158, .iconst 0, 1, [], 0), (159, .istore_n 3, 1, [], 0), (160, .aload_n 0, 1, [], 0)],
  [(161, .iconst 0, 1, [], 0), (162, .iload_n 2, 1, [], 0), (163, .invokevirtual 229, 3, [113, 2, 0, 1022], 0), (166, .aload_n 0, 1, [], 0), (167, .iconst 0, 1, [], 0), (168, .iload_n 1, 1, [], 0), (169, .invokevirtual 214, 3, [114, 2, 0, 990], 0), (172, .iload_n 3, 1, [], 0), (173, .ifCond .ne 4, 3, [106], 0), (176, .return_, 1, [], 0), (177, .aload_n 0, 1, [], 0), (178, .invokevirtual 220, 3, [109, 0, 0, 1006], 0), (181, .iconst 1, 1, [], 1), (182, .aload_n 0, 1, [], 0), (183, .iconst 2, 1, [], 2), (184, .invokevirtual 217, 3, [115, 1, 0, 994], 0)],
  [(187, .iadd, 1, [], 0), (188, .istore_n 2, 1, [], 0), (189, .iconst 0, 1, [], 0), (190, .istore 4, 2, [], 0), (192, .iload 4, 2, [], 0), (194, .iload_n 2, 1, [], 0), (195, .if_icmp .ge 15, 3, [124], 0), (198, .aload_n 0, 1, [], 0), (199, .iload 4, 2, [], 0), (201, .invokevirtual 223, 3, [110, 1, 0, 1010], 0), (204, .iinc 4 1, 3, [], 1), (207, .goto (-15), 3, [116], 0), (210, .iconst 0, 1, [], 0), (211, .istore 4, 2, [], 0), (213, .iload 4, 2, [], 0), (215, .bipush 120, 2, [], 120)],
  [(217, .if_icmp .ge 38, 3, [147], 0), (220, .aload_n 0, 1, [], 0), (221, .getfield 73, 3, [7, 42, 831], 0), (224, .iload 4, 2, [], 0), (226, .aload_n 0, 1, [], 0), (227, .getfield 73, 3, [7, 42, 831], 0), (230, .iload 4, 2, [], 0), (232, .iaload, 1, [], 0), (233, .iconst 2, 1, [], 2), (234, .if_icmp .ne 7, 3, [140], 0), (237, .iconst 0, 1, [], 0), (238, .goto 10, 3, [144], 0), (241, .aload_n 0, 1, [], 0), (242, .getfield 73, 3, [7, 42, 831], 0), (245, .iload 4, 2, [], 0), (247, .iaload, 1, [], 0)],
  [(248, .iastore, 1, [], 0), (249, .iinc 4 1, 3, [], 1), (252, .goto (-39), 3, [126], 0), (255, .aload_n 0, 1, [], 0), (256, .invokevirtual 226, 3, [111, 0, 0, 1018], 0), (259, .ifCond .le 7, 3, [152], 0), (262, .iconst 1, 1, [], 1), (263, .goto 4, 3, [153], 0), (266, .iconst 0, 1, [], 0), (267, .istore 4, 2, [], 0), (269, .iload 4, 2, [], 0), (271, .ifCond .eq 9, 3, [160], 0), (274, .aload_n 0, 1, [], 0), (275, .iconst 2, 1, [], 2), (276, .invokevirtual 211, 3, [112, 1, 0, 979], 0), (279, .istore_n 1, 1, [], 0)],
  [(280, .aload_n 0, 1, [], 0), (281, .getfield 125, 3, [7, 15, 804], 0), (284, .ifCond .eq 4, 3, [164], 0), (287, .return_, 1, [], 0), (288, .aload_n 0, 1, [], 0), (289, .iconst 0, 1, [], 0), (290, .iload_n 2, 1, [], 0), (291, .invokevirtual 229, 3, [113, 2, 0, 1022], 0), (294, .iload 4, 2, [], 0), (296, .ifCond .eq 9, 3, [174], 0), (299, .aload_n 0, 1, [], 0), (300, .iconst 0, 1, [], 0), (301, .iload_n 1, 1, [], 0), (302, .invokevirtual 214, 3, [114, 2, 0, 990], 0), (305, .return_, 1, [], 0)]]
def rt_118 : List (List rI) := [[(0, .aload_n 0, 1, [], 0), (1, .invokevirtual 232, 3, [96, 0, 0, 785], 0), (4, .istore_n 1, 1, [], 0), (5, .aload_n 0, 1, [], 0), (6, .getfield 138, 3, [7, 41, 830], 0), (9, .ifCond .le 7, 3, [8], 0), (12, .aload_n 0, 1, [], 0), (13, .invokevirtual 235, 3, [117, 0, 0, 975], 0), (16, .aload_n 0, 1, [], 0), (17, .getfield 125, 3, [7, 15, 804], 0), (20, .ifCond .eq 4, 3, [12], 0), (23, .return_, 1, [], 0), (24, .aload_n 0, 1, [], 0), (25, .iconst 0, 1, [], 0), (26, .putfield 138, 3, [7, 41, 830], 0), (29, .iconst 0, 1, [], 0)],
  [(30, .istore_n 2, 1, [], 0), (31, .iload_n 2, 1, [], 0), (32, .bipush 120, 2, [], 120), (34, .if_icmp .ge 16, 3, [27], 0), (37, .aload_n 0, 1, [], 0), (38, .getfield 64, 3, [7, 38, 827], 0), (41, .iload_n 2, 1, [], 0), (42, .iconst 0, 1, [], 0), (43, .iastore, 1, [], 0), (44, .iinc 2 1, 3, [], 1), (47, .goto (-16), 3, [17], 0), (50, .aload_n 0, 1, [], 0), (51, .invokevirtual 232, 3, [96, 0, 0, 785], 0), (54, .istore_n 1, 1, [], 0), (55, .aload_n 0, 1, [], 0), (56, .aload_n 0, 1, [], 0)],
  [(57, .getfield 151, 3, [7, 28, 817], 0), (60, .putfield 205, 3, [7, 30, 819], 0), (63, .aload_n 0, 1, [], 0), (64, .aload_n 0, 1, [], 0), (65, .getfield 158, 3, [7, 32, 821], 0), (68, .putfield 208, 3, [7, 31, 820], 0), (71, .aload_n 0, 1, [], 0), (72, .invokevirtual 238, 3, [116, 0, 0, 1026], 0), (75, .aload_n 0, 1, [], 0), (76, .getfield 125, 3, [7, 15, 804], 0), (79, .ifCond .ne 8, 3, [46], 0), (82, .aload_n 0, 1, [], 0), (83, .invokevirtual 232, 3, [96, 0, 0, 785], 0), (86, .istore_n 1, 1, [], 0), (87, .return_, 1, [], 0)]]
def rt_119 : List (List rI) := [[(0, .aload_n 0, 1, [], 0), (1, .getfield 151, 3, [7, 28, 817], 0), (4, .i2l, 1, [], 0), (5, .iload_n 1, 1, [], 0), (6, .i2l, 1, [], 0), (7, .ladd, 1, [], 0), (8, .ldc2_w 241, 3, [12, 1034], 0), (11, .ladd, 1, [], 0), (12, .aload_n 0, 1, [], 0), (13, .getfield 144, 3, [7, 29, 818], 0), (16, .i2l, 1, [], 0), (17, .lsub, 1, [], 0), (18, .aload_n 0, 1, [], 0), (19, .getfield 88, 3, [7, 0, 789], 0), (22, .iload_n 2, 1, [], 0), (23, .isub, 1, [], 0)],
  [(24, .i2l, 1, [], 0), (25, .lcmp, 1, [], 0), (26, .ifCond .gt 7, 3, [21], 0), (29, .iconst 1, 1, [], 1), (30, .goto 4, 3, [22], 0), (33, .iconst 0, 1, [], 0), (34, .ireturn, 1, [], 0)]]
def rt_120 : List (List rI) := [[(0, .aload_n 0, 1, [], 0), (1, .getfield 205, 3, [7, 30, 819], 0), (4, .aload_n 0, 1, [], 0), (5, .getfield 151, 3, [7, 28, 817], 0), (8, .if_icmp .eq 7, 3, [7], 0), (11, .aload_n 0, 1, [], 0), (12, .invokevirtual 243, 3, [118, 0, 0, 971], 0), (15, .aload_n 0, 1, [], 0), (16, .getfield 125, 3, [7, 15, 804], 0), (19, .ifCond .eq 5, 3, [12], 0), (22, .iconst 0, 1, [], 0), (23, .ireturn, 1, [], 0), (24, .aload_n 0, 1, [], 0), (25, .getfield 151, 3, [7, 28, 817], 0), (28, .istore_n 2, 1, [], 0), (29, .aload_n 0, 1, [], 0)],
  [(30, .getfield 144, 3, [7, 29, 818], 0), (33, .istore_n 3, 1, [], 0), (34, .iconst 0, 1, [], 0), (35, .istore 4, 2, [], 0), (37, .iconst 1, 1, [], 1), (38, .istore 5, 2, [], 0), (40, .iload 5, 2, [], 0), (42, .ifCond .eq 204, 3, [131], 0), (45, .iload 4, 2, [], 0), (47, .iload_n 1, 1, [], 0), (48, .if_icmp .ge 198, 3, [131], 0), (51, .iload_n 3, 1, [], 0), (52, .iload_n 2, 1, [], 0), (53, .if_icmp .ge 193, 3, [131], 0), (56, .aload_n 0, 1, [], 0), (57, .iconst 0, 1, [], 0)],
  [(58, .iload_n 3, 1, [], 0), (59, .iconst 1, 1, [], 1), (60, .iadd, 1, [], 0), (61, .invokevirtual 100, 3, [90, 2, 0, 749], 0), (64, .istore 6, 2, [], 0), (66, .aload_n 0, 1, [], 0), (67, .iload_n 3, 1, [], 0), (68, .invokevirtual 246, 3, [99, 1, 0, 761], 0), (71, .istore 7, 2, [], 0), (73, .aload_n 0, 1, [], 0), (74, .iload 6, 2, [], 0), (76, .invokevirtual 188, 3, [107, 1, 0, 1043], 0), (79, .ifCond .eq 23, 3, [55], 0), (82, .aload_n 0, 1, [], 0), (83, .getfield 167, 3, [7, 46, 835], 0), (86, .iconst 1, 1, [], 1)],
  [(87, .if_icmp .ne 15, 3, [55], 0), (90, .aload_n 0, 1, [], 0), (91, .getfield 176, 3, [7, 48, 837], 0), (94, .iload_n 3, 1, [], 0), (95, .if_icmp .ne 7, 3, [55], 0), (98, .iconst 1, 1, [], 1), (99, .goto 4, 3, [56], 0), (102, .iconst 0, 1, [], 0), (103, .istore 8, 2, [], 0), (105, .iload 8, 2, [], 0), (107, .ifCond .eq 123, 3, [123], 0), (110, .aload_n 0, 1, [], 0), (111, .iload 7, 2, [], 0), (113, .iconst 0, 1, [], 0), (114, .invokevirtual 249, 3, [119, 2, 0, 1030], 0), (117, .ifCond .eq 26, 3, [75], 0)],
  [(120, .aload_n 0, 1, [], 0), (121, .getfield 64, 3, [7, 38, 827], 0), (124, .iload 6, 2, [], 0), (126, .iaload, 1, [], 0), (127, .ifCond .gt 12, 3, [73], 0), (130, .aload_n 0, 1, [], 0), (131, .getfield 138, 3, [7, 41, 830], 0), (134, .bipush 24, 2, [], 24), (136, .if_icmp .ge 7, 3, [75], 0), (139, .iconst 1, 1, [], 1), (140, .goto 4, 3, [76], 0), (143, .iconst 0, 1, [], 0), (144, .istore 5, 2, [], 0), (146, .iload 5, 2, [], 0), (148, .ifCond .eq 82, 3, [123], 0), (151, .iconst 0, 1, [], 0)],
  [(152, .istore 9, 2, [], 0), (154, .iload 9, 2, [], 0), (156, .iload 7, 2, [], 0), (158, .bipush 12, 2, [], 12), (160, .isub, 1, [], 0), (161, .if_icmp .ge 29, 3, [101], 0), (164, .aload_n 0, 1, [], 0), (165, .getfield 85, 3, [7, 50, 839], 0), (168, .iload 9, 2, [], 0), (170, .aload_n 0, 1, [], 0), (171, .iconst 0, 1, [], 0), (172, .iload_n 3, 1, [], 0), (173, .bipush 12, 2, [], 12), (175, .iadd, 1, [], 0), (176, .iload 9, 2, [], 0), (178, .iadd, 1, [], 0)],
  [(179, .invokevirtual 100, 3, [90, 2, 0, 749], 0), (182, .i2b, 1, [], 0), (183, .bastore, 1, [], 0), (184, .iinc 9 1, 3, [], 1), (187, .goto (-33), 3, [81], 0), (190, .aload_n 0, 1, [], 0), (191, .getfield 151, 3, [7, 28, 817], 0), (194, .istore 9, 2, [], 0), (196, .aload_n 0, 1, [], 0), (197, .getfield 158, 3, [7, 32, 821], 0), (200, .istore 10, 2, [], 0), (202, .aload_n 0, 1, [], 0), (203, .iconst 1, 1, [], 1), (204, .iload 6, 2, [], 0), (206, .iload 7, 2, [], 0), (208, .bipush 12, 2, [], 12)],
  [(210, .isub, 1, [], 0), (211, .invokevirtual 253, 3, [100, 3, 0, 1051], 0), (214, .ifCond .ne 5, 3, [117], 0), (217, .iconst 0, 1, [], 0), (218, .ireturn, 1, [], 0), (219, .aload_n 0, 1, [], 0), (220, .iload 6, 2, [], 0), (222, .iconst 1, 1, [], 1), (223, .iload 10, 2, [], 0), (225, .iload 9, 2, [], 0), (227, .invokevirtual 257, 3, [101, 4, 0, 765], 0), (230, .iload 5, 2, [], 0), (232, .ifCond .eq 11, 3, [130], 0), (235, .iinc 4 1, 3, [], 1), (238, .iload_n 3, 1, [], 0), (239, .iload 7, 2, [], 0)],
  [(241, .iadd, 1, [], 0), (242, .istore_n 3, 1, [], 0), (243, .goto (-203), 3, [22], 0), (246, .aload_n 0, 1, [], 0), (247, .invokevirtual 232, 3, [96, 0, 0, 785], 0), (250, .istore 6, 2, [], 0), (252, .aload_n 0, 1, [], 0), (253, .iload_n 3, 1, [], 0), (254, .putfield 144, 3, [7, 29, 818], 0), (257, .iload 4, 2, [], 0), (259, .ifCond .le 20, 3, [147], 0), (262, .aload_n 0, 1, [], 0), (263, .invokevirtual 238, 3, [116, 0, 0, 1026], 0), (266, .aload_n 0, 1, [], 0), (267, .getfield 125, 3, [7, 15, 804], 0), (270, .ifCond .ne 9, 3, [147], 0)],
  [(273, .aload_n 0, 1, [], 0), (274, .invokevirtual 232, 3, [96, 0, 0, 785], 0), (277, .istore 6, 2, [], 0), (279, .iload 4, 2, [], 0), (281, .ireturn, 1, [], 0)]]
def rt_121 : List (List rI) := [[(0, .aload_n 0, 1, [], 0), (1, .getfield 151, 3, [7, 28, 817], 0), (4, .istore_n 1, 1, [], 0), (5, .iconst 1, 1, [], 1), (6, .istore_n 2, 1, [], 0), (7, .aload_n 0, 1, [], 0), (8, .getfield 125, 3, [7, 15, 804], 0), (11, .ifCond .ne 26, 3, [19], 0), (14, .aload_n 0, 1, [], 0), (15, .getfield 144, 3, [7, 29, 818], 0), (18, .iload_n 1, 1, [], 0), (19, .if_icmp .ge 18, 3, [19], 0), (22, .iload_n 2, 1, [], 0), (23, .ifCond .le 14, 3, [19], 0), (26, .aload_n 0, 1, [], 0), (27, .sipush 1000, 3, [], 1000)],
  [(30, .invokevirtual 261, 3, [120, 1, 0, 1039], 0), (33, .istore_n 2, 1, [], 0), (34, .goto (-27), 3, [5], 0), (37, .return_, 1, [], 0)]]
def rt_122 : List (List rI) := [[(0, .aload_n 0, 1, [], 0), (1, .getfield 138, 3, [7, 41, 830], 0), (4, .istore_n 1, 1, [], 0), (5, .iconst 0, 1, [], 0), (6, .istore_n 2, 1, [], 0), (7, .iload_n 2, 1, [], 0), (8, .aload_n 0, 1, [], 0), (9, .getfield 135, 3, [7, 23, 812], 0), (12, .if_icmp .ge 82, 3, [53], 0), (15, .aload_n 0, 1, [], 0), (16, .getfield 64, 3, [7, 38, 827], 0), (19, .aload_n 0, 1, [], 0), (20, .getfield 48, 3, [7, 25, 814], 0), (23, .iload_n 2, 1, [], 0), (24, .iaload, 1, [], 0), (25, .iaload, 1, [], 0)],
  [(26, .ifCond .le 7, 3, [19], 0), (29, .iconst 1, 1, [], 1), (30, .goto 4, 3, [20], 0), (33, .iconst 0, 1, [], 0), (34, .istore_n 3, 1, [], 0), (35, .iconst 0, 1, [], 0), (36, .istore 4, 2, [], 0), (38, .iload 4, 2, [], 0), (40, .iload_n 2, 1, [], 0), (41, .if_icmp .ge 35, 3, [43], 0), (44, .iload_n 3, 1, [], 0), (45, .ifCond .ne 19, 3, [37], 0), (48, .aload_n 0, 1, [], 0), (49, .getfield 48, 3, [7, 25, 814], 0), (52, .iload 4, 2, [], 0), (54, .iaload, 1, [], 0)],
  [(55, .aload_n 0, 1, [], 0), (56, .getfield 48, 3, [7, 25, 814], 0), (59, .iload_n 2, 1, [], 0), (60, .iaload, 1, [], 0), (61, .if_icmp .ne 7, 3, [39], 0), (64, .iconst 1, 1, [], 1), (65, .goto 4, 3, [40], 0), (68, .iconst 0, 1, [], 0), (69, .istore_n 3, 1, [], 0), (70, .iinc 4 1, 3, [], 1), (73, .goto (-35), 3, [23], 0), (76, .iload_n 1, 1, [], 0), (77, .iload_n 3, 1, [], 0), (78, .ifCond .eq 7, 3, [48], 0), (81, .iconst 0, 1, [], 0), (82, .goto 4, 3, [49], 0)],
  [(85, .iconst 1, 1, [], 1), (86, .iadd, 1, [], 0), (87, .istore_n 1, 1, [], 0), (88, .iinc 2 1, 3, [], 1), (91, .goto (-84), 3, [5], 0), (94, .iload_n 1, 1, [], 0), (95, .ireturn, 1, [], 0)]]
def rt_123 : List (List rI) := [[(0, .aload_n 0, 1, [], 0), (1, .invokevirtual 264, 3, [122, 0, 0, 967], 0), (4, .bipush 24, 2, [], 24), (6, .if_icmp .le 7, 3, [6], 0), (9, .aload_n 0, 1, [], 0), (10, .invokevirtual 243, 3, [118, 0, 0, 971], 0), (13, .iconst 0, 1, [], 0), (14, .istore_n 1, 1, [], 0), (15, .iconst 0, 1, [], 0), (16, .istore_n 2, 1, [], 0), (17, .iload_n 2, 1, [], 0), (18, .aload_n 0, 1, [], 0), (19, .getfield 135, 3, [7, 23, 812], 0), (22, .if_icmp .ge 21, 3, [25], 0), (25, .iload_n 1, 1, [], 0), (26, .bipush 12, 2, [], 12)],
  [(28, .aload_n 0, 1, [], 0), (29, .getfield 51, 3, [7, 26, 815], 0), (32, .iload_n 2, 1, [], 0), (33, .iaload, 1, [], 0), (34, .iadd, 1, [], 0), (35, .iadd, 1, [], 0), (36, .istore_n 1, 1, [], 0), (37, .iinc 2 1, 3, [], 1), (40, .goto (-23), 3, [10], 0), (43, .aload_n 0, 1, [], 0), (44, .getfield 125, 3, [7, 15, 804], 0), (47, .ifCond .ne 69, 3, [60], 0), (50, .aload_n 0, 1, [], 0), (51, .iload_n 1, 1, [], 0), (52, .sipush 176, 3, [], 176), (55, .invokevirtual 249, 3, [119, 2, 0, 1030], 0)],
  [(58, .ifCond .ne 58, 3, [60], 0), (61, .aload_n 0, 1, [], 0), (62, .invokevirtual 267, 3, [121, 0, 0, 1035], 0), (65, .aload_n 0, 1, [], 0), (66, .getfield 125, 3, [7, 15, 804], 0), (69, .ifCond .ne 27, 3, [51], 0), (72, .aload_n 0, 1, [], 0), (73, .iload_n 1, 1, [], 0), (74, .sipush 176, 3, [], 176), (77, .invokevirtual 249, 3, [119, 2, 0, 1030], 0), (80, .ifCond .ne 16, 3, [51], 0), (83, .aload_n 0, 1, [], 0), (84, .iconst 0, 1, [], 0), (85, .putfield 135, 3, [7, 23, 812], 0), (88, .aload_n 0, 1, [], 0), (89, .iconst 0, 1, [], 0)],
  [(90, .putfield 132, 3, [7, 22, 811], 0), (93, .bipush (-3), 2, [], (-3)), (95, .ireturn, 1, [], 0), (96, .aload_n 0, 1, [], 0), (97, .getfield 125, 3, [7, 15, 804], 0), (100, .ifCond .ne 16, 3, [60], 0), (103, .aload_n 0, 1, [], 0), (104, .invokevirtual 264, 3, [122, 0, 0, 967], 0), (107, .bipush 24, 2, [], 24), (109, .if_icmp .le 7, 3, [60], 0), (112, .aload_n 0, 1, [], 0), (113, .invokevirtual 243, 3, [118, 0, 0, 971], 0), (116, .aload_n 0, 1, [], 0), (117, .getfield 125, 3, [7, 15, 804], 0), (120, .ifCond .eq 6, 3, [65], 0), (123, .bipush (-2), 2, [], (-2))],
  [(125, .ireturn, 1, [], 0), (126, .aload_n 0, 1, [], 0), (127, .getfield 135, 3, [7, 23, 812], 0), (130, .istore_n 2, 1, [], 0), (131, .aload_n 0, 1, [], 0), (132, .getfield 158, 3, [7, 32, 821], 0), (135, .istore_n 3, 1, [], 0), (136, .aload_n 0, 1, [], 0), (137, .getfield 151, 3, [7, 28, 817], 0), (140, .istore 4, 2, [], 0), (142, .iconst 0, 1, [], 0), (143, .istore 5, 2, [], 0), (145, .iload 5, 2, [], 0), (147, .iload_n 2, 1, [], 0), (148, .if_icmp .ge 97, 3, [129], 0), (151, .iconst 0, 1, [], 0)],
  [(152, .istore 6, 2, [], 0), (154, .iload 6, 2, [], 0), (156, .aload_n 0, 1, [], 0), (157, .getfield 51, 3, [7, 26, 815], 0), (160, .iload 5, 2, [], 0), (162, .iaload, 1, [], 0), (163, .if_icmp .ge 29, 3, [101], 0), (166, .aload_n 0, 1, [], 0), (167, .getfield 85, 3, [7, 50, 839], 0), (170, .iload 6, 2, [], 0), (172, .aload_n 0, 1, [], 0), (173, .getfield 54, 3, [7, 27, 816], 0), (176, .bipush 64, 2, [], 64), (178, .iload 5, 2, [], 0), (180, .imul, 1, [], 0), (181, .iload 6, 2, [], 0)],
  [(183, .iadd, 1, [], 0), (184, .baload, 1, [], 0), (185, .bastore, 1, [], 0), (186, .iinc 6 1, 3, [], 1), (189, .goto (-35), 3, [81], 0), (192, .aload_n 0, 1, [], 0), (193, .aload_n 0, 1, [], 0), (194, .getfield 45, 3, [7, 24, 813], 0), (197, .iload 5, 2, [], 0), (199, .iaload, 1, [], 0), (200, .iload 5, 2, [], 0), (202, .iload_n 2, 1, [], 0), (203, .iconst 1, 1, [], 1), (204, .isub, 1, [], 0), (205, .if_icmp .ge 9, 3, [113], 0), (208, .sipush 128, 3, [], 128)],
  [(211, .goto 4, 3, [114], 0), (214, .iconst 0, 1, [], 0), (215, .iadd, 1, [], 0), (216, .aload_n 0, 1, [], 0), (217, .getfield 48, 3, [7, 25, 814], 0), (220, .iload 5, 2, [], 0), (222, .iaload, 1, [], 0), (223, .aload_n 0, 1, [], 0), (224, .getfield 51, 3, [7, 26, 815], 0), (227, .iload 5, 2, [], 0), (229, .iaload, 1, [], 0), (230, .invokevirtual 253, 3, [100, 3, 0, 1051], 0), (233, .ifCond .ne 6, 3, [127], 0), (236, .bipush (-2), 2, [], (-2)), (238, .ireturn, 1, [], 0), (239, .iinc 5 1, 3, [], 1)],
  [(242, .goto (-97), 3, [76], 0), (245, .iconst 0, 1, [], 0), (246, .istore 5, 2, [], 0), (248, .iload 5, 2, [], 0), (250, .iload_n 2, 1, [], 0), (251, .if_icmp .ge 48, 3, [159], 0), (254, .aload_n 0, 1, [], 0), (255, .aload_n 0, 1, [], 0), (256, .getfield 48, 3, [7, 25, 814], 0), (259, .iload 5, 2, [], 0), (261, .iaload, 1, [], 0), (262, .aload_n 0, 1, [], 0), (263, .getfield 45, 3, [7, 24, 813], 0), (266, .iload 5, 2, [], 0), (268, .iaload, 1, [], 0), (269, .iload_n 3, 1, [], 0)],
  [(270, .iload 5, 2, [], 0), (272, .iadd, 1, [], 0), (273, .iload 4, 2, [], 0), (275, .invokevirtual 257, 3, [101, 4, 0, 765], 0), (278, .iload 4, 2, [], 0), (280, .bipush 12, 2, [], 12), (282, .aload_n 0, 1, [], 0), (283, .getfield 51, 3, [7, 26, 815], 0), (286, .iload 5, 2, [], 0), (288, .iaload, 1, [], 0), (289, .iadd, 1, [], 0), (290, .iadd, 1, [], 0), (291, .istore 4, 2, [], 0), (293, .iinc 5 1, 3, [], 1), (296, .goto (-48), 3, [131], 0), (299, .aload_n 0, 1, [], 0)],
  [(300, .iconst 0, 1, [], 0), (301, .putfield 135, 3, [7, 23, 812], 0), (304, .aload_n 0, 1, [], 0), (305, .iconst 0, 1, [], 0), (306, .putfield 132, 3, [7, 22, 811], 0), (309, .iload_n 2, 1, [], 0), (310, .ireturn, 1, [], 0)]]
def rt_124 : List (List rI) := [[(0, .aload_n 0, 1, [], 0), (1, .getfield 45, 3, [7, 24, 813], 0), (4, .aload_n 0, 1, [], 0), (5, .getfield 135, 3, [7, 23, 812], 0), (8, .iload_n 1, 1, [], 0), (9, .iastore, 1, [], 0), (10, .aload_n 0, 1, [], 0), (11, .getfield 48, 3, [7, 25, 814], 0), (14, .aload_n 0, 1, [], 0), (15, .getfield 135, 3, [7, 23, 812], 0), (18, .iload_n 2, 1, [], 0), (19, .iastore, 1, [], 0), (20, .aload_n 0, 1, [], 0), (21, .getfield 51, 3, [7, 26, 815], 0), (24, .aload_n 0, 1, [], 0), (25, .getfield 135, 3, [7, 23, 812], 0)],
  [(28, .iload_n 1, 1, [], 0), (29, .iconst 1, 1, [], 1), (30, .if_icmp .ne 10, 3, [22], 0), (33, .aload_n 0, 1, [], 0), (34, .getfield 129, 3, [7, 17, 806], 0), (37, .goto 4, 3, [23], 0), (40, .iconst 0, 1, [], 0), (41, .iastore, 1, [], 0), (42, .iconst 0, 1, [], 0), (43, .istore_n 3, 1, [], 0), (44, .iload_n 3, 1, [], 0), (45, .aload_n 0, 1, [], 0), (46, .getfield 51, 3, [7, 26, 815], 0), (49, .aload_n 0, 1, [], 0), (50, .getfield 135, 3, [7, 23, 812], 0), (53, .iaload, 1, [], 0)],
  [(54, .if_icmp .ge 29, 3, [48], 0), (57, .aload_n 0, 1, [], 0), (58, .getfield 54, 3, [7, 27, 816], 0), (61, .bipush 64, 2, [], 64), (63, .aload_n 0, 1, [], 0), (64, .getfield 135, 3, [7, 23, 812], 0), (67, .imul, 1, [], 0), (68, .iload_n 3, 1, [], 0), (69, .iadd, 1, [], 0), (70, .aload_n 0, 1, [], 0), (71, .getfield 39, 3, [7, 16, 805], 0), (74, .iload_n 3, 1, [], 0), (75, .baload, 1, [], 0), (76, .bastore, 1, [], 0), (77, .iinc 3 1, 3, [], 1), (80, .goto (-36), 3, [26], 0)],
  [(83, .aload_n 0, 1, [], 0), (84, .dup, 1, [], 0), (85, .getfield 135, 3, [7, 23, 812], 0), (88, .iconst 1, 1, [], 1), (89, .iadd, 1, [], 0), (90, .putfield 135, 3, [7, 23, 812], 0), (93, .return_, 1, [], 0)]]
def rt_125 : List (List rI) := [[(0, .iconst (-1), 1, [], (-1)), (1, .istore_n 1, 1, [], 0), (2, .aload_n 0, 1, [], 0), (3, .iconst 0, 1, [], 0), (4, .putfield 202, 3, [7, 34, 823], 0), (7, .iconst 0, 1, [], 0), (8, .istore_n 2, 1, [], 0), (9, .iload_n 2, 1, [], 0), (10, .iconst 2, 1, [], 2), (11, .if_icmp .ge 58, 3, [42], 0), (14, .aload_n 0, 1, [], 0), (15, .iconst 2, 1, [], 2), (16, .bipush 64, 2, [], 64), (18, .iload_n 2, 1, [], 0), (19, .imul, 1, [], 0), (20, .invokevirtual 141, 3, [91, 2, 0, 745], 0)],
  [(23, .istore_n 3, 1, [], 0), (24, .iload_n 3, 1, [], 0), (25, .ifCond .eq 38, 3, [40], 0), (28, .iload_n 3, 1, [], 0), (29, .aload_n 0, 1, [], 0), (30, .iconst 2, 1, [], 2), (31, .bipush 64, 2, [], 64), (33, .iload_n 2, 1, [], 0), (34, .imul, 1, [], 0), (35, .bipush 60, 2, [], 60), (37, .iadd, 1, [], 0), (38, .invokevirtual 141, 3, [91, 2, 0, 745], 0), (41, .if_icmp .ne 22, 3, [40], 0), (44, .iload_n 1, 1, [], 0), (45, .ifCond .lt 11, 3, [35], 0), (48, .iload_n 3, 1, [], 0)],
  [(49, .aload_n 0, 1, [], 0), (50, .getfield 202, 3, [7, 34, 823], 0), (53, .if_icmp .le 10, 3, [40], 0), (56, .iload_n 2, 1, [], 0), (57, .istore_n 1, 1, [], 0), (58, .aload_n 0, 1, [], 0), (59, .iload_n 3, 1, [], 0), (60, .putfield 202, 3, [7, 34, 823], 0), (63, .iinc 2 1, 3, [], 1), (66, .goto (-57), 3, [7], 0), (69, .bipush 64, 2, [], 64), (71, .iload_n 1, 1, [], 0), (72, .imul, 1, [], 0), (73, .istore_n 2, 1, [], 0), (74, .aload_n 0, 1, [], 0), (75, .iload_n 1, 1, [], 0)],
  [(76, .ifCond .ge 7, 3, [51], 0), (79, .iconst 0, 1, [], 0), (80, .goto 11, 3, [57], 0), (83, .aload_n 0, 1, [], 0), (84, .iconst 2, 1, [], 2), (85, .iload_n 2, 1, [], 0), (86, .iconst 4, 1, [], 4), (87, .iadd, 1, [], 0), (88, .invokevirtual 141, 3, [91, 2, 0, 745], 0), (91, .putfield 205, 3, [7, 30, 819], 0), (94, .aload_n 0, 1, [], 0), (95, .iload_n 1, 1, [], 0), (96, .ifCond .ge 7, 3, [63], 0), (99, .iconst 0, 1, [], 0), (100, .goto 12, 3, [69], 0), (103, .aload_n 0, 1, [], 0)],
  [(104, .iconst 2, 1, [], 2), (105, .iload_n 2, 1, [], 0), (106, .bipush 8, 2, [], 8), (108, .iadd, 1, [], 0), (109, .invokevirtual 141, 3, [91, 2, 0, 745], 0), (112, .putfield 144, 3, [7, 29, 818], 0), (115, .aload_n 0, 1, [], 0), (116, .iload_n 1, 1, [], 0), (117, .ifCond .ge 7, 3, [75], 0), (120, .iconst 1, 1, [], 1), (121, .goto 12, 3, [81], 0), (124, .aload_n 0, 1, [], 0), (125, .iconst 2, 1, [], 2), (126, .iload_n 2, 1, [], 0), (127, .bipush 12, 2, [], 12), (129, .iadd, 1, [], 0)],
  [(130, .invokevirtual 141, 3, [91, 2, 0, 745], 0), (133, .putfield 208, 3, [7, 31, 820], 0), (136, .aload_n 0, 1, [], 0), (137, .iload_n 1, 1, [], 0), (138, .ifCond .ge 7, 3, [87], 0), (141, .iconst 1, 1, [], 1), (142, .goto 12, 3, [93], 0), (145, .aload_n 0, 1, [], 0), (146, .iconst 2, 1, [], 2), (147, .iload_n 2, 1, [], 0), (148, .bipush 16, 2, [], 16), (150, .iadd, 1, [], 0), (151, .invokevirtual 141, 3, [91, 2, 0, 745], 0), (154, .putfield 196, 3, [7, 33, 822], 0), (157, .aload_n 0, 1, [], 0), (158, .iload_n 1, 1, [], 0)],
  [(159, .ifCond .ge 7, 3, [99], 0), (162, .iconst 0, 1, [], 0), (163, .goto 12, 3, [105], 0), (166, .aload_n 0, 1, [], 0), (167, .iconst 2, 1, [], 2), (168, .iload_n 2, 1, [], 0), (169, .bipush 20, 2, [], 20), (171, .iadd, 1, [], 0), (172, .invokevirtual 100, 3, [90, 2, 0, 749], 0), (175, .putfield 179, 3, [7, 36, 825], 0), (178, .iconst 0, 1, [], 0), (179, .istore_n 3, 1, [], 0), (180, .iload_n 3, 1, [], 0), (181, .aload_n 0, 1, [], 0), (182, .getfield 179, 3, [7, 36, 825], 0), (185, .if_icmp .ge 26, 3, [126], 0)],
  [(188, .aload_n 0, 1, [], 0), (189, .getfield 57, 3, [7, 35, 824], 0), (192, .iload_n 3, 1, [], 0), (193, .aload_n 0, 1, [], 0), (194, .iconst 2, 1, [], 2), (195, .iload_n 2, 1, [], 0), (196, .bipush 21, 2, [], 21), (198, .iadd, 1, [], 0), (199, .iload_n 3, 1, [], 0), (200, .iadd, 1, [], 0), (201, .invokevirtual 100, 3, [90, 2, 0, 749], 0), (204, .iastore, 1, [], 0), (205, .iinc 3 1, 3, [], 1), (208, .goto (-28), 3, [108], 0), (211, .aload_n 0, 1, [], 0), (212, .iconst 0, 1, [], 0)],
  [(213, .putfield 138, 3, [7, 41, 830], 0), (216, .iconst 0, 1, [], 0), (217, .istore_n 3, 1, [], 0), (218, .iload_n 3, 1, [], 0), (219, .bipush 120, 2, [], 120), (221, .if_icmp .ge 16, 3, [141], 0), (224, .aload_n 0, 1, [], 0), (225, .getfield 64, 3, [7, 38, 827], 0), (228, .iload_n 3, 1, [], 0), (229, .iconst 0, 1, [], 0), (230, .iastore, 1, [], 0), (231, .iinc 3 1, 3, [], 1), (234, .goto (-16), 3, [131], 0), (237, .aload_n 0, 1, [], 0), (238, .aload_n 0, 1, [], 0), (239, .getfield 205, 3, [7, 30, 819], 0)],
  [(242, .putfield 151, 3, [7, 28, 817], 0), (245, .aload_n 0, 1, [], 0), (246, .aload_n 0, 1, [], 0), (247, .getfield 208, 3, [7, 31, 820], 0), (250, .putfield 158, 3, [7, 32, 821], 0), (253, .aload_n 0, 1, [], 0), (254, .getfield 151, 3, [7, 28, 817], 0), (257, .istore_n 3, 1, [], 0), (258, .aload_n 0, 1, [], 0), (259, .getfield 158, 3, [7, 32, 821], 0), (262, .istore 4, 2, [], 0), (264, .iconst 0, 1, [], 0), (265, .istore 5, 2, [], 0), (267, .aload_n 0, 1, [], 0), (268, .iload_n 3, 1, [], 0), (269, .iload 4, 2, [], 0)],
  [(271, .invokevirtual 270, 3, [98, 2, 0, 757], 0), (274, .ifCond .eq 117, 3, [223], 0), (277, .aload_n 0, 1, [], 0), (278, .iconst 0, 1, [], 0), (279, .iload_n 3, 1, [], 0), (280, .invokevirtual 100, 3, [90, 2, 0, 749], 0), (283, .sipush 128, 3, [], 128), (286, .if_icmp .ge 7, 3, [170], 0), (289, .iconst 1, 1, [], 1), (290, .goto 4, 3, [171], 0), (293, .iconst 0, 1, [], 0), (294, .istore 6, 2, [], 0), (296, .iload_n 3, 1, [], 0), (297, .aload_n 0, 1, [], 0), (298, .iload_n 3, 1, [], 0), (299, .invokevirtual 246, 3, [99, 1, 0, 761], 0)],
  [(302, .iadd, 1, [], 0), (303, .istore_n 3, 1, [], 0), (304, .iinc 4 1, 3, [], 1), (307, .iload 6, 2, [], 0), (309, .ifCond .eq 79, 3, [222], 0), (312, .aload_n 0, 1, [], 0), (313, .getfield 151, 3, [7, 28, 817], 0), (316, .iload_n 3, 1, [], 0), (317, .if_icmp .ge 71, 3, [222], 0), (320, .aload_n 0, 1, [], 0), (321, .aload_n 0, 1, [], 0), (322, .iconst 0, 1, [], 0), (323, .aload_n 0, 1, [], 0), (324, .getfield 151, 3, [7, 28, 817], 0), (327, .iconst 1, 1, [], 1), (328, .iadd, 1, [], 0)],
  [(329, .invokevirtual 100, 3, [90, 2, 0, 749], 0), (332, .aload_n 0, 1, [], 0), (333, .iconst 0, 1, [], 0), (334, .aload_n 0, 1, [], 0), (335, .getfield 151, 3, [7, 28, 817], 0), (338, .invokevirtual 100, 3, [90, 2, 0, 749], 0), (341, .bipush 127, 2, [], 127), (343, .iand, 1, [], 0), (344, .aload_n 0, 1, [], 0), (345, .getfield 158, 3, [7, 32, 821], 0), (348, .aload_n 0, 1, [], 0), (349, .getfield 151, 3, [7, 28, 817], 0), (352, .invokevirtual 257, 3, [101, 4, 0, 765], 0), (355, .aload_n 0, 1, [], 0), (356, .dup, 1, [], 0), (357, .getfield 151, 3, [7, 28, 817], 0)],
  [(360, .aload_n 0, 1, [], 0), (361, .aload_n 0, 1, [], 0), (362, .getfield 151, 3, [7, 28, 817], 0), (365, .invokevirtual 246, 3, [99, 1, 0, 761], 0), (368, .iadd, 1, [], 0), (369, .putfield 151, 3, [7, 28, 817], 0), (372, .aload_n 0, 1, [], 0), (373, .dup, 1, [], 0), (374, .getfield 158, 3, [7, 32, 821], 0), (377, .iconst 1, 1, [], 1), (378, .iadd, 1, [], 0), (379, .putfield 158, 3, [7, 32, 821], 0), (382, .iinc 5 1, 3, [], 1), (385, .goto (-73), 3, [181], 0), (388, .goto (-121), 3, [157], 0), (391, .aload_n 0, 1, [], 0)],
  [(392, .iconst 0, 1, [], 0), (393, .putfield 125, 3, [7, 15, 804], 0), (396, .aload_n 0, 1, [], 0), (397, .iconst 0, 1, [], 0), (398, .putfield 273, 3, [7, 20, 809], 0), (401, .aload_n 0, 1, [], 0), (402, .iconst 0, 1, [], 0), (403, .putfield 276, 3, [7, 21, 810], 0), (406, .aload_n 0, 1, [], 0), (407, .bipush 12, 2, [], 12), (409, .invokevirtual 147, 3, [93, 1, 0, 769], 0), (412, .aload_n 0, 1, [], 0), (413, .iconst 0, 1, [], 0), (414, .aload_n 0, 1, [], 0), (415, .getfield 151, 3, [7, 28, 817], 0), (418, .bipush 12, 2, [], 12)],
  [(420, .invokevirtual 154, 3, [94, 3, 0, 773], 0), (423, .aload_n 0, 1, [], 0), (424, .invokevirtual 232, 3, [96, 0, 0, 785], 0), (427, .istore 6, 2, [], 0), (429, .iload 5, 2, [], 0), (431, .ireturn, 1, [], 0)]]
def rt_126 : List (List rI) := [[(0, .aload_n 0, 1, [], 0), (1, .getfield 125, 3, [7, 15, 804], 0), (4, .ifCond .eq 10, 3, [6], 0), (7, .aload_n 0, 1, [], 0), (8, .invokevirtual 92, 3, [125, 0, 0, 741], 0), (11, .goto 4, 3, [7], 0), (14, .iconst (-1), 1, [], (-1)), (15, .ireturn, 1, [], 0)]]
def rt_127 : List (List rI) := [[(0, .iload_n 0, 1, [], 0), (1, .ifCond .lt 13, 3, [7], 0), (4, .iload_n 0, 1, [], 0), (5, .bipush 120, 2, [], 120), (7, .if_icmp .ge 7, 3, [7], 0), (10, .iconst 1, 1, [], 1), (11, .goto 4, 3, [8], 0), (14, .iconst 0, 1, [], 0), (15, .ireturn, 1, [], 0)]]
def rt_128 : List (List rI) := [[(0, .aload_n 0, 1, [], 0), (1, .getfield 125, 3, [7, 15, 804], 0), (4, .ifCond .eq 6, 3, [5], 0), (7, .bipush (-2), 2, [], (-2)), (9, .ireturn, 1, [], 0), (10, .iload_n 3, 1, [], 0), (11, .iconst 1, 1, [], 1), (12, .if_icmp .lt 20, 3, [17], 0), (15, .iload_n 3, 1, [], 0), (16, .bipush 8, 2, [], 8), (18, .if_icmp .gt 14, 3, [17], 0), (21, .aload_n 0, 1, [], 0), (22, .getfield 129, 3, [7, 17, 806], 0), (25, .iload_n 3, 1, [], 0), (26, .iadd, 1, [], 0), (27, .bipush 64, 2, [], 64)],
  [(29, .if_icmp .le 5, 3, [19], 0), (32, .iconst (-1), 1, [], (-1)), (33, .ireturn, 1, [], 0), (34, .iload_n 3, 1, [], 0), (35, .iconst 1, 1, [], 1), (36, .isub, 1, [], 0), (37, .istore 4, 2, [], 0), (39, .iload 4, 2, [], 0), (41, .ifCond .lt 37, 3, [45], 0), (44, .aload_n 0, 1, [], 0), (45, .getfield 39, 3, [7, 16, 805], 0), (48, .aload_n 0, 1, [], 0), (49, .getfield 129, 3, [7, 17, 806], 0), (52, .lload_n 1, 1, [], 0), (53, .bipush 8, 2, [], 8), (55, .iload 4, 2, [], 0)],
  [(57, .imul, 1, [], 0), (58, .lshr, 1, [], 0), (59, .l2i, 1, [], 0), (60, .i2b, 1, [], 0), (61, .bastore, 1, [], 0), (62, .aload_n 0, 1, [], 0), (63, .dup, 1, [], 0), (64, .getfield 129, 3, [7, 17, 806], 0), (67, .iconst 1, 1, [], 1), (68, .iadd, 1, [], 0), (69, .putfield 129, 3, [7, 17, 806], 0), (72, .iinc 4 (-1), 3, [], (-1)), (75, .goto (-36), 3, [23], 0), (78, .aload_n 0, 1, [], 0), (79, .getfield 129, 3, [7, 17, 806], 0), (82, .ireturn, 1, [], 0)]]
def rt_129 : List (List rI) := [[(0, .aload_n 0, 1, [], 0), (1, .getfield 125, 3, [7, 15, 804], 0), (4, .ifCond .eq 6, 3, [5], 0), (7, .bipush (-2), 2, [], (-2)), (9, .ireturn, 1, [], 0), (10, .iload_n 1, 1, [], 0), (11, .invokestatic 279, 3, [127, 1, 1, 956], 0), (14, .ifCond .eq 19, 3, [15], 0), (17, .aload_n 0, 1, [], 0), (18, .getfield 132, 3, [7, 22, 811], 0), (21, .ifCond .eq 14, 3, [17], 0), (24, .aload_n 0, 1, [], 0), (25, .getfield 135, 3, [7, 23, 812], 0), (28, .bipush 8, 2, [], 8), (30, .if_icmp .ne 5, 3, [17], 0), (33, .iconst (-1), 1, [], (-1))],
  [(34, .ireturn, 1, [], 0), (35, .aload_n 0, 1, [], 0), (36, .iconst 1, 1, [], 1), (37, .iload_n 1, 1, [], 0), (38, .invokevirtual 282, 3, [124, 2, 0, 959], 0), (41, .aload_n 0, 1, [], 0), (42, .iconst 0, 1, [], 0), (43, .putfield 129, 3, [7, 17, 806], 0), (46, .aload_n 0, 1, [], 0), (47, .getfield 132, 3, [7, 22, 811], 0), (50, .ifCond .eq 10, 3, [30], 0), (53, .aload_n 0, 1, [], 0), (54, .getfield 135, 3, [7, 23, 812], 0), (57, .goto 7, 3, [32], 0), (60, .aload_n 0, 1, [], 0), (61, .invokevirtual 285, 3, [123, 0, 0, 963], 0)],
  [(64, .ireturn, 1, [], 0)]]
def rt_130 : List (List rI) := [[(0, .aload_n 0, 1, [], 0), (1, .getfield 125, 3, [7, 15, 804], 0), (4, .ifCond .eq 6, 3, [5], 0), (7, .bipush (-2), 2, [], (-2)), (9, .ireturn, 1, [], 0), (10, .iload_n 1, 1, [], 0), (11, .invokestatic 279, 3, [127, 1, 1, 956], 0), (14, .ifCond .eq 19, 3, [15], 0), (17, .aload_n 0, 1, [], 0), (18, .getfield 132, 3, [7, 22, 811], 0), (21, .ifCond .eq 14, 3, [17], 0), (24, .aload_n 0, 1, [], 0), (25, .getfield 135, 3, [7, 23, 812], 0), (28, .bipush 8, 2, [], 8), (30, .if_icmp .ne 5, 3, [17], 0), (33, .iconst (-1), 1, [], (-1))],
  [(34, .ireturn, 1, [], 0), (35, .aload_n 0, 1, [], 0), (36, .getfield 132, 3, [7, 22, 811], 0), (39, .ifCond .ne 13, 3, [26], 0), (42, .aload_n 0, 1, [], 0), (43, .iload_n 1, 1, [], 0), (44, .invokevirtual 288, 3, [108, 1, 0, 1059], 0), (47, .ifCond .ne 5, 3, [26], 0), (50, .iconst 0, 1, [], 0), (51, .ireturn, 1, [], 0), (52, .aload_n 0, 1, [], 0), (53, .iconst 2, 1, [], 2), (54, .iload_n 1, 1, [], 0), (55, .invokevirtual 282, 3, [124, 2, 0, 959], 0), (58, .aload_n 0, 1, [], 0), (59, .getfield 132, 3, [7, 22, 811], 0)],
  [(62, .ifCond .eq 10, 3, [36], 0), (65, .aload_n 0, 1, [], 0), (66, .getfield 135, 3, [7, 23, 812], 0), (69, .goto 7, 3, [38], 0), (72, .aload_n 0, 1, [], 0), (73, .invokevirtual 285, 3, [123, 0, 0, 963], 0), (76, .ireturn, 1, [], 0)]]
def rt_131 : List (List rI) := [[(0, .aload_n 0, 1, [], 0), (1, .getfield 125, 3, [7, 15, 804], 0), (4, .ifCond .eq 6, 3, [5], 0), (7, .bipush (-2), 2, [], (-2)), (9, .ireturn, 1, [], 0), (10, .aload_n 0, 1, [], 0), (11, .getfield 132, 3, [7, 22, 811], 0), (14, .istore_n 1, 1, [], 0), (15, .aload_n 0, 1, [], 0), (16, .iconst 1, 1, [], 1), (17, .putfield 132, 3, [7, 22, 811], 0), (20, .iload_n 1, 1, [], 0), (21, .ifCond .eq 7, 3, [15], 0), (24, .iconst 0, 1, [], 0), (25, .goto 4, 3, [16], 0), (28, .iconst 1, 1, [], 1)],
  [(29, .ireturn, 1, [], 0)]]
def rt_132 : List (List rI) := [[(0, .aload_n 0, 1, [], 0), (1, .getfield 125, 3, [7, 15, 804], 0), (4, .ifCond .eq 6, 3, [5], 0), (7, .bipush (-2), 2, [], (-2)), (9, .ireturn, 1, [], 0), (10, .aload_n 0, 1, [], 0), (11, .getfield 132, 3, [7, 22, 811], 0), (14, .ifCond .eq 10, 3, [11], 0), (17, .aload_n 0, 1, [], 0), (18, .getfield 135, 3, [7, 23, 812], 0), (21, .ifCond .ne 10, 3, [16], 0), (24, .aload_n 0, 1, [], 0), (25, .iconst 0, 1, [], 0), (26, .putfield 132, 3, [7, 22, 811], 0), (29, .iconst (-1), 1, [], (-1)), (30, .ireturn, 1, [], 0)],
  [(31, .aload_n 0, 1, [], 0), (32, .invokevirtual 285, 3, [123, 0, 0, 963], 0), (35, .ireturn, 1, [], 0)]]
def rt_133 : List (List rI) := [[(0, .aload_n 0, 1, [], 0), (1, .getfield 125, 3, [7, 15, 804], 0), (4, .ifCond .eq 6, 3, [5], 0), (7, .bipush (-2), 2, [], (-2)), (9, .ireturn, 1, [], 0), (10, .aload_n 0, 1, [], 0), (11, .getfield 132, 3, [7, 22, 811], 0), (14, .ifCond .eq 10, 3, [11], 0), (17, .aload_n 0, 1, [], 0), (18, .getfield 135, 3, [7, 23, 812], 0), (21, .goto 4, 3, [12], 0), (24, .iconst (-1), 1, [], (-1)), (25, .istore_n 1, 1, [], 0), (26, .aload_n 0, 1, [], 0), (27, .iconst 0, 1, [], 0), (28, .putfield 132, 3, [7, 22, 811], 0)],
  [(31, .aload_n 0, 1, [], 0), (32, .iconst 0, 1, [], 0), (33, .putfield 135, 3, [7, 23, 812], 0), (36, .iload_n 1, 1, [], 0), (37, .ireturn, 1, [], 0)]]
def rt_134 : List (List rI) := [[(0, .aload_n 0, 1, [], 0), (1, .getfield 125, 3, [7, 15, 804], 0), (4, .ifCond .eq 6, 3, [5], 0), (7, .bipush (-2), 2, [], (-2)), (9, .ireturn, 1, [], 0), (10, .aload_n 0, 1, [], 0), (11, .iconst 0, 1, [], 0), (12, .putfield 291, 3, [7, 19, 808], 0), (15, .aload_n 0, 1, [], 0), (16, .iconst 0, 1, [], 0), (17, .putfield 273, 3, [7, 20, 809], 0), (20, .aload_n 0, 1, [], 0), (21, .iconst 0, 1, [], 0), (22, .putfield 276, 3, [7, 21, 810], 0), (25, .iload_n 1, 1, [], 0), (26, .invokestatic 279, 3, [127, 1, 1, 956], 0)],
  [(29, .ifCond .ne 5, 3, [19], 0), (32, .iconst (-1), 1, [], (-1)), (33, .ireturn, 1, [], 0), (34, .aload_n 0, 1, [], 0), (35, .getfield 64, 3, [7, 38, 827], 0), (38, .iload_n 1, 1, [], 0), (39, .iaload, 1, [], 0), (40, .ifCond .le 7, 3, [26], 0), (43, .iconst 1, 1, [], 1), (44, .goto 4, 3, [27], 0), (47, .iconst 0, 1, [], 0), (48, .istore_n 2, 1, [], 0), (49, .iconst 0, 1, [], 0), (50, .istore_n 3, 1, [], 0), (51, .iload_n 3, 1, [], 0), (52, .aload_n 0, 1, [], 0)],
  [(53, .getfield 179, 3, [7, 36, 825], 0), (56, .if_icmp .ge 70, 3, [70], 0), (59, .iload_n 2, 1, [], 0), (60, .ifCond .ne 66, 3, [70], 0), (63, .aload_n 0, 1, [], 0), (64, .iload_n 3, 1, [], 0), (65, .bipush 8, 2, [], 8), (67, .invokevirtual 185, 3, [103, 2, 0, 1014], 0), (70, .iload_n 1, 1, [], 0), (71, .invokestatic 192, 3, [105, 1, 1, 987], 0), (74, .iand, 1, [], 0), (75, .iload_n 1, 1, [], 0), (76, .invokestatic 192, 3, [105, 1, 1, 987], 0), (79, .if_icmp .ne 31, 3, [62], 0), (82, .aload_n 0, 1, [], 0), (83, .dup, 1, [], 0)],
  [(84, .getfield 273, 3, [7, 20, 809], 0), (87, .iconst 1, 1, [], 1), (88, .iadd, 1, [], 0), (89, .putfield 273, 3, [7, 20, 809], 0), (92, .aload_n 0, 1, [], 0), (93, .iload_n 3, 1, [], 0), (94, .iload_n 1, 1, [], 0), (95, .invokevirtual 182, 3, [106, 2, 0, 1047], 0), (98, .ifCond .le 7, 3, [59], 0), (101, .iconst 1, 1, [], 1), (102, .goto 4, 3, [60], 0), (105, .iconst 0, 1, [], 0), (106, .istore_n 2, 1, [], 0), (107, .goto 13, 3, [68], 0), (110, .aload_n 0, 1, [], 0), (111, .dup, 1, [], 0)],
  [(112, .getfield 276, 3, [7, 21, 810], 0), (115, .iconst 1, 1, [], 1), (116, .iadd, 1, [], 0), (117, .putfield 276, 3, [7, 21, 810], 0), (120, .iinc 3 1, 3, [], 1), (123, .goto (-72), 3, [30], 0), (126, .aload_n 0, 1, [], 0), (127, .iload_n 1, 1, [], 0), (128, .invokevirtual 288, 3, [108, 1, 0, 1059], 0), (131, .ifCond .ne 5, 3, [76], 0), (134, .iconst (-1), 1, [], (-1)), (135, .ireturn, 1, [], 0), (136, .aload_n 0, 1, [], 0), (137, .aload_n 0, 1, [], 0), (138, .iconst 0, 1, [], 0), (139, .aload_n 0, 1, [], 0)],
  [(140, .getfield 176, 3, [7, 48, 837], 0), (143, .iconst 2, 1, [], 2), (144, .iadd, 1, [], 0), (145, .invokevirtual 100, 3, [90, 2, 0, 749], 0), (148, .putfield 291, 3, [7, 19, 808], 0), (151, .iconst 0, 1, [], 0), (152, .istore_n 3, 1, [], 0), (153, .iload_n 3, 1, [], 0), (154, .aload_n 0, 1, [], 0), (155, .getfield 291, 3, [7, 19, 808], 0), (158, .if_icmp .ge 30, 3, [107], 0), (161, .aload_n 0, 1, [], 0), (162, .getfield 42, 3, [7, 18, 807], 0), (165, .iload_n 3, 1, [], 0), (166, .aload_n 0, 1, [], 0), (167, .iconst 0, 1, [], 0)],
  [(168, .aload_n 0, 1, [], 0), (169, .getfield 176, 3, [7, 48, 837], 0), (172, .bipush 12, 2, [], 12), (174, .iadd, 1, [], 0), (175, .iload_n 3, 1, [], 0), (176, .iadd, 1, [], 0), (177, .invokevirtual 100, 3, [90, 2, 0, 749], 0), (180, .i2b, 1, [], 0), (181, .bastore, 1, [], 0), (182, .iinc 3 1, 3, [], 1), (185, .goto (-32), 3, [87], 0), (188, .aload_n 0, 1, [], 0), (189, .getfield 291, 3, [7, 19, 808], 0), (192, .ireturn, 1, [], 0)]]
def rt_135 : List (List rI) := [[(0, .iload_n 1, 1, [], 0), (1, .ifCond .lt 24, 3, [13], 0), (4, .iload_n 1, 1, [], 0), (5, .aload_n 0, 1, [], 0), (6, .getfield 291, 3, [7, 19, 808], 0), (9, .if_icmp .ge 16, 3, [13], 0), (12, .aload_n 0, 1, [], 0), (13, .getfield 42, 3, [7, 18, 807], 0), (16, .iload_n 1, 1, [], 0), (17, .baload, 1, [], 0), (18, .sipush 255, 3, [], 255), (21, .iand, 1, [], 0), (22, .goto 4, 3, [14], 0), (25, .iconst (-1), 1, [], (-1)), (26, .ireturn, 1, [], 0)]]
def rt_136 : List (List rI) := [[(0, .aload_n 0, 1, [], 0), (1, .getfield 125, 3, [7, 15, 804], 0), (4, .ifCond .eq 6, 3, [5], 0), (7, .bipush (-2), 2, [], (-2)), (9, .ireturn, 1, [], 0), (10, .iload_n 1, 1, [], 0), (11, .ifCond .ge 7, 3, [9], 0), (14, .iconst 0, 1, [], 0), (15, .goto 4, 3, [10], 0), (18, .iload_n 1, 1, [], 0), (19, .istore_n 2, 1, [], 0), (20, .iload_n 2, 1, [], 0), (21, .bipush 120, 2, [], 120), (23, .if_icmp .ge 19, 3, [22], 0), (26, .aload_n 0, 1, [], 0), (27, .iload_n 2, 1, [], 0)],
  [(28, .invokevirtual 288, 3, [108, 1, 0, 1059], 0), (31, .ifCond .eq 5, 3, [20], 0), (34, .iload_n 2, 1, [], 0), (35, .ireturn, 1, [], 0), (36, .iinc 2 1, 3, [], 1), (39, .goto (-19), 3, [11], 0), (42, .iconst (-1), 1, [], (-1)), (43, .ireturn, 1, [], 0)]]
def rt_137 : List (List rI) := [[(0, .aload_n 0, 1, [], 0), (1, .getfield 125, 3, [7, 15, 804], 0), (4, .ifCond .eq 8, 3, [5], 0), (7, .bipush (-2), 2, [], (-2)), (9, .goto 7, 3, [7], 0), (12, .aload_n 0, 1, [], 0), (13, .invokevirtual 232, 3, [96, 0, 0, 785], 0), (16, .ireturn, 1, [], 0)]]
def rt_138 : List (List rI) := [[(0, .aload_n 0, 1, [], 0), (1, .getfield 125, 3, [7, 15, 804], 0), (4, .ifCond .ne 7, 3, [5], 0), (7, .aload_n 0, 1, [], 0), (8, .invokevirtual 243, 3, [118, 0, 0, 971], 0), (11, .aload_n 0, 1, [], 0), (12, .getfield 125, 3, [7, 15, 804], 0), (15, .ifCond .eq 8, 3, [10], 0), (18, .bipush (-2), 2, [], (-2)), (20, .goto 7, 3, [12], 0), (23, .aload_n 0, 1, [], 0), (24, .getfield 179, 3, [7, 36, 825], 0), (27, .ireturn, 1, [], 0)]]
def rt_139 : List (List rI) := [[(0, .aload_n 0, 1, [], 0), (1, .getfield 125, 3, [7, 15, 804], 0), (4, .ifCond .eq 6, 3, [5], 0), (7, .bipush (-2), 2, [], (-2)), (9, .ireturn, 1, [], 0), (10, .iload_n 1, 1, [], 0), (11, .iconst 1, 1, [], 1), (12, .if_icmp .lt 10, 3, [11], 0), (15, .iload_n 1, 1, [], 0), (16, .sipush 1000, 3, [], 1000), (19, .if_icmp .le 5, 3, [13], 0), (22, .iconst (-1), 1, [], (-1)), (23, .ireturn, 1, [], 0), (24, .aload_n 0, 1, [], 0), (25, .iload_n 1, 1, [], 0), (26, .invokevirtual 261, 3, [120, 1, 0, 1039], 0)],
  [(29, .istore_n 2, 1, [], 0), (30, .aload_n 0, 1, [], 0), (31, .getfield 125, 3, [7, 15, 804], 0), (34, .ifCond .eq 8, 3, [22], 0), (37, .bipush (-2), 2, [], (-2)), (39, .goto 4, 3, [23], 0), (42, .iload_n 2, 1, [], 0), (43, .ireturn, 1, [], 0)]]
def rt_140 : List (List rI) := [[(0, .aload_n 0, 1, [], 0), (1, .getfield 125, 3, [7, 15, 804], 0), (4, .ifCond .eq 6, 3, [5], 0), (7, .bipush (-2), 2, [], (-2)), (9, .ireturn, 1, [], 0), (10, .iload_n 1, 1, [], 0), (11, .ifCond .lt 7, 3, [9], 0), (14, .iload_n 2, 1, [], 0), (15, .ifCond .ge 5, 3, [11], 0), (18, .iconst (-1), 1, [], (-1)), (19, .ireturn, 1, [], 0), (20, .aload_n 0, 1, [], 0), (21, .getfield 103, 3, [7, 10, 799], 0), (24, .istore_n 3, 1, [], 0), (25, .aload_n 0, 1, [], 0), (26, .iload_n 1, 1, [], 0)],
  [(27, .iload_n 2, 1, [], 0), (28, .invokevirtual 118, 3, [97, 2, 0, 777], 0), (31, .iload_n 3, 1, [], 0), (32, .ireturn, 1, [], 0)]]
def rt_141 : List (List rI) := [[(0, .aload_n 0, 1, [], 0), (1, .getfield 125, 3, [7, 15, 804], 0), (4, .ifCond .eq 6, 3, [5], 0), (7, .bipush (-2), 2, [], (-2)), (9, .ireturn, 1, [], 0), (10, .iload_n 1, 1, [], 0), (11, .iconst 1, 1, [], 1), (12, .if_icmp .lt 18, 3, [15], 0), (15, .iload_n 1, 1, [], 0), (16, .sipush 1000, 3, [], 1000), (19, .if_icmp .gt 11, 3, [15], 0), (22, .iload_n 2, 1, [], 0), (23, .ifCond .lt 7, 3, [15], 0), (26, .iload_n 3, 1, [], 0), (27, .ifCond .ge 5, 3, [17], 0), (30, .iconst (-1), 1, [], (-1))],
  [(31, .ireturn, 1, [], 0), (32, .aload_n 0, 1, [], 0), (33, .iload_n 1, 1, [], 0), (34, .putfield 109, 3, [7, 12, 801], 0), (37, .aload_n 0, 1, [], 0), (38, .iload_n 2, 1, [], 0), (39, .putfield 112, 3, [7, 13, 802], 0), (42, .aload_n 0, 1, [], 0), (43, .iload_n 3, 1, [], 0), (44, .putfield 115, 3, [7, 14, 803], 0), (47, .iconst 1, 1, [], 1), (48, .ireturn, 1, [], 0)]]
def rt_142 : List (List rI) := [[(0, .aload_n 0, 1, [], 0), (1, .getfield 125, 3, [7, 15, 804], 0), (4, .ifCond .eq 6, 3, [5], 0), (7, .bipush (-2), 2, [], (-2)), (9, .ireturn, 1, [], 0), (10, .aload_n 0, 1, [], 0), (11, .getfield 109, 3, [7, 12, 801], 0), (14, .ifCond .le 7, 3, [10], 0), (17, .iconst 1, 1, [], 1), (18, .goto 4, 3, [11], 0), (21, .iconst 0, 1, [], 0), (22, .istore_n 1, 1, [], 0), (23, .aload_n 0, 1, [], 0), (24, .iconst 0, 1, [], 0), (25, .putfield 109, 3, [7, 12, 801], 0), (28, .iload_n 1, 1, [], 0)],
  [(29, .ireturn, 1, [], 0)]]
def rt_143 : List (List rI) := [[(0, .iload_n 1, 1, [], 0), (1, .bipush 10, 2, [], 10), (3, .if_icmp .eq 9, 3, [6], 0), (6, .iload_n 1, 1, [], 0), (7, .bipush 11, 2, [], 11), (9, .if_icmp .ne 21, 3, [15], 0), (12, .iload_n 1, 1, [], 0), (13, .bipush 10, 2, [], 10), (15, .if_icmp .ne 10, 3, [12], 0), (18, .aload_n 0, 1, [], 0), (19, .getfield 273, 3, [7, 20, 809], 0), (22, .goto 7, 3, [14], 0), (25, .aload_n 0, 1, [], 0), (26, .getfield 276, 3, [7, 21, 810], 0), (29, .ireturn, 1, [], 0), (30, .aload_n 0, 1, [], 0)],
  [(31, .getfield 125, 3, [7, 15, 804], 0), (34, .ifCond .eq 6, 3, [20], 0), (37, .bipush (-2), 2, [], (-2)), (39, .ireturn, 1, [], 0), (40, .iload_n 1, 1, [], 0), (41, .ifCond .lt 9, 3, [25], 0), (44, .iload_n 1, 1, [], 0), (45, .bipush 14, 2, [], 14), (47, .if_icmp .le 5, 3, [27], 0), (50, .iconst (-1), 1, [], (-1)), (51, .ireturn, 1, [], 0), (52, .iconst 0, 1, [], 0), (53, .istore_n 2, 1, [], 0), (54, .iconst 0, 1, [], 0), (55, .istore_n 3, 1, [], 0), (56, .iconst 0, 1, [], 0)],
  [(57, .istore 4, 2, [], 0), (59, .iload 4, 2, [], 0), (61, .bipush 120, 2, [], 120), (63, .if_icmp .ge 39, 3, [55], 0), (66, .iload_n 1, 1, [], 0), (67, .iconst 2, 1, [], 2), (68, .idiv, 1, [], 0), (69, .iconst 4, 1, [], 4), (70, .if_icmp .ne 32, 3, [55], 0), (73, .aload_n 0, 1, [], 0), (74, .iload 4, 2, [], 0), (76, .invokevirtual 288, 3, [108, 1, 0, 1059], 0), (79, .ifCond .eq 17, 3, [53], 0), (82, .iinc 2 1, 3, [], 1), (85, .iload_n 3, 1, [], 0), (86, .aload_n 0, 1, [], 0)],
  [(87, .aload_n 0, 1, [], 0), (88, .getfield 176, 3, [7, 48, 837], 0), (91, .invokevirtual 246, 3, [99, 1, 0, 761], 0), (94, .iadd, 1, [], 0), (95, .istore_n 3, 1, [], 0), (96, .iinc 4 1, 3, [], 1), (99, .goto (-40), 3, [33], 0), (102, .iload_n 1, 1, [], 0), (103, .tableswitch 134 0 13 #[69, 74, 79, 84, 89, 94, 99, 104, 109, 111, 134, 134, 113, 118], 69, [96, 57, 60, 63, 66, 69, 72, 75, 78, 81, 83, 96, 96, 85, 88], 0), (172, .aload_n 0, 1, [], 0), (173, .getfield 151, 3, [7, 28, 817], 0), (176, .ireturn, 1, [], 0), (177, .aload_n 0, 1, [], 0), (178, .getfield 144, 3, [7, 29, 818], 0), (181, .ireturn, 1, [], 0), (182, .aload_n 0, 1, [], 0)],
  [(183, .getfield 205, 3, [7, 30, 819], 0), (186, .ireturn, 1, [], 0), (187, .aload_n 0, 1, [], 0), (188, .getfield 158, 3, [7, 32, 821], 0), (191, .ireturn, 1, [], 0), (192, .aload_n 0, 1, [], 0), (193, .getfield 202, 3, [7, 34, 823], 0), (196, .ireturn, 1, [], 0), (197, .aload_n 0, 1, [], 0), (198, .getfield 138, 3, [7, 41, 830], 0), (201, .ireturn, 1, [], 0), (202, .aload_n 0, 1, [], 0), (203, .getfield 179, 3, [7, 36, 825], 0), (206, .ireturn, 1, [], 0), (207, .aload_n 0, 1, [], 0), (208, .getfield 103, 3, [7, 10, 799], 0)],
  [(211, .ireturn, 1, [], 0), (212, .iload_n 2, 1, [], 0), (213, .ireturn, 1, [], 0), (214, .iload_n 3, 1, [], 0), (215, .ireturn, 1, [], 0), (216, .aload_n 0, 1, [], 0), (217, .getfield 129, 3, [7, 17, 806], 0), (220, .ireturn, 1, [], 0), (221, .aload_n 0, 1, [], 0), (222, .getfield 132, 3, [7, 22, 811], 0), (225, .ifCond .eq 10, 3, [94], 0), (228, .aload_n 0, 1, [], 0), (229, .getfield 135, 3, [7, 23, 812], 0), (232, .goto 4, 3, [95], 0), (235, .iconst (-1), 1, [], (-1)), (236, .ireturn, 1, [], 0)],
  [(237, .aload_n 0, 1, [], 0), (238, .getfield 196, 3, [7, 33, 822], 0), (241, .ireturn, 1, [], 0)]]
def rt_144 : List (List rI) := [[(0, .aload_n 0, 1, [], 0), (1, .getfield 125, 3, [7, 15, 804], 0), (4, .ifCond .eq 6, 3, [5], 0), (7, .bipush (-2), 2, [], (-2)), (9, .ireturn, 1, [], 0), (10, .iload_n 1, 1, [], 0), (11, .ifCond .lt 11, 3, [11], 0), (14, .iload_n 1, 1, [], 0), (15, .aload_n 0, 1, [], 0), (16, .getfield 179, 3, [7, 36, 825], 0), (19, .if_icmp .lt 5, 3, [13], 0), (22, .iconst 0, 1, [], 0), (23, .ireturn, 1, [], 0), (24, .iload_n 2, 1, [], 0), (25, .tableswitch 104 0 6 #[43, 49, 56, 63, 70, 78, 96], 43, [56, 15, 19, 24, 29, 34, 39, 51], 0), (68, .aload_n 0, 1, [], 0)],
  [(69, .iload_n 1, 1, [], 0), (70, .invokevirtual 199, 3, [104, 1, 0, 998], 0), (73, .ireturn, 1, [], 0), (74, .aload_n 0, 1, [], 0), (75, .iload_n 1, 1, [], 0), (76, .iconst 2, 1, [], 2), (77, .invokevirtual 164, 3, [102, 2, 0, 1002], 0), (80, .ireturn, 1, [], 0), (81, .aload_n 0, 1, [], 0), (82, .getfield 57, 3, [7, 35, 824], 0), (85, .iload_n 1, 1, [], 0), (86, .iaload, 1, [], 0), (87, .ireturn, 1, [], 0), (88, .aload_n 0, 1, [], 0), (89, .iload_n 1, 1, [], 0), (90, .iconst 4, 1, [], 4)],
  [(91, .invokevirtual 185, 3, [103, 2, 0, 1014], 0), (94, .ireturn, 1, [], 0), (95, .aload_n 0, 1, [], 0), (96, .iload_n 1, 1, [], 0), (97, .bipush 16, 2, [], 16), (99, .invokevirtual 164, 3, [102, 2, 0, 1002], 0), (102, .ireturn, 1, [], 0), (103, .aload_n 0, 1, [], 0), (104, .iload_n 1, 1, [], 0), (105, .bipush 6, 2, [], 6), (107, .bipush 10, 2, [], 10), (109, .aload_n 0, 1, [], 0), (110, .iload_n 1, 1, [], 0), (111, .iconst 2, 1, [], 2), (112, .invokevirtual 164, 3, [102, 2, 0, 1002], 0), (115, .imul, 1, [], 0)],
  [(116, .iadd, 1, [], 0), (117, .invokevirtual 164, 3, [102, 2, 0, 1002], 0), (120, .ireturn, 1, [], 0), (121, .aload_n 0, 1, [], 0), (122, .iload_n 1, 1, [], 0), (123, .bipush 8, 2, [], 8), (125, .invokevirtual 185, 3, [103, 2, 0, 1014], 0), (128, .ireturn, 1, [], 0), (129, .iconst 0, 1, [], 0), (130, .ireturn, 1, [], 0)]]
def rt_145 : List (List rI) := [[(0, .aload_n 0, 1, [], 0), (1, .getfield 125, 3, [7, 15, 804], 0), (4, .ifCond .eq 6, 3, [5], 0), (7, .bipush (-2), 2, [], (-2)), (9, .ireturn, 1, [], 0), (10, .iload_n 1, 1, [], 0), (11, .invokestatic 279, 3, [127, 1, 1, 956], 0), (14, .ifCond .eq 20, 3, [17], 0), (17, .iload_n 2, 1, [], 0), (18, .ifCond .lt 16, 3, [17], 0), (21, .iload_n 2, 1, [], 0), (22, .iconst 3, 1, [], 3), (23, .if_icmp .gt 11, 3, [17], 0), (26, .aload_n 0, 1, [], 0), (27, .iload_n 1, 1, [], 0), (28, .invokevirtual 188, 3, [107, 1, 0, 1043], 0)],
  [(31, .ifCond .ne 5, 3, [19], 0), (34, .iconst (-1), 1, [], (-1)), (35, .ireturn, 1, [], 0), (36, .iload_n 2, 1, [], 0), (37, .ifCond .ne 10, 3, [24], 0), (40, .aload_n 0, 1, [], 0), (41, .getfield 167, 3, [7, 46, 835], 0), (44, .goto 39, 3, [42], 0), (47, .iload_n 2, 1, [], 0), (48, .iconst 1, 1, [], 1), (49, .if_icmp .ne 10, 3, [30], 0), (52, .aload_n 0, 1, [], 0), (53, .getfield 173, 3, [7, 47, 836], 0), (56, .goto 27, 3, [42], 0), (59, .iload_n 2, 1, [], 0), (60, .iconst 2, 1, [], 2)],
  [(61, .if_icmp .ne 10, 3, [36], 0), (64, .aload_n 0, 1, [], 0), (65, .getfield 176, 3, [7, 48, 837], 0), (68, .goto 15, 3, [42], 0), (71, .aload_n 0, 1, [], 0), (72, .getfield 170, 3, [7, 49, 838], 0), (75, .ifCond .eq 7, 3, [41], 0), (78, .iconst 1, 1, [], 1), (79, .goto 4, 3, [42], 0), (82, .iconst 0, 1, [], 0), (83, .ireturn, 1, [], 0)]]
def rt_146 : List (List rI) := [[(0, .iload_n 1, 1, [], 0), (1, .ifCond .lt 42, 3, [25], 0), (4, .iload_n 1, 1, [], 0), (5, .iconst 3, 1, [], 3), (6, .if_icmp .ge 37, 3, [25], 0), (9, .iload_n 2, 1, [], 0), (10, .ifCond .lt 33, 3, [25], 0), (13, .iload_n 2, 1, [], 0), (14, .aload_n 0, 1, [], 0), (15, .getfield 13, 3, [7, 2, 791], 0), (18, .iload_n 1, 1, [], 0), (19, .iaload, 1, [], 0), (20, .if_icmp .ge 23, 3, [25], 0), (23, .aload_n 0, 1, [], 0), (24, .getfield 16, 3, [7, 3, 792], 0), (27, .aload_n 0, 1, [], 0)],
  [(28, .getfield 7, 3, [7, 1, 790], 0), (31, .iload_n 1, 1, [], 0), (32, .iaload, 1, [], 0), (33, .iload_n 2, 1, [], 0), (34, .iadd, 1, [], 0), (35, .baload, 1, [], 0), (36, .sipush 255, 3, [], 255), (39, .iand, 1, [], 0), (40, .goto 4, 3, [26], 0), (43, .iconst (-1), 1, [], (-1)), (44, .ireturn, 1, [], 0)]]
def rt_147 : List (List rI) := [[(0, .aload_n 0, 1, [], 0), (1, .getfield 125, 3, [7, 15, 804], 0), (4, .ifCond .eq 8, 3, [5], 0), (7, .bipush (-2), 2, [], (-2)), (9, .goto 4, 3, [6], 0), (12, .iconst 1, 1, [], 1), (13, .ireturn, 1, [], 0)]]
def rt_148 : List (List rI) := [[(0, .iload_n 1, 1, [], 0), (1, .aload_n 0, 1, [], 0), (2, .arraylength, 1, [], 0), (3, .if_icmp .ge 9, 3, [8], 0), (6, .aload_n 0, 1, [], 0), (7, .iload_n 1, 1, [], 0), (8, .iaload, 1, [], 0), (9, .goto 4, 3, [9], 0), (12, .iconst 0, 1, [], 0), (13, .ireturn, 1, [], 0)]]
def rt_149 : List (List rI) := [[(0, .new 7, 3, [6, 68, 69, 58], 0), (3, .dup, 1, [], 0), (4, .aload_n 0, 1, [], 0), (5, .iconst 0, 1, [], 0), (6, .invokestatic 9, 3, [148, 2, 1, 731], 0), (9, .invokespecial 15, 3, [57, 1, 3, 70], 0), (12, .astore_n 1, 1, [], 0), (13, .new 18, 3, [7, 734, 735, 66], 0), (16, .dup, 1, [], 0), (17, .aload_n 0, 1, [], 0), (18, .iconst 0, 1, [], 0), (19, .invokestatic 9, 3, [148, 2, 1, 731], 0), (22, .invokespecial 20, 3, [88, 1, 3, 736], 0), (25, .astore_n 2, 1, [], 0), (26, .iconst 1, 1, [], 1), (27, .istore_n 3, 1, [], 0)],
  [(28, .iload_n 3, 1, [], 0), (29, .aload_n 0, 1, [], 0), (30, .arraylength, 1, [], 0), (31, .iconst 4, 1, [], 4), (32, .isub, 1, [], 0), (33, .if_icmp .gt 616, 3, [401], 0), (36, .aload_n 0, 1, [], 0), (37, .iload_n 3, 1, [], 0), (38, .iaload, 1, [], 0), (39, .bipush 31, 2, [], 31), (41, .iand, 1, [], 0), (42, .tableswitch 601 0 20 #[98, 161, 184, 207, 220, 233, 246, 269, 292, 315, 328, 341, 364, 397, 440, 453, 466, 489, 522, 555, 588], 98, [399, 28, 79, 96, 113, 120, 127, 134, 151, 168, 185, 192, 199, 216, 243, 280, 287, 294, 311, 338, 365, 392], 0), (140, .aload_n 1, 1, [], 0), (141, .aload_n 0, 1, [], 0), (142, .iload_n 3, 1, [], 0), (143, .iconst 1, 1, [], 1)],
  [(144, .iadd, 1, [], 0), (145, .iaload, 1, [], 0), (146, .i2l, 1, [], 0), (147, .bipush 32, 2, [], 32), (149, .lshl, 1, [], 0), (150, .aload_n 0, 1, [], 0), (151, .iload_n 3, 1, [], 0), (152, .iconst 2, 1, [], 2), (153, .iadd, 1, [], 0), (154, .iaload, 1, [], 0), (155, .i2l, 1, [], 0), (156, .ldc2_w 21, 3, [4294967295, 1131], 0), (159, .land, 1, [], 0), (160, .lor, 1, [], 0), (161, .aload_n 0, 1, [], 0), (162, .iload_n 3, 1, [], 0)],
  [(163, .iconst 3, 1, [], 3), (164, .iadd, 1, [], 0), (165, .iaload, 1, [], 0), (166, .invokevirtual 23, 3, [58, 2, 0, 458], 0), (169, .aload_n 2, 1, [], 0), (170, .aload_n 0, 1, [], 0), (171, .iload_n 3, 1, [], 0), (172, .iconst 1, 1, [], 1), (173, .iadd, 1, [], 0), (174, .iaload, 1, [], 0), (175, .i2l, 1, [], 0), (176, .bipush 32, 2, [], 32), (178, .lshl, 1, [], 0), (179, .aload_n 0, 1, [], 0), (180, .iload_n 3, 1, [], 0), (181, .iconst 2, 1, [], 2)],
  [(182, .iadd, 1, [], 0), (183, .iaload, 1, [], 0), (184, .i2l, 1, [], 0), (185, .ldc2_w 21, 3, [4294967295, 1131], 0), (188, .land, 1, [], 0), (189, .lor, 1, [], 0), (190, .aload_n 0, 1, [], 0), (191, .iload_n 3, 1, [], 0), (192, .iconst 3, 1, [], 3), (193, .iadd, 1, [], 0), (194, .iaload, 1, [], 0), (195, .invokevirtual 27, 3, [128, 2, 0, 948], 0), (198, .if_icmp .eq 445, 3, [399], 0), (201, .iconst 0, 1, [], 0), (202, .ireturn, 1, [], 0), (203, .aload_n 1, 1, [], 0)],
  [(204, .aload_n 0, 1, [], 0), (205, .iload_n 3, 1, [], 0), (206, .iconst 1, 1, [], 1), (207, .iadd, 1, [], 0), (208, .iaload, 1, [], 0), (209, .invokevirtual 28, 3, [59, 1, 0, 462], 0), (212, .aload_n 2, 1, [], 0), (213, .aload_n 0, 1, [], 0), (214, .iload_n 3, 1, [], 0), (215, .iconst 1, 1, [], 1), (216, .iadd, 1, [], 0), (217, .iaload, 1, [], 0), (218, .invokevirtual 32, 3, [129, 1, 0, 952], 0), (221, .if_icmp .eq 422, 3, [399], 0), (224, .iconst 0, 1, [], 0), (225, .ireturn, 1, [], 0)],
  [(226, .aload_n 1, 1, [], 0), (227, .aload_n 0, 1, [], 0), (228, .iload_n 3, 1, [], 0), (229, .iconst 1, 1, [], 1), (230, .iadd, 1, [], 0), (231, .iaload, 1, [], 0), (232, .invokevirtual 33, 3, [60, 1, 0, 606], 0), (235, .aload_n 2, 1, [], 0), (236, .aload_n 0, 1, [], 0), (237, .iload_n 3, 1, [], 0), (238, .iconst 1, 1, [], 1), (239, .iadd, 1, [], 0), (240, .iaload, 1, [], 0), (241, .invokevirtual 36, 3, [130, 1, 0, 1055], 0), (244, .if_icmp .eq 399, 3, [399], 0), (247, .iconst 0, 1, [], 0)],
  [(248, .ireturn, 1, [], 0), (249, .aload_n 1, 1, [], 0), (250, .invokevirtual 37, 3, [61, 0, 0, 615], 0), (253, .aload_n 2, 1, [], 0), (254, .invokevirtual 41, 3, [131, 0, 0, 1063], 0), (257, .if_icmp .eq 386, 3, [399], 0), (260, .iconst 0, 1, [], 0), (261, .ireturn, 1, [], 0), (262, .aload_n 1, 1, [], 0), (263, .invokevirtual 42, 3, [62, 0, 0, 619], 0), (266, .aload_n 2, 1, [], 0), (267, .invokevirtual 45, 3, [132, 0, 0, 1067], 0), (270, .if_icmp .eq 373, 3, [399], 0), (273, .iconst 0, 1, [], 0), (274, .ireturn, 1, [], 0), (275, .aload_n 1, 1, [], 0)],
  [(276, .invokevirtual 46, 3, [63, 0, 0, 623], 0), (279, .aload_n 2, 1, [], 0), (280, .invokevirtual 49, 3, [133, 0, 0, 1071], 0), (283, .if_icmp .eq 360, 3, [399], 0), (286, .iconst 0, 1, [], 0), (287, .ireturn, 1, [], 0), (288, .aload_n 1, 1, [], 0), (289, .aload_n 0, 1, [], 0), (290, .iload_n 3, 1, [], 0), (291, .iconst 1, 1, [], 1), (292, .iadd, 1, [], 0), (293, .iaload, 1, [], 0), (294, .invokevirtual 50, 3, [64, 1, 0, 627], 0), (297, .aload_n 2, 1, [], 0), (298, .aload_n 0, 1, [], 0), (299, .iload_n 3, 1, [], 0)],
  [(300, .iconst 1, 1, [], 1), (301, .iadd, 1, [], 0), (302, .iaload, 1, [], 0), (303, .invokevirtual 53, 3, [134, 1, 0, 1075], 0), (306, .if_icmp .eq 337, 3, [399], 0), (309, .iconst 0, 1, [], 0), (310, .ireturn, 1, [], 0), (311, .aload_n 1, 1, [], 0), (312, .aload_n 0, 1, [], 0), (313, .iload_n 3, 1, [], 0), (314, .iconst 1, 1, [], 1), (315, .iadd, 1, [], 0), (316, .iaload, 1, [], 0), (317, .invokevirtual 54, 3, [65, 1, 0, 632], 0), (320, .aload_n 2, 1, [], 0), (321, .aload_n 0, 1, [], 0)],
  [(322, .iload_n 3, 1, [], 0), (323, .iconst 1, 1, [], 1), (324, .iadd, 1, [], 0), (325, .iaload, 1, [], 0), (326, .invokevirtual 57, 3, [135, 1, 0, 1079], 0), (329, .if_icmp .eq 314, 3, [399], 0), (332, .iconst 0, 1, [], 0), (333, .ireturn, 1, [], 0), (334, .aload_n 1, 1, [], 0), (335, .aload_n 0, 1, [], 0), (336, .iload_n 3, 1, [], 0), (337, .iconst 1, 1, [], 1), (338, .iadd, 1, [], 0), (339, .iaload, 1, [], 0), (340, .invokevirtual 58, 3, [66, 1, 0, 636], 0), (343, .aload_n 2, 1, [], 0)],
  [(344, .aload_n 0, 1, [], 0), (345, .iload_n 3, 1, [], 0), (346, .iconst 1, 1, [], 1), (347, .iadd, 1, [], 0), (348, .iaload, 1, [], 0), (349, .invokevirtual 61, 3, [136, 1, 0, 1083], 0), (352, .if_icmp .eq 291, 3, [399], 0), (355, .iconst 0, 1, [], 0), (356, .ireturn, 1, [], 0), (357, .aload_n 1, 1, [], 0), (358, .invokevirtual 62, 3, [67, 0, 0, 645], 0), (361, .aload_n 2, 1, [], 0), (362, .invokevirtual 65, 3, [137, 0, 0, 1087], 0), (365, .if_icmp .eq 278, 3, [399], 0), (368, .iconst 0, 1, [], 0), (369, .ireturn, 1, [], 0)],
  [(370, .aload_n 1, 1, [], 0), (371, .invokevirtual 66, 3, [68, 0, 0, 650], 0), (374, .aload_n 2, 1, [], 0), (375, .invokevirtual 69, 3, [138, 0, 0, 1091], 0), (378, .if_icmp .eq 265, 3, [399], 0), (381, .iconst 0, 1, [], 0), (382, .ireturn, 1, [], 0), (383, .aload_n 1, 1, [], 0), (384, .aload_n 0, 1, [], 0), (385, .iload_n 3, 1, [], 0), (386, .iconst 1, 1, [], 1), (387, .iadd, 1, [], 0), (388, .iaload, 1, [], 0), (389, .invokevirtual 70, 3, [69, 1, 0, 655], 0), (392, .aload_n 2, 1, [], 0), (393, .aload_n 0, 1, [], 0)],
  [(394, .iload_n 3, 1, [], 0), (395, .iconst 1, 1, [], 1), (396, .iadd, 1, [], 0), (397, .iaload, 1, [], 0), (398, .invokevirtual 73, 3, [139, 1, 0, 1095], 0), (401, .if_icmp .eq 242, 3, [399], 0), (404, .iconst 0, 1, [], 0), (405, .ireturn, 1, [], 0), (406, .aload_n 1, 1, [], 0), (407, .aload_n 0, 1, [], 0), (408, .iload_n 3, 1, [], 0), (409, .iconst 1, 1, [], 1), (410, .iadd, 1, [], 0), (411, .iaload, 1, [], 0), (412, .aload_n 0, 1, [], 0), (413, .iload_n 3, 1, [], 0)],
  [(414, .iconst 2, 1, [], 2), (415, .iadd, 1, [], 0), (416, .iaload, 1, [], 0), (417, .invokevirtual 74, 3, [70, 2, 0, 660], 0), (420, .aload_n 2, 1, [], 0), (421, .aload_n 0, 1, [], 0), (422, .iload_n 3, 1, [], 0), (423, .iconst 1, 1, [], 1), (424, .iadd, 1, [], 0), (425, .iaload, 1, [], 0), (426, .aload_n 0, 1, [], 0), (427, .iload_n 3, 1, [], 0), (428, .iconst 2, 1, [], 2), (429, .iadd, 1, [], 0), (430, .iaload, 1, [], 0), (431, .invokevirtual 78, 3, [140, 2, 0, 1099], 0)],
  [(434, .if_icmp .eq 209, 3, [399], 0), (437, .iconst 0, 1, [], 0), (438, .ireturn, 1, [], 0), (439, .aload_n 1, 1, [], 0), (440, .aload_n 0, 1, [], 0), (441, .iload_n 3, 1, [], 0), (442, .iconst 1, 1, [], 1), (443, .iadd, 1, [], 0), (444, .iaload, 1, [], 0), (445, .aload_n 0, 1, [], 0), (446, .iload_n 3, 1, [], 0), (447, .iconst 2, 1, [], 2), (448, .iadd, 1, [], 0), (449, .iaload, 1, [], 0), (450, .aload_n 0, 1, [], 0), (451, .iload_n 3, 1, [], 0)],
  [(452, .iconst 3, 1, [], 3), (453, .iadd, 1, [], 0), (454, .iaload, 1, [], 0), (455, .invokevirtual 79, 3, [71, 3, 0, 664], 0), (458, .aload_n 2, 1, [], 0), (459, .aload_n 0, 1, [], 0), (460, .iload_n 3, 1, [], 0), (461, .iconst 1, 1, [], 1), (462, .iadd, 1, [], 0), (463, .iaload, 1, [], 0), (464, .aload_n 0, 1, [], 0), (465, .iload_n 3, 1, [], 0), (466, .iconst 2, 1, [], 2), (467, .iadd, 1, [], 0), (468, .iaload, 1, [], 0), (469, .aload_n 0, 1, [], 0)],
  [(470, .iload_n 3, 1, [], 0), (471, .iconst 3, 1, [], 3), (472, .iadd, 1, [], 0), (473, .iaload, 1, [], 0), (474, .invokevirtual 83, 3, [141, 3, 0, 1103], 0), (477, .if_icmp .eq 166, 3, [399], 0), (480, .iconst 0, 1, [], 0), (481, .ireturn, 1, [], 0), (482, .aload_n 1, 1, [], 0), (483, .invokevirtual 84, 3, [72, 0, 0, 668], 0), (486, .aload_n 2, 1, [], 0), (487, .invokevirtual 87, 3, [142, 0, 0, 1107], 0), (490, .if_icmp .eq 153, 3, [399], 0), (493, .iconst 0, 1, [], 0), (494, .ireturn, 1, [], 0), (495, .aload_n 1, 1, [], 0)],
  [(496, .invokevirtual 88, 3, [73, 0, 0, 672], 0), (499, .aload_n 2, 1, [], 0), (500, .invokevirtual 91, 3, [126, 0, 0, 944], 0), (503, .if_icmp .eq 140, 3, [399], 0), (506, .iconst 0, 1, [], 0), (507, .ireturn, 1, [], 0), (508, .aload_n 1, 1, [], 0), (509, .aload_n 0, 1, [], 0), (510, .iload_n 3, 1, [], 0), (511, .iconst 1, 1, [], 1), (512, .iadd, 1, [], 0), (513, .iaload, 1, [], 0), (514, .invokevirtual 92, 3, [74, 1, 0, 677], 0), (517, .aload_n 2, 1, [], 0), (518, .aload_n 0, 1, [], 0), (519, .iload_n 3, 1, [], 0)],
  [(520, .iconst 1, 1, [], 1), (521, .iadd, 1, [], 0), (522, .iaload, 1, [], 0), (523, .invokevirtual 95, 3, [143, 1, 0, 1111], 0), (526, .if_icmp .eq 117, 3, [399], 0), (529, .iconst 0, 1, [], 0), (530, .ireturn, 1, [], 0), (531, .aload_n 1, 1, [], 0), (532, .aload_n 0, 1, [], 0), (533, .iload_n 3, 1, [], 0), (534, .iconst 1, 1, [], 1), (535, .iadd, 1, [], 0), (536, .iaload, 1, [], 0), (537, .aload_n 0, 1, [], 0), (538, .iload_n 3, 1, [], 0), (539, .iconst 2, 1, [], 2)],
  [(540, .iadd, 1, [], 0), (541, .iaload, 1, [], 0), (542, .invokevirtual 96, 3, [75, 2, 0, 690], 0), (545, .aload_n 2, 1, [], 0), (546, .aload_n 0, 1, [], 0), (547, .iload_n 3, 1, [], 0), (548, .iconst 1, 1, [], 1), (549, .iadd, 1, [], 0), (550, .iaload, 1, [], 0), (551, .aload_n 0, 1, [], 0), (552, .iload_n 3, 1, [], 0), (553, .iconst 2, 1, [], 2), (554, .iadd, 1, [], 0), (555, .iaload, 1, [], 0), (556, .invokevirtual 99, 3, [144, 2, 0, 1115], 0), (559, .if_icmp .eq 84, 3, [399], 0)],
  [(562, .iconst 0, 1, [], 0), (563, .ireturn, 1, [], 0), (564, .aload_n 1, 1, [], 0), (565, .aload_n 0, 1, [], 0), (566, .iload_n 3, 1, [], 0), (567, .iconst 1, 1, [], 1), (568, .iadd, 1, [], 0), (569, .iaload, 1, [], 0), (570, .aload_n 0, 1, [], 0), (571, .iload_n 3, 1, [], 0), (572, .iconst 2, 1, [], 2), (573, .iadd, 1, [], 0), (574, .iaload, 1, [], 0), (575, .invokevirtual 100, 3, [76, 2, 0, 697], 0), (578, .aload_n 2, 1, [], 0), (579, .aload_n 0, 1, [], 0)],
  [(580, .iload_n 3, 1, [], 0), (581, .iconst 1, 1, [], 1), (582, .iadd, 1, [], 0), (583, .iaload, 1, [], 0), (584, .aload_n 0, 1, [], 0), (585, .iload_n 3, 1, [], 0), (586, .iconst 2, 1, [], 2), (587, .iadd, 1, [], 0), (588, .iaload, 1, [], 0), (589, .invokevirtual 103, 3, [145, 2, 0, 1119], 0), (592, .if_icmp .eq 51, 3, [399], 0), (595, .iconst 0, 1, [], 0), (596, .ireturn, 1, [], 0), (597, .aload_n 1, 1, [], 0), (598, .aload_n 0, 1, [], 0), (599, .iload_n 3, 1, [], 0)],
  [(600, .iconst 1, 1, [], 1), (601, .iadd, 1, [], 0), (602, .iaload, 1, [], 0), (603, .aload_n 0, 1, [], 0), (604, .iload_n 3, 1, [], 0), (605, .iconst 2, 1, [], 2), (606, .iadd, 1, [], 0), (607, .iaload, 1, [], 0), (608, .invokevirtual 104, 3, [77, 2, 0, 701], 0), (611, .aload_n 2, 1, [], 0), (612, .aload_n 0, 1, [], 0), (613, .iload_n 3, 1, [], 0), (614, .iconst 1, 1, [], 1), (615, .iadd, 1, [], 0), (616, .iaload, 1, [], 0), (617, .aload_n 0, 1, [], 0)],
  [(618, .iload_n 3, 1, [], 0), (619, .iconst 2, 1, [], 2), (620, .iadd, 1, [], 0), (621, .iaload, 1, [], 0), (622, .invokevirtual 106, 3, [146, 2, 0, 1123], 0), (625, .if_icmp .eq 18, 3, [399], 0), (628, .iconst 0, 1, [], 0), (629, .ireturn, 1, [], 0), (630, .aload_n 1, 1, [], 0), (631, .invokevirtual 107, 3, [78, 0, 0, 711], 0), (634, .aload_n 2, 1, [], 0), (635, .invokevirtual 110, 3, [147, 0, 0, 1127], 0), (638, .if_icmp .eq 5, 3, [399], 0), (641, .iconst 0, 1, [], 0), (642, .ireturn, 1, [], 0), (643, .iinc 3 4, 3, [], 4)],
  [(646, .goto (-618), 3, [16], 0), (649, .iconst 1, 1, [], 1), (650, .ireturn, 1, [], 0)]]
def rx_ms : List rM := [(⟨"TrailStore$Batch", "<init>", "()V"⟩, prog_2_method_1_code, 1, none, [299, 0, 300, 65], 12, 544),
  (⟨"TrailStore$Batch", "add", "(II[BI)V"⟩, prog_2_method_2_code, 6, none, [468, 469, 470, 65], 0, 0),
  (⟨"TrailStore$Batch", "isFirstOfKey", "(I)Z"⟩, prog_2_method_3_code, 3, (some .boolean), [488, 489, 490, 65], 0, 0),
  (⟨"TrailStore$Batch", "size", "()I"⟩, prog_2_method_4_code, 3, (some .int), [476, 477, 478, 65], 0, 0),
  (⟨"TrailStore$Disk", "<init>", "(I)V"⟩, prog_3_method_1_code, 2, none, [85, 0, 86, 59], 4, 30064),
  (⟨"TrailStore$Disk", "cellOf", "(II)I"⟩, prog_3_method_2_code, 3, (some .int), [706, 707, 708, 59], 0, 0),
  (⟨"TrailStore$Disk", "logCell", "(I)I"⟩, prog_3_method_3_code, 3, (some .int), [373, 374, 375, 59], 0, 0),
  (⟨"TrailStore$Disk", "tableCell", "(I)I"⟩, prog_3_method_4_code, 2, (some .int), [521, 522, 523, 59], 0, 0),
  (⟨"TrailStore$Disk", "rootCell", "(I)I"⟩, prog_3_method_5_code, 2, (some .int), [343, 344, 345, 59], 0, 0),
  (⟨"TrailStore$Disk", "byteAt", "(I)I"⟩, prog_3_method_6_code, 2, (some .int), [351, 352, 353, 59], 0, 0),
  (⟨"TrailStore$Disk", "numberAt", "(I)I"⟩, prog_3_method_7_code, 2, (some .int), [347, 348, 349, 59], 0, 0),
  (⟨"TrailStore$Disk", "logByte", "(I)I"⟩, prog_3_method_8_code, 2, (some .int), [369, 370, 371, 59], 0, 0),
  (⟨"TrailStore$Disk", "logNumber", "(I)I"⟩, prog_3_method_9_code, 2, (some .int), [380, 381, 382, 59], 0, 0),
  (⟨"TrailStore$Disk", "recordSize", "(I)I"⟩, prog_3_method_10_code, 2, (some .int), [385, 386, 387, 59], 0, 0),
  (⟨"TrailStore$Disk", "copyValue", "(I[B)I"⟩, prog_3_method_11_code, 5, (some .int), [577, 578, 579, 59], 0, 0),
  (⟨"TrailStore$Disk", "sameValue", "(II)Z"⟩, prog_3_method_12_code, 6, (some .boolean), [727, 728, 729, 59], 0, 0),
  (⟨"TrailStore$Disk", "write", "(I[BII)V"⟩, prog_3_method_13_code, 7, none, [399, 400, 401, 59], 0, 0),
  (⟨"TrailStore$Disk", "makeLasting", "()V"⟩, prog_3_method_14_code, 1, none, [407, 408, 409, 59], 0, 0),
  (⟨"TrailStore$Disk", "takeBack", "(II)V"⟩, prog_3_method_15_code, 6, none, [603, 604, 605, 59], 0, 0),
  (⟨"TrailStore$Disk", "isInside", "(II)Z"⟩, prog_3_method_16_code, 4, (some .boolean), [404, 3, 405, 59], 0, 0),
  (⟨"TrailStore$Disk", "cellBehind", "(I)I"⟩, prog_3_method_17_code, 2, (some .int), [412, 4, 413, 59], 0, 0),
  (⟨"TrailStore$Entries", "<init>", "()V"⟩, prog_4_method_1_code, 1, none, [139, 0, 140, 62], 3, 360),
  (⟨"TrailStore$Entries", "clear", "()V"⟩, prog_4_method_2_code, 2, none, [361, 362, 363, 62], 0, 0),
  (⟨"TrailStore$Entries", "has", "(I)Z"⟩, prog_4_method_3_code, 2, (some .boolean), [484, 485, 486, 62], 0, 0),
  (⟨"TrailStore$Entries", "set", "(IIII)V"⟩, prog_4_method_4_code, 5, none, [393, 394, 395, 62], 0, 0),
  (⟨"TrailStore$Entries", "dropRemovals", "()V"⟩, prog_4_method_5_code, 2, none, [538, 539, 540, 62], 0, 0),
  (⟨"TrailStore$Entries", "countWith", "(LTrailStore$Batch;)I"⟩, prog_4_method_6_code, 4, (some .int), [480, 481, 482, 62], 0, 0),
  (⟨"TrailStore$Found", "<init>", "()V"⟩, prog_5_method_1_code, 1, none, [228, 0, 229, 64], 0, 0),
  (⟨"TrailStore$Found", "clear", "()V"⟩, prog_5_method_2_code, 1, none, [562, 563, 564, 64], 0, 0),
  (⟨"TrailStore$Keeper", "<init>", "(LTrailStore$Disk;LTrailStore$View;)V"⟩, prog_6_method_1_code, 3, none, [222, 0, 223, 63], 9, 1758),
  (⟨"TrailStore$Keeper", "startUp", "()I"⟩, prog_6_method_2_code, 2, (some .int), [331, 332, 333, 63], 0, 0),
  (⟨"TrailStore$Keeper", "store", "(LTrailStore$Batch;)I"⟩, prog_6_method_3_code, 6, (some .int), [472, 473, 474, 63], 0, 0),
  (⟨"TrailStore$Keeper", "appendAll", "(LTrailStore$Batch;)V"⟩, prog_6_method_4_code, 4, none, [588, 12, 589, 63], 0, 0),
  (⟨"TrailStore$Keeper", "hasRoom", "(I)Z"⟩, prog_6_method_5_code, 2, (some .boolean), [549, 8, 550, 63], 0, 0),
  (⟨"TrailStore$Keeper", "append", "(II[BI)V"⟩, prog_6_method_6_code, 5, none, [583, 11, 584, 63], 0, 0),
  (⟨"TrailStore$Keeper", "makeCheckpoint", "()V"⟩, prog_6_method_7_code, 4, none, [492, 493, 494, 63], 0, 0),
  (⟨"TrailStore$Keeper", "writeTable", "(ILTrailStore$Entries;I)V"⟩, prog_6_method_8_code, 7, none, [501, 5, 502, 63], 0, 0),
  (⟨"TrailStore$Keeper", "leastFreePlace", "()I"⟩, prog_6_method_9_code, 2, (some .int), [518, 6, 519, 63], 0, 0),
  (⟨"TrailStore$Keeper", "writeRoot", "()V"⟩, prog_6_method_10_code, 2, none, [544, 7, 545, 63], 0, 0),
  (⟨"TrailStore$Keeper", "collectTail", "(I)I"⟩, prog_6_method_11_code, 8, (some .int), [552, 553, 554, 63], 0, 0),
  (⟨"TrailStore$Keeper", "setNumber", "([BII)V"⟩, prog_6_method_12_code, 3, none, [511, 0, 512, 63], 0, 0),
  (⟨"TrailStore$View", "<init>", "(LTrailStore$Disk;)V"⟩, prog_7_method_1_code, 2, none, [133, 0, 134, 61], 5, 370),
  (⟨"TrailStore$View", "load", "()I"⟩, prog_7_method_2_code, 7, (some .int), [335, 336, 337, 61], 0, 0),
  (⟨"TrailStore$View", "loadRoot", "()V"⟩, prog_7_method_3_code, 4, none, [340, 0, 341, 61], 0, 0),
  (⟨"TrailStore$View", "loadRootAt", "(I)V"⟩, prog_7_method_4_code, 3, none, [356, 1, 357, 61], 0, 0),
  (⟨"TrailStore$View", "isRecord", "(II)Z"⟩, prog_7_method_5_code, 6, (some .boolean), [365, 366, 367, 61], 0, 0),
  (⟨"TrailStore$View", "takeRecordsBefore", "(I)V"⟩, prog_7_method_6_code, 4, none, [390, 2, 391, 61], 0, 0),
  (⟨"TrailStore$View", "tableStart", "(I)I"⟩, prog_7_method_7_code, 2, (some .int), [529, 530, 531, 61], 0, 0),
  (⟨"TrailStore$View", "placesInUse", "()I"⟩, prog_7_method_8_code, 3, (some .int), [496, 497, 498, 61], 0, 0),
  (⟨"TrailStore$View", "tablesUpTo", "(I)I"⟩, prog_7_method_9_code, 3, (some .int), [525, 526, 527, 61], 0, 0),
  (⟨"TrailStore$View", "find", "(ILTrailStore$Found;)V"⟩, prog_7_method_10_code, 3, none, [558, 559, 560, 61], 0, 0),
  (⟨"TrailStore$View", "findInTables", "(ILTrailStore$Found;)V"⟩, prog_7_method_11_code, 7, none, [568, 9, 569, 61], 0, 0),
  (⟨"TrailStore$View", "entryCell", "(II)I"⟩, prog_7_method_12_code, 9, (some .int), [573, 10, 574, 61], 0, 0),
  (⟨"TrailStore$View", "filterBits", "(I)I"⟩, prog_7_method_13_code, 1, (some .int), [514, 0, 515, 61], 0, 0),
  (⟨"TrailStore$View", "gatherAll", "(LTrailStore$Entries;)V"⟩, prog_7_method_14_code, 3, none, [641, 642, 643, 61], 0, 0),
  (⟨"TrailStore$View", "gatherTables", "(ILTrailStore$Entries;)V"⟩, prog_7_method_15_code, 8, none, [534, 535, 536, 61], 0, 0),
  (⟨"TrailStore$View", "replaceNewest", "(IZI)V"⟩, prog_7_method_16_code, 6, none, [504, 505, 506, 61], 0, 0),
  (⟨"TrailStore", "<init>", "(I)V"⟩, prog_1_method_1_code, 2, none, [71, 0, 72, 58], 52, 34021),
  (⟨"TrailStore", "type", "(JI)I"⟩, prog_1_method_2_code, 5, (some .int), [459, 460, 461, 58], 0, 0),
  (⟨"TrailStore", "put", "(I)I"⟩, prog_1_method_3_code, 2, (some .int), [463, 464, 465, 58], 0, 0),
  (⟨"TrailStore", "remove", "(I)I"⟩, prog_1_method_4_code, 2, (some .int), [607, 608, 609, 58], 0, 0),
  (⟨"TrailStore", "begin", "()I"⟩, prog_1_method_5_code, 1, (some .int), [616, 617, 618, 58], 0, 0),
  (⟨"TrailStore", "commit", "()I"⟩, prog_1_method_6_code, 1, (some .int), [620, 621, 622, 58], 0, 0),
  (⟨"TrailStore", "cancel", "()I"⟩, prog_1_method_7_code, 1, (some .int), [624, 625, 626, 58], 0, 0),
  (⟨"TrailStore", "get", "(I)I"⟩, prog_1_method_8_code, 2, (some .int), [628, 629, 630, 58], 0, 0),
  (⟨"TrailStore", "read", "(I)I"⟩, prog_1_method_9_code, 2, (some .int), [633, 634, 635, 58], 0, 0),
  (⟨"TrailStore", "next", "(I)I"⟩, prog_1_method_10_code, 3, (some .int), [637, 638, 639, 58], 0, 0),
  (⟨"TrailStore", "sync", "()I"⟩, prog_1_method_11_code, 2, (some .int), [646, 647, 648, 58], 0, 0),
  (⟨"TrailStore", "checkpoint", "()I"⟩, prog_1_method_12_code, 1, (some .int), [651, 652, 653, 58], 0, 0),
  (⟨"TrailStore", "collect", "(I)I"⟩, prog_1_method_13_code, 2, (some .int), [656, 657, 658, 58], 0, 0),
  (⟨"TrailStore", "crash", "(II)I"⟩, prog_1_method_14_code, 4, (some .int), [661, 662, 663, 58], 0, 0),
  (⟨"TrailStore", "fail", "(III)I"⟩, prog_1_method_15_code, 4, (some .int), [665, 666, 667, 58], 0, 0),
  (⟨"TrailStore", "spare", "()I"⟩, prog_1_method_16_code, 2, (some .int), [669, 670, 671, 58], 0, 0),
  (⟨"TrailStore", "open", "()I"⟩, prog_1_method_17_code, 1, (some .int), [673, 674, 675, 58], 0, 0),
  (⟨"TrailStore", "told", "(I)I"⟩, prog_1_method_18_code, 2, (some .int), [678, 679, 680, 58], 0, 0),
  (⟨"TrailStore", "table", "(II)I"⟩, prog_1_method_19_code, 5, (some .int), [691, 692, 693, 58], 0, 0),
  (⟨"TrailStore", "entry", "(II)I"⟩, prog_1_method_20_code, 3, (some .int), [698, 699, 700, 58], 0, 0),
  (⟨"TrailStore", "cell", "(II)I"⟩, prog_1_method_21_code, 4, (some .int), [702, 703, 704, 58], 0, 0),
  (⟨"TrailStore", "check", "()I"⟩, prog_1_method_22_code, 3, (some .int), [712, 713, 714, 58], 0, 0),
  (⟨"TrailStore", "isKey", "(I)Z"⟩, prog_1_method_23_code, 1, (some .boolean), [377, 0, 378, 58], 0, 0),
  (⟨"TrailStore", "isThere", "(I)Z"⟩, prog_1_method_24_code, 2, (some .boolean), [612, 16, 613, 58], 0, 0),
  (⟨"TrailStore", "keysThere", "()I"⟩, prog_1_method_25_code, 3, (some .int), [683, 17, 684, 58], 0, 0),
  (⟨"TrailStore", "bytesThere", "()I"⟩, prog_1_method_26_code, 3, (some .int), [687, 18, 688, 58], 0, 0),
  (⟨"TrailStore", "hasItsRecord", "(I)Z"⟩, prog_1_method_27_code, 3, (some .boolean), [718, 19, 719, 58], 0, 0),
  (⟨"TrailStore", "isSameReopened", "(I)Z"⟩, prog_1_method_28_code, 3, (some .boolean), [724, 20, 725, 58], 0, 0),
  (⟨"TrailStore", "batchOver", "(I)I"⟩, prog_1_method_29_code, 2, (some .int), [592, 13, 593, 58], 0, 0),
  (⟨"TrailStore", "ended", "(I)I"⟩, prog_1_method_30_code, 2, (some .int), [596, 14, 597, 58], 0, 0),
  (⟨"TrailStore", "losePower", "(II)V"⟩, prog_1_method_31_code, 3, none, [600, 15, 601, 58], 0, 0),
  (⟨"TrailStoreModel", "<init>", "(I)V"⟩, prog_9_method_1_code, 3, none, [737, 0, 738, 66], 25, 156778),
  (⟨"TrailStoreModel", "placeOf", "(II)I"⟩, prog_9_method_2_code, 3, (some .int), [755, 24, 756, 66], 0, 0),
  (⟨"TrailStoreModel", "byteAt", "(II)I"⟩, prog_9_method_3_code, 3, (some .int), [751, 23, 752, 66], 0, 0),
  (⟨"TrailStoreModel", "four", "(II)I"⟩, prog_9_method_4_code, 3, (some .int), [747, 22, 748, 66], 0, 0),
  (⟨"TrailStoreModel", "put4", "(II)V"⟩, prog_9_method_5_code, 4, none, [985, 39, 986, 66], 0, 0),
  (⟨"TrailStoreModel", "clearBuffer", "(I)V"⟩, prog_9_method_6_code, 3, none, [771, 28, 772, 66], 0, 0),
  (⟨"TrailStoreModel", "write", "(III)V"⟩, prog_9_method_7_code, 5, none, [775, 29, 776, 66], 0, 0),
  (⟨"TrailStoreModel", "lastWrite", "(II)V"⟩, prog_9_method_8_code, 4, none, [783, 31, 784, 66], 0, 0),
  (⟨"TrailStoreModel", "syncAll", "()I"⟩, prog_9_method_9_code, 3, (some .int), [787, 32, 788, 66], 0, 0),
  (⟨"TrailStoreModel", "powerFails", "(II)V"⟩, prog_9_method_10_code, 4, none, [779, 30, 780, 66], 0, 0),
  (⟨"TrailStoreModel", "isRecord", "(II)Z"⟩, prog_9_method_11_code, 6, (some .boolean), [759, 25, 760, 66], 0, 0),
  (⟨"TrailStoreModel", "sizeAt", "(I)I"⟩, prog_9_method_12_code, 2, (some .int), [763, 26, 764, 66], 0, 0),
  (⟨"TrailStoreModel", "append", "(III)Z"⟩, prog_9_method_13_code, 5, (some .boolean), [1053, 55, 1054, 66], 0, 0),
  (⟨"TrailStoreModel", "remember", "(IIII)V"⟩, prog_9_method_14_code, 5, none, [767, 27, 768, 66], 0, 0),
  (⟨"TrailStoreModel", "tableByte", "(II)I"⟩, prog_9_method_15_code, 3, (some .int), [1004, 43, 1005, 66], 0, 0),
  (⟨"TrailStoreModel", "tableFour", "(II)I"⟩, prog_9_method_16_code, 3, (some .int), [1016, 46, 1017, 66], 0, 0),
  (⟨"TrailStoreModel", "levelOf", "(I)I"⟩, prog_9_method_17_code, 2, (some .int), [1000, 42, 1001, 66], 0, 0),
  (⟨"TrailStoreModel", "bitsOf", "(I)I"⟩, prog_9_method_18_code, 1, (some .int), [988, 0, 989, 66], 0, 0),
  (⟨"TrailStoreModel", "placeIn", "(II)I"⟩, prog_9_method_19_code, 4, (some .int), [1049, 54, 1050, 66], 0, 0),
  (⟨"TrailStoreModel", "find", "(I)Z"⟩, prog_9_method_20_code, 4, (some .boolean), [1045, 53, 1046, 66], 0, 0),
  (⟨"TrailStoreModel", "isThere", "(I)Z"⟩, prog_9_method_21_code, 2, (some .boolean), [1061, 56, 1062, 66], 0, 0),
  (⟨"TrailStoreModel", "clearNew", "()V"⟩, prog_9_method_22_code, 2, none, [1008, 44, 1009, 66], 0, 0),
  (⟨"TrailStoreModel", "gather", "(I)V"⟩, prog_9_method_23_code, 5, none, [1012, 45, 1013, 66], 0, 0),
  (⟨"TrailStoreModel", "newCount", "()I"⟩, prog_9_method_24_code, 3, (some .int), [1020, 47, 1021, 66], 0, 0),
  (⟨"TrailStoreModel", "writeTable", "(I)I"⟩, prog_9_method_25_code, 8, (some .int), [981, 38, 982, 66], 0, 0),
  (⟨"TrailStoreModel", "drop", "(II)V"⟩, prog_9_method_26_code, 4, none, [1024, 48, 1025, 66], 0, 0),
  (⟨"TrailStoreModel", "insert", "(II)V"⟩, prog_9_method_27_code, 4, none, [992, 40, 993, 66], 0, 0),
  (⟨"TrailStoreModel", "countOf", "(I)I"⟩, prog_9_method_28_code, 4, (some .int), [996, 41, 997, 66], 0, 0),
  (⟨"TrailStoreModel", "writeRoot", "()V"⟩, prog_9_method_29_code, 3, none, [1028, 49, 1029, 66], 0, 0),
  (⟨"TrailStoreModel", "makeTables", "()V"⟩, prog_9_method_30_code, 5, none, [977, 37, 978, 66], 0, 0),
  (⟨"TrailStoreModel", "checkpointAll", "()V"⟩, prog_9_method_31_code, 3, none, [973, 36, 974, 66], 0, 0),
  (⟨"TrailStoreModel", "hasRoom", "(II)Z"⟩, prog_9_method_32_code, 3, (some .boolean), [1032, 50, 1033, 66], 0, 0),
  (⟨"TrailStoreModel", "collecting", "(I)I"⟩, prog_9_method_33_code, 11, (some .int), [1041, 52, 1042, 66], 0, 0),
  (⟨"TrailStoreModel", "passLog", "()V"⟩, prog_9_method_34_code, 3, none, [1037, 51, 1038, 66], 0, 0),
  (⟨"TrailStoreModel", "wouldHave", "()I"⟩, prog_9_method_35_code, 5, (some .int), [969, 35, 970, 66], 0, 0),
  (⟨"TrailStoreModel", "writeBatch", "()I"⟩, prog_9_method_36_code, 7, (some .int), [965, 34, 966, 66], 0, 0),
  (⟨"TrailStoreModel", "lay", "(II)V"⟩, prog_9_method_37_code, 4, none, [961, 33, 962, 66], 0, 0),
  (⟨"TrailStoreModel", "openDisk", "()I"⟩, prog_9_method_38_code, 7, (some .int), [743, 21, 744, 66], 0, 0),
  (⟨"TrailStoreModel", "open", "()I"⟩, prog_9_method_39_code, 1, (some .int), [945, 946, 947, 66], 0, 0),
  (⟨"TrailStoreModel", "isKey", "(I)Z"⟩, prog_9_method_40_code, 1, (some .boolean), [957, 0, 958, 66], 0, 0),
  (⟨"TrailStoreModel", "type", "(JI)I"⟩, prog_9_method_41_code, 5, (some .int), [949, 950, 951, 66], 0, 0),
  (⟨"TrailStoreModel", "put", "(I)I"⟩, prog_9_method_42_code, 2, (some .int), [953, 954, 955, 66], 0, 0),
  (⟨"TrailStoreModel", "remove", "(I)I"⟩, prog_9_method_43_code, 2, (some .int), [1056, 1057, 1058, 66], 0, 0),
  (⟨"TrailStoreModel", "begin", "()I"⟩, prog_9_method_44_code, 2, (some .int), [1064, 1065, 1066, 66], 0, 0),
  (⟨"TrailStoreModel", "commit", "()I"⟩, prog_9_method_45_code, 1, (some .int), [1068, 1069, 1070, 66], 0, 0),
  (⟨"TrailStoreModel", "cancel", "()I"⟩, prog_9_method_46_code, 2, (some .int), [1072, 1073, 1074, 66], 0, 0),
  (⟨"TrailStoreModel", "get", "(I)I"⟩, prog_9_method_47_code, 4, (some .int), [1076, 1077, 1078, 66], 0, 0),
  (⟨"TrailStoreModel", "read", "(I)I"⟩, prog_9_method_48_code, 2, (some .int), [1080, 1081, 1082, 66], 0, 0),
  (⟨"TrailStoreModel", "next", "(I)I"⟩, prog_9_method_49_code, 3, (some .int), [1084, 1085, 1086, 66], 0, 0),
  (⟨"TrailStoreModel", "sync", "()I"⟩, prog_9_method_50_code, 1, (some .int), [1088, 1089, 1090, 66], 0, 0),
  (⟨"TrailStoreModel", "checkpoint", "()I"⟩, prog_9_method_51_code, 1, (some .int), [1092, 1093, 1094, 66], 0, 0),
  (⟨"TrailStoreModel", "collect", "(I)I"⟩, prog_9_method_52_code, 3, (some .int), [1096, 1097, 1098, 66], 0, 0),
  (⟨"TrailStoreModel", "crash", "(II)I"⟩, prog_9_method_53_code, 4, (some .int), [1100, 1101, 1102, 66], 0, 0),
  (⟨"TrailStoreModel", "fail", "(III)I"⟩, prog_9_method_54_code, 4, (some .int), [1104, 1105, 1106, 66], 0, 0),
  (⟨"TrailStoreModel", "spare", "()I"⟩, prog_9_method_55_code, 2, (some .int), [1108, 1109, 1110, 66], 0, 0),
  (⟨"TrailStoreModel", "told", "(I)I"⟩, prog_9_method_56_code, 5, (some .int), [1112, 1113, 1114, 66], 0, 0),
  (⟨"TrailStoreModel", "table", "(II)I"⟩, prog_9_method_57_code, 3, (some .int), [1116, 1117, 1118, 66], 0, 0),
  (⟨"TrailStoreModel", "entry", "(II)I"⟩, prog_9_method_58_code, 3, (some .int), [1120, 1121, 1122, 66], 0, 0),
  (⟨"TrailStoreModel", "cell", "(II)I"⟩, prog_9_method_59_code, 3, (some .int), [1124, 1125, 1126, 66], 0, 0),
  (⟨"TrailStoreModel", "check", "()I"⟩, prog_9_method_60_code, 1, (some .int), [1128, 1129, 1130, 66], 0, 0),
  (⟨"TrailStoreLaw", "cell", "([II)I"⟩, method_2_code, 2, (some .int), [732, 0, 733, 57], 0, 0),
  (⟨"TrailStoreLaw", "law", "([I)Z"⟩, code, 4, (some .boolean), [], 0, 0)]
def rx_tt : List (List (List rI)) := [rt_0, rt_1, rt_2, rt_3, rt_4, rt_5, rt_6, rt_7, rt_8, rt_9, rt_10, rt_11, rt_12, rt_13, rt_14, rt_15, rt_16, rt_17, rt_18, rt_19, rt_20, rt_21, rt_22, rt_23, rt_24, rt_25, rt_26, rt_27, rt_28, rt_29, rt_30, rt_31, rt_32, rt_33, rt_34, rt_35, rt_36, rt_37, rt_38, rt_39, rt_40, rt_41, rt_42, rt_43, rt_44, rt_45, rt_46, rt_47, rt_48, rt_49, rt_50, rt_51, rt_52, rt_53, rt_54, rt_55, rt_56, rt_57, rt_58, rt_59, rt_60, rt_61, rt_62, rt_63, rt_64, rt_65, rt_66, rt_67, rt_68, rt_69, rt_70, rt_71, rt_72, rt_73, rt_74, rt_75, rt_76, rt_77, rt_78, rt_79, rt_80, rt_81, rt_82, rt_83, rt_84, rt_85, rt_86, rt_87, rt_88, rt_89, rt_90, rt_91, rt_92, rt_93, rt_94, rt_95, rt_96, rt_97, rt_98, rt_99, rt_100, rt_101, rt_102, rt_103, rt_104, rt_105, rt_106, rt_107, rt_108, rt_109, rt_110, rt_111, rt_112, rt_113, rt_114, rt_115, rt_116, rt_117, rt_118, rt_119, rt_120, rt_121, rt_122, rt_123, rt_124, rt_125, rt_126, rt_127, rt_128, rt_129, rt_130, rt_131, rt_132, rt_133, rt_134, rt_135, rt_136, rt_137, rt_138, rt_139, rt_140, rt_141, rt_142, rt_143, rt_144, rt_145, rt_146, rt_147, rt_148, rt_149]
end
section
/-! PART 03: a small machine over pure worlds: what an instruction does to locals, stack and world, as a condition on what comes behind it -/
abbrev pE : Type := (Nat × vp_A) ⊕ (Nat × List Value)
abbrev pW : Type := List pE
/-- the script is reference 0, cell j of the world is reference j + 1 -/
def rx_ad (b h : Nat) : Nat → Nat
  | 0 => b
  | k + 1 => h + k
def rx_cv (b h : Nat) : Value → Value
  | .ref k => .ref (rx_ad b h k)
  | v => v
def rx_ca (b h : Nat) (a : vp_A) : vp_A := match a with
  | (n, .inr (.inr (.inr (.inr f)))) => (n, .inr (.inr (.inr (.inr (fun j => (f j).map (rx_ad b h))))))
  | (n, .inl f) => (n, .inl f)
  | (n, .inr (.inl f)) => (n, .inr (.inl f))
  | (n, .inr (.inr (.inl f))) => (n, .inr (.inr (.inl f)))
  | (n, .inr (.inr (.inr (.inl f)))) => (n, .inr (.inr (.inr (.inl f))))
def rx_ce (b h : Nat) (tc : Nat → ClassId) (e : pE) : va_E := match e with
  | .inl (t, a) => .inl (tc t, rx_ca b h a)
  | .inr (c, fs) => .inr (c, fs.map (rx_cv b h))
def rx_cw (b h : Nat) (tc : Nat → ClassId) : Nat → pW → va_W
  | _, [] => []
  | k, e :: l => (k, rx_ce b h tc e) :: rx_cw b h tc (k + 1) l
/-- kinds of arrays -/
def rx_tg : Nat → FieldType
  | 0 => .int
  | 1 => .byte
  | 2 => .boolean
  | _ => .array .byte
def rx_tys (tc : Nat → ClassId) : List (ClassId × FieldType) := [(tc 0, .int), (tc 1, .byte), (tc 2, .boolean), (tc 3, .array .byte)]
-- the world's cells
def gt_f (w : pW) (c o k : Nat) : Option Value := match o with
  | 0 => none
  | j + 1 => match w[j]? with
    | some (.inr (c', fs)) => if c' = c then fs[k]? else none
    | _ => none
def gt_c (w : pW) (o : Nat) : Option Nat := match o with
  | 0 => none
  | j + 1 => match w[j]? with
    | some (.inr (c', _)) => some c'
    | _ => none
def pt_f (w : pW) (c o k : Nat) (v : Value) : Option pW := match o with
  | 0 => none
  | j + 1 => match w[j]? with
    | some (.inr (c', fs)) => if c' = c ∧ k < fs.length then some (w.set j (.inr (c, fs.set k v))) else none
    | _ => none
def gt_a (w : pW) (o : Nat) : Option (Nat × vp_A) := match o with
  | 0 => none
  | j + 1 => match w[j]? with
    | some (.inl a) => some a
    | _ => none
def pt_a (w : pW) (o : Nat) (a : Nat × vp_A) : pW := match o with
  | 0 => w
  | j + 1 => w.set j (.inl a)
def rx_d : rI := (0, .nop, 0, [], 0)
def rx_e (t : List (List rI)) (i : Nat) : rI := (t.getD (i / 16) []).getD (i % 16) rx_d
def rx_md : rM := (⟨"", "", ""⟩, ⟨#[]⟩, 0, none, [], 0, 0)
def rx_m (M : Nat) : rM := rx_ms.getD M rx_md
abbrev mN (M : Nat) : MethodName := (rx_m M).1
abbrev mC (M : Nat) : ByteArray := (rx_m M).2.1
abbrev mL (M : Nat) : Nat := (rx_m M).2.2.1
abbrev mR (M : Nat) : Option FieldType := (rx_m M).2.2.2.1
abbrev mW (M : Nat) : List Nat := (rx_m M).2.2.2.2.1
abbrev mA (M : Nat) : Nat × Nat := (rx_m M).2.2.2.2.2
/-- locals, stack, world, cells and slots made so far -/
abbrev rK : Type := Nat → List (Option Value) → List Value → pW → Nat → Nat → Prop
abbrev rQ : Type := Option Value → pW → Prop
abbrev rC : Type := Nat → List Value → pW → rQ → Prop
-- pieces
def rx_ii (f : Int32 → Int32 → Int32) (st : List Value) (k : List Value → Prop) : Prop := match st with
  | .int y :: .int x :: r => k (.int (f x y) :: r)
  | _ => False
def rx_ll (f : Int64 → Int64 → Int64) (st : List Value) (k : List Value → Prop) : Prop := match st with
  | .long y :: .long x :: r => k (.long (f x y) :: r)
  | _ => False
def rx_li (f : Int64 → Int32 → Int64) (st : List Value) (k : List Value → Prop) : Prop := match st with
  | .int y :: .long x :: r => k (.long (f x y) :: r)
  | _ => False
def rx_di (f : Int32 → Int32 → Int32) (st : List Value) (k : List Value → Prop) : Prop := match st with
  | .int y :: .int x :: r => ¬ y = 0 ∧ k (.int (f x y) :: r)
  | _ => False
def rx_i (f : Int32 → Int32) (st : List Value) (k : List Value → Prop) : Prop := match st with
  | .int x :: r => k (.int (f x) :: r)
  | _ => False
def rx_ldi (L : List (Option Value)) (j : Nat) (k : Value → Prop) : Prop := match L[j]? with
  | some (some (.int x)) => k (.int x)
  | _ => False
def rx_ldl (L : List (Option Value)) (j : Nat) (k : Value → Prop) : Prop := match L[j]? with
  | some (some (.long x)) => k (.long x)
  | _ => False
def rx_lda (L : List (Option Value)) (j : Nat) (k : Value → Prop) : Prop := match L[j]? with
  | some (some (.ref x)) => k (.ref x)
  | _ => False
/-- nothing wide stands just before place j -/
def rx_nw (L : List (Option Value)) : Nat → Bool
  | 0 => true
  | j + 1 => match L[j]? with
    | some (some (.long _)) => false
    | some (some (.double _)) => false
    | _ => true
def rx_sti (L : List (Option Value)) (j : Nat) (st : List Value) (k : List (Option Value) → List Value → Prop) : Prop := match st with
  | .int x :: r => (rx_nw L j = true ∧ j < L.length) ∧ k (L.set j (some (.int x))) r
  | _ => False
def rx_sta (L : List (Option Value)) (j : Nat) (st : List Value) (k : List (Option Value) → List Value → Prop) : Prop := match st with
  | .ref x :: r => (rx_nw L j = true ∧ j < L.length) ∧ k (L.set j (some (.ref x))) r
  | _ => False
def rx_inc (L : List (Option Value)) (j : Nat) (v : Int32) (k : List (Option Value) → Prop) : Prop := match L[j]? with
  | some (some (.int x)) => rx_nw L j = true ∧ k (L.set j (some (.int (x + v))))
  | _ => False
def rx_cmp (o : Jvm.ClassFile.Cond) (x y : Int32) (a b : Prop) : Prop := match o with
  | .eq => (x = y → a) ∧ (¬ x = y → b)
  | .ne => (¬ x = y → a) ∧ (x = y → b)
  | .lt => (x < y → a) ∧ (¬ x < y → b)
  | .ge => (y ≤ x → a) ∧ (¬ y ≤ x → b)
  | .gt => (y < x → a) ∧ (¬ y < x → b)
  | .le => (x ≤ y → a) ∧ (¬ x ≤ y → b)
def rx_at (info : List Nat) (k : Nat) : Nat := info.getD k 0
def rx_sz (l : List Value) : Nat := (l.map fun v => v.category).sum
def rx_call (call : rC) (info : List Nat) (lim : Nat × Nat) (st : List Value) (w : pW) (c s : Nat) (k : List Value → pW → Nat → Nat → Prop) : Prop :=
  let M := rx_at info 0
  let n := rx_at info 1
  match rx_at info 2 with
  | 0 => match st.drop n with
    | .ref o :: r => (n ≤ st.length ∧ (gt_c w o).map (fun ci => (rx_cl.getD ci ("", fun _ => ("", "", "", false), 0)).1) = some (mN M).cls ∧ rx_sz r ≤ 8 ∧ c + (mA M).1 ≤ lim.1 ∧ s + (mA M).2 ≤ lim.2) ∧ call M (.ref o :: (st.take n).reverse) w (fun v w' => k (v.toList ++ r) w' (c + (mA M).1) (s + (mA M).2))
    | _ => False
  | 1 => (n ≤ st.length ∧ rx_sz (st.drop n) ≤ 8 ∧ c + (mA M).1 ≤ lim.1 ∧ s + (mA M).2 ≤ lim.2) ∧ call M (st.take n).reverse w (fun v w' => k (v.toList ++ st.drop n) w' (c + (mA M).1) (s + (mA M).2))
  | 2 => (n ≤ st.length ∧ rx_sz (st.drop n) ≤ 8 ∧ c + (mA M).1 ≤ lim.1 ∧ s + (mA M).2 ≤ lim.2) ∧ call M (st.take n).reverse w (fun v w' => k (v.toList ++ st.drop n) w' (c + (mA M).1) (s + (mA M).2))
  | 3 => match st.drop n with
    | .ref o :: r => (n ≤ st.length ∧ rx_sz r ≤ 8 ∧ c + (mA M).1 ≤ lim.1 ∧ s + (mA M).2 ≤ lim.2) ∧ call M (.ref o :: (st.take n).reverse) w (fun v w' => k (v.toList ++ r) w' (c + (mA M).1) (s + (mA M).2))
    | _ => False
  | 10 => match st with
    | .int y :: .int x :: r => rx_sz r ≤ 8 ∧ k (.int (if x < y then y else x) :: r) w c s
    | _ => False
  | 11 => match st with
    | .int y :: .int x :: r => rx_sz r ≤ 8 ∧ k (.int (if y < x then y else x) :: r) w c s
    | _ => False
  | 12 => match st with
    | .ref _ :: r => rx_sz r ≤ 8 ∧ k r w c s
    | _ => False
  | 13 => match st with
    | .int n :: .int dp :: .ref a1 :: .int sp :: .ref a0 :: r => match gt_a w a0, gt_a w a1 with
      | some (0, n0, .inl f), some (0, n1, .inl g) => (rx_sz r ≤ 8 ∧ ¬ sp < 0 ∧ ¬ dp < 0 ∧ ¬ n < 0 ∧ sp.toNatClampNeg + n.toNatClampNeg ≤ n0 ∧ dp.toNatClampNeg + n.toNatClampNeg ≤ n1) ∧ k r (pt_a w a1 (0, n1, .inl (va_cpy f g sp.toNatClampNeg dp.toNatClampNeg n.toNatClampNeg))) c s
      | _, _ => False
    | _ => False
  | _ => False
def rx_ald (Lx : Nat) (xs : Nat → Int32) (t : Nat → Bool) (st : List Value) (w : pW) (k : List Value → Prop) : Prop := match st with
  | .int i :: .ref 0 :: r => t 0 = true ∧ vp_in i Lx ∧ k (.int (xs i.toNatClampNeg) :: r)
  | .int i :: .ref (o + 1) :: r => match gt_a w (o + 1) with
    | some (tg, n, .inl f) => t tg = true ∧ vp_in i n ∧ k (.int (f i.toNatClampNeg) :: r)
    | _ => False
  | _ => False
def rx_aald (st : List Value) (w : pW) (k : List Value → Prop) : Prop := match st with
  | .int i :: .ref o :: r => match gt_a w o with
    | some (3, n, .inr (.inr (.inr (.inr f)))) => vp_in i n ∧ ∃ y, f i.toNatClampNeg = some y ∧ k (.ref y :: r)
    | _ => False
  | _ => False
def rx_ast (t : Nat → Bool) (st : List Value) (w : pW) (k : List Value → pW → Prop) : Prop := match st with
  | .int x :: .int i :: .ref o :: r => match gt_a w o with
    | some (tg, n, .inl f) => t tg = true ∧ vp_in i n ∧ k r (pt_a w o (tg, n, .inl (upd f i.toNatClampNeg (vp_nar (rx_tg tg) x))))
    | _ => False
  | _ => False
def rx_len (Lx : Nat) (st : List Value) (w : pW) (k : List Value → Prop) : Prop := match st with
  | .ref 0 :: r => k (.int (Int32.ofNat Lx) :: r)
  | .ref (o + 1) :: r => match gt_a w (o + 1) with
    | some (tg, n, _) => tg < 4 ∧ k (.int (Int32.ofNat n) :: r)
    | _ => False
  | _ => False
def rx_tsw (lo hi : Int) (info : List Nat) (st : List Value) (k : Nat → List Value → Prop) : Prop := match st with
  | .int x :: r => (x.toInt < lo ∨ hi < x.toInt → k (rx_at info 0) r) ∧ (¬ x.toInt < lo → ¬ hi < x.toInt → k (rx_at info ((x.toInt - lo).toNat + 1)) r)
  | _ => False
/-- one instruction -/
def rx_st (call : rC) (Lx : Nat) (xs : Nat → Int32) (t : List (List rI)) (ret : Option FieldType) (lim : Nat × Nat) (Q : rQ) (K : rK) (i : Nat) (L : List (Option Value)) (st : List Value) (w : pW) (c s : Nat) : Prop :=
  match rx_e t i with
  | (_, ins, _, info, v) => match ins with
    | .iconst _ => K (i + 1) L (.int v :: st) w c s
    | .bipush _ => K (i + 1) L (.int v :: st) w c s
    | .sipush _ => K (i + 1) L (.int v :: st) w c s
    | .ldc _ => K (i + 1) L (.int v :: st) w c s
    | .ldc2_w _ => K (i + 1) L (.long (Int64.ofNat (rx_at info 0)) :: st) w c s
    | .iload j => rx_ldi L j (fun x => K (i + 1) L (x :: st) w c s)
    | .iload_n j => rx_ldi L j.val (fun x => K (i + 1) L (x :: st) w c s)
    | .lload_n j => rx_ldl L j.val (fun x => K (i + 1) L (x :: st) w c s)
    | .aload j => rx_lda L j (fun x => K (i + 1) L (x :: st) w c s)
    | .aload_n j => rx_lda L j.val (fun x => K (i + 1) L (x :: st) w c s)
    | .istore j => rx_sti L j st (fun L' r => K (i + 1) L' r w c s)
    | .istore_n j => rx_sti L j.val st (fun L' r => K (i + 1) L' r w c s)
    | .astore_n j => rx_sta L j.val st (fun L' r => K (i + 1) L' r w c s)
    | .iinc j _ => rx_inc L j v (fun L' => K (i + 1) L' st w c s)
    | .iadd => rx_ii (fun x y => x + y) st (fun r => K (i + 1) L r w c s)
    | .isub => rx_ii (fun x y => x - y) st (fun r => K (i + 1) L r w c s)
    | .imul => rx_ii (fun x y => x * y) st (fun r => K (i + 1) L r w c s)
    | .iand => rx_ii (fun x y => x &&& y) st (fun r => K (i + 1) L r w c s)
    | .ior => rx_ii (fun x y => x ||| y) st (fun r => K (i + 1) L r w c s)
    | .idiv => rx_di (fun x y => x / y) st (fun r => K (i + 1) L r w c s)
    | .irem => rx_di (fun x y => x - x / y * y) st (fun r => K (i + 1) L r w c s)
    | .ishl => rx_ii (fun x y => x <<< (y &&& 31)) st (fun r => K (i + 1) L r w c s)
    | .ishr => rx_ii (fun x y => x >>> (y &&& 31)) st (fun r => K (i + 1) L r w c s)
    | .iushr => rx_ii (fun x y => (x.toUInt32 >>> (y.toUInt32 &&& Int32.toUInt32 31)).toInt32) st (fun r => K (i + 1) L r w c s)
    | .i2b => rx_i (fun x => x.toInt8.toInt32) st (fun r => K (i + 1) L r w c s)
    | .i2l => match st with
      | .int x :: r => K (i + 1) L (.long x.toInt64 :: r) w c s
      | _ => False
    | .l2i => match st with
      | .long x :: r => K (i + 1) L (.int x.toInt32 :: r) w c s
      | _ => False
    | .ladd => rx_ll (fun x y => x + y) st (fun r => K (i + 1) L r w c s)
    | .lsub => rx_ll (fun x y => x - y) st (fun r => K (i + 1) L r w c s)
    | .land => rx_ll (fun x y => x &&& y) st (fun r => K (i + 1) L r w c s)
    | .lor => rx_ll (fun x y => x ||| y) st (fun r => K (i + 1) L r w c s)
    | .lshl => rx_li (fun x y => x <<< (y.toInt64 &&& 63)) st (fun r => K (i + 1) L r w c s)
    | .lshr => rx_li (fun x y => x >>> (y.toInt64 &&& 63)) st (fun r => K (i + 1) L r w c s)
    | .lushr => rx_li (fun x y => (x.toUInt64 >>> (y.toInt64.toUInt64 &&& Int64.toUInt64 63)).toInt64) st (fun r => K (i + 1) L r w c s)
    | .lcmp => match st with
      | .long y :: .long x :: r => K (i + 1) L (.int (lg_cmp x y) :: r) w c s
      | _ => False
    | .dup => match st with
      | x :: r => x.category = 1 ∧ K (i + 1) L (x :: x :: r) w c s
      | _ => False
    | .pop => match st with
      | x :: r => x.category = 1 ∧ K (i + 1) L r w c s
      | _ => False
    | .goto _ => K (rx_at info 0) L st w c s
    | .ifCond o _ => match st with
      | .int x :: r => rx_cmp o x 0 (K (rx_at info 0) L r w c s) (K (i + 1) L r w c s)
      | _ => False
    | .if_icmp o _ => match st with
      | .int y :: .int x :: r => rx_cmp o x y (K (rx_at info 0) L r w c s) (K (i + 1) L r w c s)
      | _ => False
    | .tableswitch _ lo hi _ => rx_tsw lo hi info st (fun j r => K j L r w c s)
    | .getfield _ => match st with
      | .ref o :: r => match gt_f w (rx_at info 0) o (rx_at info 1) with
        | some x => K (i + 1) L (x :: r) w c s
        | _ => False
      | _ => False
    | .putfield _ => match st with
      | x :: .ref o :: r => match pt_f w (rx_at info 0) o (rx_at info 1) x with
        | some w' => (narrow (rx_ty (rx_at info 0) (rx_at info 1)) x = x ∧ fits (rx_ty (rx_at info 0) (rx_at info 1)) x = true) ∧ K (i + 1) L r w' c s
        | _ => False
      | _ => False
    | .iaload => rx_ald Lx xs (fun t => t == 0) st w (fun r => K (i + 1) L r w c s)
    | .baload => rx_ald Lx xs (fun t => t == 1 || t == 2) st w (fun r => K (i + 1) L r w c s)
    | .aaload => rx_aald st w (fun r => K (i + 1) L r w c s)
    | .iastore => rx_ast (fun t => t == 0) st w (fun r w' => K (i + 1) L r w' c s)
    | .bastore => rx_ast (fun t => t == 1 || t == 2) st w (fun r w' => K (i + 1) L r w' c s)
    | .arraylength => rx_len Lx st w (fun r => K (i + 1) L r w c s)
    | .newarray _ => match st with
      | .int n :: r => (¬ n < 0 ∧ n.toNatClampNeg ≤ 100000 ∧ c + 1 ≤ lim.1 ∧ s + n.toNatClampNeg ≤ lim.2) ∧ K (i + 1) L (.ref (w.length + 1) :: r) (w ++ [.inl (rx_at info 0, n.toNatClampNeg, .inl (fun _ => 0))]) (c + 1) (s + n.toNatClampNeg)
      | _ => False
    | .new _ => (c + 1 ≤ lim.1 ∧ s + (rx_cl.getD (rx_at info 0) ("", fun _ => ("", "", "", false), 0)).2.2 ≤ lim.2) ∧ K (i + 1) L (.ref (w.length + 1) :: st) (w ++ [.inr (rx_at info 0, (List.range (rx_cl.getD (rx_at info 0) ("", fun _ => ("", "", "", false), 0)).2.2).map (fun k => defaultValue (rx_ty (rx_at info 0) k)))]) (c + 1) (s + (rx_cl.getD (rx_at info 0) ("", fun _ => ("", "", "", false), 0)).2.2)
    | .multianewarray _ _ => match st with
      | .int 64 :: .int 8 :: r => (c + 9 ≤ lim.1 ∧ s + 520 ≤ lim.2) ∧ K (i + 1) L (.ref (w.length + 1) :: r) (w ++ .inl (3, 8, .inr (.inr (.inr (.inr (fun j => if j < 8 then some (w.length + 2 + j) else none))))) :: List.replicate 8 (.inl (1, 64, .inl (fun _ => 0)))) (c + 9) (s + 520)
      | _ => False
    | .invokevirtual _ => rx_at info 2 = 0 ∧ rx_call call info lim st w c s (fun r w' c' s' => K (i + 1) L r w' c' s')
    | .invokestatic _ => (rx_at info 2 = 1 ∨ rx_at info 2 = 2 ∨ rx_at info 2 = 10 ∨ rx_at info 2 = 11 ∨ rx_at info 2 = 13) ∧ rx_call call info lim st w c s (fun r w' c' s' => K (i + 1) L r w' c' s')
    | .invokespecial _ => (rx_at info 2 = 3 ∨ rx_at info 2 = 12) ∧ rx_call call info lim st w c s (fun r w' c' s' => K (i + 1) L r w' c' s')
    | .ireturn => match st with
      | [.int x] => (∃ ty, ret = some ty ∧ narrow ty (.int x) = .int x) ∧ Q (some (.int x)) w
      | _ => False
    | .return_ => match st with
      | [] => ret = none ∧ Q none w
      | _ => False
    | _ => False
end
section
/-! PART 04: more holds behind an instruction if more holds behind what comes behind it; runs and calls -/
theorem mo_ii {f : Int32 → Int32 → Int32} {st : List Value} {k k' : List Value → Prop} (hk : ∀ r, k r → k' r) (h : rx_ii f st k) : rx_ii f st k' := by
  unfold rx_ii at h ⊢
  split at h
  · exact hk _ h
  · exact h.elim
theorem mo_ll {f : Int64 → Int64 → Int64} {st : List Value} {k k' : List Value → Prop} (hk : ∀ r, k r → k' r) (h : rx_ll f st k) : rx_ll f st k' := by
  unfold rx_ll at h ⊢
  split at h
  · exact hk _ h
  · exact h.elim
theorem mo_li {f : Int64 → Int32 → Int64} {st : List Value} {k k' : List Value → Prop} (hk : ∀ r, k r → k' r) (h : rx_li f st k) : rx_li f st k' := by
  unfold rx_li at h ⊢
  split at h
  · exact hk _ h
  · exact h.elim
theorem mo_di {f : Int32 → Int32 → Int32} {st : List Value} {k k' : List Value → Prop} (hk : ∀ r, k r → k' r) (h : rx_di f st k) : rx_di f st k' := by
  unfold rx_di at h ⊢
  split at h
  · exact ⟨h.1, hk _ h.2⟩
  · exact h.elim
theorem mo_i {f : Int32 → Int32} {st : List Value} {k k' : List Value → Prop} (hk : ∀ r, k r → k' r) (h : rx_i f st k) : rx_i f st k' := by
  unfold rx_i at h ⊢
  split at h
  · exact hk _ h
  · exact h.elim
theorem mo_ldi {L : List (Option Value)} {j : Nat} {k k' : Value → Prop} (hk : ∀ r, k r → k' r) (h : rx_ldi L j k) : rx_ldi L j k' := by
  unfold rx_ldi at h ⊢
  split at h
  · exact hk _ h
  · exact h.elim
theorem mo_ldl {L : List (Option Value)} {j : Nat} {k k' : Value → Prop} (hk : ∀ r, k r → k' r) (h : rx_ldl L j k) : rx_ldl L j k' := by
  unfold rx_ldl at h ⊢
  split at h
  · exact hk _ h
  · exact h.elim
theorem mo_lda {L : List (Option Value)} {j : Nat} {k k' : Value → Prop} (hk : ∀ r, k r → k' r) (h : rx_lda L j k) : rx_lda L j k' := by
  unfold rx_lda at h ⊢
  split at h
  · exact hk _ h
  · exact h.elim
theorem mo_sti {L : List (Option Value)} {j : Nat} {st : List Value} {k k' : List (Option Value) → List Value → Prop} (hk : ∀ l r, k l r → k' l r) (h : rx_sti L j st k) : rx_sti L j st k' := by
  unfold rx_sti at h ⊢
  split at h
  · exact ⟨h.1, hk _ _ h.2⟩
  · exact h.elim
theorem mo_sta {L : List (Option Value)} {j : Nat} {st : List Value} {k k' : List (Option Value) → List Value → Prop} (hk : ∀ l r, k l r → k' l r) (h : rx_sta L j st k) : rx_sta L j st k' := by
  unfold rx_sta at h ⊢
  split at h
  · exact ⟨h.1, hk _ _ h.2⟩
  · exact h.elim
theorem mo_inc {L : List (Option Value)} {j : Nat} {v : Int32} {k k' : List (Option Value) → Prop} (hk : ∀ l, k l → k' l) (h : rx_inc L j v k) : rx_inc L j v k' := by
  unfold rx_inc at h ⊢
  split at h
  · exact ⟨h.1, hk _ h.2⟩
  · exact h.elim
theorem mo_cmp {o : Jvm.ClassFile.Cond} {x y : Int32} {a b a' b' : Prop} (ha : a → a') (hb : b → b') (h : rx_cmp o x y a b) : rx_cmp o x y a' b' := by
  cases o <;> exact ⟨fun z => ha (h.1 z), fun z => hb (h.2 z)⟩
theorem mo_ald {Lx : Nat} {xs : Nat → Int32} {t : Nat → Bool} {st : List Value} {w : pW} {k k' : List Value → Prop} (hk : ∀ r, k r → k' r) (h : rx_ald Lx xs t st w k) : rx_ald Lx xs t st w k' := by
  unfold rx_ald at h ⊢
  split at h
  · exact ⟨h.1, h.2.1, hk _ h.2.2⟩
  · split at h
    · exact ⟨h.1, h.2.1, hk _ h.2.2⟩
    · exact h.elim
  · exact h.elim
theorem mo_aald {st : List Value} {w : pW} {k k' : List Value → Prop} (hk : ∀ r, k r → k' r) (h : rx_aald st w k) : rx_aald st w k' := by
  unfold rx_aald at h ⊢
  split at h
  · split at h
    · obtain ⟨h1, y, h2, h3⟩ := h
      exact ⟨h1, y, h2, hk _ h3⟩
    · exact h.elim
  · exact h.elim
theorem mo_ast {t : Nat → Bool} {st : List Value} {w : pW} {k k' : List Value → pW → Prop} (hk : ∀ r w, k r w → k' r w) (h : rx_ast t st w k) : rx_ast t st w k' := by
  unfold rx_ast at h ⊢
  split at h
  · split at h
    · exact ⟨h.1, h.2.1, hk _ _ h.2.2⟩
    · exact h.elim
  · exact h.elim
theorem mo_len {Lx : Nat} {st : List Value} {w : pW} {k k' : List Value → Prop} (hk : ∀ r, k r → k' r) (h : rx_len Lx st w k) : rx_len Lx st w k' := by
  unfold rx_len at h ⊢
  split at h
  · exact hk _ h
  · split at h
    · exact ⟨h.1, hk _ h.2⟩
    · exact h.elim
  · exact h.elim
theorem mo_tsw {lo hi : Int} {info : List Nat} {st : List Value} {k k' : Nat → List Value → Prop} (hk : ∀ j r, k j r → k' j r) (h : rx_tsw lo hi info st k) : rx_tsw lo hi info st k' := by
  unfold rx_tsw at h ⊢
  split at h
  · exact ⟨fun z => hk _ _ (h.1 z), fun z y => hk _ _ (h.2 z y)⟩
  · exact h.elim
def rx_mo (call : rC) : Prop := ∀ (M : Nat) (a : List Value) (w : pW) (Q Q' : rQ), (∀ v w', Q v w' → Q' v w') → call M a w Q → call M a w Q'
theorem mo_call {call : rC} (hc : rx_mo call) {info : List Nat} {lim : Nat × Nat} {st : List Value} {w : pW} {c s : Nat} {k k' : List Value → pW → Nat → Nat → Prop} (hk : ∀ r w c s, k r w c s → k' r w c s) (h : rx_call call info lim st w c s k) : rx_call call info lim st w c s k' := by
  unfold rx_call at h ⊢
  dsimp only at h ⊢
  split at h
  · split at h
    · exact ⟨h.1, hc _ _ _ _ _ (fun v w' z => hk _ _ _ _ z) h.2⟩
    · exact h.elim
  · exact ⟨h.1, hc _ _ _ _ _ (fun v w' z => hk _ _ _ _ z) h.2⟩
  · exact ⟨h.1, hc _ _ _ _ _ (fun v w' z => hk _ _ _ _ z) h.2⟩
  · split at h
    · exact ⟨h.1, hc _ _ _ _ _ (fun v w' z => hk _ _ _ _ z) h.2⟩
    · exact h.elim
  · split at h
    · exact ⟨h.1, hk _ _ _ _ h.2⟩
    · exact h.elim
  · split at h
    · exact ⟨h.1, hk _ _ _ _ h.2⟩
    · exact h.elim
  · split at h
    · exact ⟨h.1, hk _ _ _ _ h.2⟩
    · exact h.elim
  · split at h
    · split at h
      · exact ⟨h.1, hk _ _ _ _ h.2⟩
      · exact h.elim
    · exact h.elim
  · exact h.elim
set_option maxHeartbeats 4000000 in
theorem mo_st {call : rC} (hc : rx_mo call) {Lx : Nat} {xs : Nat → Int32} {t : List (List rI)} {ret : Option FieldType} {lim : Nat × Nat} {Q Q' : rQ} {K K' : rK} (hQ : ∀ v w, Q v w → Q' v w) (hK : ∀ i L st w c s, K i L st w c s → K' i L st w c s) {i : Nat} {L : List (Option Value)} {st : List Value} {w : pW} {c s : Nat}
    (h : rx_st call Lx xs t ret lim Q K i L st w c s) : rx_st call Lx xs t ret lim Q' K' i L st w c s := by
  unfold rx_st at h ⊢
  generalize rx_e t i = e at h ⊢
  obtain ⟨pc, ins, ln, info, v⟩ := e
  cases ins with
  | iconst n => exact hK _ _ _ _ _ _ h
  | bipush n => exact hK _ _ _ _ _ _ h
  | sipush n => exact hK _ _ _ _ _ _ h
  | ldc n => exact hK _ _ _ _ _ _ h
  | ldc2_w n => exact hK _ _ _ _ _ _ h
  | goto n => exact hK _ _ _ _ _ _ h
  | iload n => exact mo_ldi (k := fun x => K (i + 1) L (x :: st) w c s) (fun r z => hK _ _ _ _ _ _ z) h
  | iload_n n => exact mo_ldi (k := fun x => K (i + 1) L (x :: st) w c s) (fun r z => hK _ _ _ _ _ _ z) h
  | lload_n n => exact mo_ldl (k := fun x => K (i + 1) L (x :: st) w c s) (fun r z => hK _ _ _ _ _ _ z) h
  | aload n => exact mo_lda (k := fun x => K (i + 1) L (x :: st) w c s) (fun r z => hK _ _ _ _ _ _ z) h
  | aload_n n => exact mo_lda (k := fun x => K (i + 1) L (x :: st) w c s) (fun r z => hK _ _ _ _ _ _ z) h
  | istore n => exact mo_sti (k := fun L' r => K (i + 1) L' r w c s) (fun l r z => hK _ _ _ _ _ _ z) h
  | istore_n n => exact mo_sti (k := fun L' r => K (i + 1) L' r w c s) (fun l r z => hK _ _ _ _ _ _ z) h
  | astore_n n => exact mo_sta (k := fun L' r => K (i + 1) L' r w c s) (fun l r z => hK _ _ _ _ _ _ z) h
  | iinc n m => exact mo_inc (k := fun L' => K (i + 1) L' st w c s) (fun l z => hK _ _ _ _ _ _ z) h
  | iadd => exact mo_ii (k := fun r => K (i + 1) L r w c s) (fun r z => hK _ _ _ _ _ _ z) h
  | isub => exact mo_ii (k := fun r => K (i + 1) L r w c s) (fun r z => hK _ _ _ _ _ _ z) h
  | imul => exact mo_ii (k := fun r => K (i + 1) L r w c s) (fun r z => hK _ _ _ _ _ _ z) h
  | iand => exact mo_ii (k := fun r => K (i + 1) L r w c s) (fun r z => hK _ _ _ _ _ _ z) h
  | ior => exact mo_ii (k := fun r => K (i + 1) L r w c s) (fun r z => hK _ _ _ _ _ _ z) h
  | ishl => exact mo_ii (k := fun r => K (i + 1) L r w c s) (fun r z => hK _ _ _ _ _ _ z) h
  | ishr => exact mo_ii (k := fun r => K (i + 1) L r w c s) (fun r z => hK _ _ _ _ _ _ z) h
  | iushr => exact mo_ii (k := fun r => K (i + 1) L r w c s) (fun r z => hK _ _ _ _ _ _ z) h
  | idiv => exact mo_di (k := fun r => K (i + 1) L r w c s) (fun r z => hK _ _ _ _ _ _ z) h
  | irem => exact mo_di (k := fun r => K (i + 1) L r w c s) (fun r z => hK _ _ _ _ _ _ z) h
  | i2b => exact mo_i (k := fun r => K (i + 1) L r w c s) (fun r z => hK _ _ _ _ _ _ z) h
  | ladd => exact mo_ll (k := fun r => K (i + 1) L r w c s) (fun r z => hK _ _ _ _ _ _ z) h
  | lsub => exact mo_ll (k := fun r => K (i + 1) L r w c s) (fun r z => hK _ _ _ _ _ _ z) h
  | land => exact mo_ll (k := fun r => K (i + 1) L r w c s) (fun r z => hK _ _ _ _ _ _ z) h
  | lor => exact mo_ll (k := fun r => K (i + 1) L r w c s) (fun r z => hK _ _ _ _ _ _ z) h
  | lshl => exact mo_li (k := fun r => K (i + 1) L r w c s) (fun r z => hK _ _ _ _ _ _ z) h
  | lshr => exact mo_li (k := fun r => K (i + 1) L r w c s) (fun r z => hK _ _ _ _ _ _ z) h
  | lushr => exact mo_li (k := fun r => K (i + 1) L r w c s) (fun r z => hK _ _ _ _ _ _ z) h
  | i2l =>
    dsimp only at h ⊢
    split at h
    · exact hK _ _ _ _ _ _ h
    · exact h.elim
  | l2i =>
    dsimp only at h ⊢
    split at h
    · exact hK _ _ _ _ _ _ h
    · exact h.elim
  | lcmp =>
    dsimp only at h ⊢
    split at h
    · exact hK _ _ _ _ _ _ h
    · exact h.elim
  | dup =>
    dsimp only at h ⊢
    split at h
    · exact ⟨h.1, hK _ _ _ _ _ _ h.2⟩
    · exact h.elim
  | pop =>
    dsimp only at h ⊢
    split at h
    · exact ⟨h.1, hK _ _ _ _ _ _ h.2⟩
    · exact h.elim
  | newarray n =>
    dsimp only at h ⊢
    split at h
    · exact ⟨h.1, hK _ _ _ _ _ _ h.2⟩
    · exact h.elim
  | multianewarray n m =>
    dsimp only at h ⊢
    split at h
    · exact ⟨h.1, hK _ _ _ _ _ _ h.2⟩
    · exact h.elim
  | ifCond o n =>
    dsimp only at h ⊢
    split at h
    · exact mo_cmp (hK _ _ _ _ _ _) (hK _ _ _ _ _ _) h
    · exact h.elim
  | if_icmp o n =>
    dsimp only at h ⊢
    split at h
    · exact mo_cmp (hK _ _ _ _ _ _) (hK _ _ _ _ _ _) h
    · exact h.elim
  | tableswitch d lo hi n => exact mo_tsw (k := fun j r => K j L r w c s) (fun j r z => hK _ _ _ _ _ _ z) h
  | getfield n =>
    dsimp only at h ⊢
    split at h
    · split at h
      · exact hK _ _ _ _ _ _ h
      · exact h.elim
    · exact h.elim
  | putfield n =>
    dsimp only at h ⊢
    split at h
    · split at h
      · exact ⟨h.1, hK _ _ _ _ _ _ h.2⟩
      · exact h.elim
    · exact h.elim
  | iaload => exact mo_ald (k := fun r => K (i + 1) L r w c s) (fun r z => hK _ _ _ _ _ _ z) h
  | baload => exact mo_ald (k := fun r => K (i + 1) L r w c s) (fun r z => hK _ _ _ _ _ _ z) h
  | aaload => exact mo_aald (k := fun r => K (i + 1) L r w c s) (fun r z => hK _ _ _ _ _ _ z) h
  | iastore => exact mo_ast (k := fun r w' => K (i + 1) L r w' c s) (fun r w z => hK _ _ _ _ _ _ z) h
  | bastore => exact mo_ast (k := fun r w' => K (i + 1) L r w' c s) (fun r w z => hK _ _ _ _ _ _ z) h
  | arraylength => exact mo_len (k := fun r => K (i + 1) L r w c s) (fun r z => hK _ _ _ _ _ _ z) h
  | new n => exact ⟨h.1, hK _ _ _ _ _ _ h.2⟩
  | invokevirtual n => exact ⟨h.1, mo_call hc (k := fun r w' c' s' => K (i + 1) L r w' c' s') (fun r w c s z => hK _ _ _ _ _ _ z) h.2⟩
  | invokestatic n => exact ⟨h.1, mo_call hc (k := fun r w' c' s' => K (i + 1) L r w' c' s') (fun r w c s z => hK _ _ _ _ _ _ z) h.2⟩
  | invokespecial n => exact ⟨h.1, mo_call hc (k := fun r w' c' s' => K (i + 1) L r w' c' s') (fun r w c s z => hK _ _ _ _ _ _ z) h.2⟩
  | ireturn =>
    dsimp only at h ⊢
    split at h
    · exact ⟨h.1, hQ _ _ h.2⟩
    · exact h.elim
  | return_ =>
    dsimp only at h ⊢
    split at h
    · exact ⟨h.1, hQ _ _ h.2⟩
    · exact h.elim
  | _ => exact h.elim
/-- a run: the least that holds wherever it holds behind the next instruction -/
def rx_P (call : rC) (Lx : Nat) (xs : Nat → Int32) (t : List (List rI)) (ret : Option FieldType) (lim : Nat × Nat) (Q : rQ) (i : Nat) (L : List (Option Value)) (st : List Value) (w : pW) (c s : Nat) : Prop :=
  ∀ K : rK, (∀ i L st w c s, rx_st call Lx xs t ret lim Q K i L st w c s → K i L st w c s) → K i L st w c s
theorem px_st {call : rC} (hc : rx_mo call) {Lx : Nat} {xs : Nat → Int32} {t : List (List rI)} {ret : Option FieldType} {lim : Nat × Nat} {Q : rQ} {i : Nat} {L : List (Option Value)} {st : List Value} {w : pW} {c s : Nat}
    (h : rx_st call Lx xs t ret lim Q (rx_P call Lx xs t ret lim Q) i L st w c s) : rx_P call Lx xs t ret lim Q i L st w c s := by
  intro K hK
  exact hK _ _ _ _ _ _ (mo_st hc (fun _ _ z => z) (fun i L st w c s z => z K hK) h)
theorem px_mo {call : rC} (hc : rx_mo call) {Lx : Nat} {xs : Nat → Int32} {t : List (List rI)} {ret : Option FieldType} {lim : Nat × Nat} {Q Q' : rQ} (hQ : ∀ v w, Q v w → Q' v w) {i : Nat} {L : List (Option Value)} {st : List Value} {w : pW} {c s : Nat}
    (h : rx_P call Lx xs t ret lim Q i L st w c s) : rx_P call Lx xs t ret lim Q' i L st w c s :=
  h (rx_P call Lx xs t ret lim Q') (fun _ _ _ _ _ _ z => px_st hc (mo_st hc hQ (fun _ _ _ _ _ _ z => z) z))
/-- the locals with which a method begins: a wide argument takes two places -/
def rx_en : List Value → List (Option Value)
  | [] => []
  | v :: l => if v.category = 2 then some v :: none :: rx_en l else some v :: rx_en l
def rx_l0 (args : List Value) (n : Nat) : List (Option Value) := rx_en args ++ List.replicate (n - (rx_en args).length) none
/-- a call of method M, at most d calls deep -/
def rx_R (Lx : Nat) (xs : Nat → Int32) : Nat → rC
  | 0 => fun _ _ _ _ => False
  | d + 1 => fun M args w Q => (rx_en args).length ≤ mL M ∧ rx_P (rx_R Lx xs d) Lx xs (rx_tt.getD M []) (mR M) (mA M) Q 0 (rx_l0 args (mL M)) [] w 0 0
theorem mo_R (Lx : Nat) (xs : Nat → Int32) : ∀ d, rx_mo (rx_R Lx xs d)
  | 0 => fun _ _ _ _ _ _ h => h.elim
  | d + 1 => fun _ _ _ _ _ hQ h => ⟨h.1, px_mo (mo_R Lx xs d) hQ h.2⟩
end
